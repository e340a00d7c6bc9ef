/-! calls on both sides, 1 -/
section O1
variable {x x0 y : xX} {o : Nat → Int64} {N C : Nat} {q : List Nat} {t : Nat} {w : xW}
/-- the reference's answer and state behind a call -/
def opP (x' : xX) (T code : Nat) (b : Int32) (x0 : xX) (o : Nat → Int64) : xR → xW → Prop := fun r2 w2 => ∃ y' b2, r2 = .inl (some (.int b2)) ∧ w2 = wW x0 y' o ∧ (code = 0 → b2 = b) ∧ y'.1 7 = nI code ∧ ∃ N' C' q' t', t' ≤ T ∧ Rel N' C' q' t' x' y'
/-- a call on both sides -/
def opR (kc km : Nat) (as : List Value) (es : Nat → Nat) (T : Nat) (x y : xX) : Prop := ∃ r x' code b, (∀ y0 o, xCW 20 kc (.ref 0 :: as) (wW x y0 o) (xIs r (wW x' y0 o))) ∧ ((r = .inl (some (.int b)) ∧ code = 0) ∨ ∃ e, r = .inr e ∧ es e = code ∧ 1 ≤ code) ∧ ∀ x0 o, xCW 20 km (.ref 15 :: as) (wW x0 y o) (opP x' T code b x0 o)
theorem opR.thr {kc km T code e : Nat} {as : List Value} {es : Nat → Nat} (h : Rel N C q t x y) (hT : t ≤ T) (he : es e = code) (h1 : 1 ≤ code) (hc : ∀ y0 o, xCW 20 kc (.ref 0 :: as) (wW x y0 o) (xIs (.inr e) (wW x y0 o))) (hm : ∀ x0 o, ∃ v, xCW 20 km (.ref 15 :: as) (wW x0 y o) (xIs (.inl (some (.int v))) (wW x0 (sI y 7 (nI code)) o))) : opR kc km as es T x y :=
  ⟨.inr e, x, code, 0, hc, Or.inr ⟨e, rfl, he, h1⟩, fun x0 o => by
    obtain ⟨v, hv⟩ := hm x0 o
    refine hv.mono (fun r w hr => ?_)
    obtain ⟨rfl, rfl⟩ := hr
    exact ⟨sI y 7 (nI code), v, rfl, rfl, fun z => by omega, rfl, N, C, q, t, hT, h⟩⟩
theorem opR.ok {kc km T : Nat} {as : List Value} {es : Nat → Nat} {x' : xX} {v : Int32} (hc : ∀ y0 o, xCW 20 kc (.ref 0 :: as) (wW x y0 o) (xIs (.inl (some (.int v))) (wW x' y0 o))) (hm : ∀ x0 o, xCW 20 km (.ref 15 :: as) (wW x0 y o) (opP x' T 0 v x0 o)) : opR kc km as es T x y :=
  ⟨_, x', 0, v, hc, Or.inl ⟨rfl, rfl⟩, hm⟩
theorem opR.rd {kc km T : Nat} {as : List Value} {es : Nat → Nat} {x' : xX} {v : Int32} (h : Rel N C q t x' y) (hT : t ≤ T) (hc : ∀ y0 o, xCW 20 kc (.ref 0 :: as) (wW x y0 o) (xIs (.inl (some (.int v))) (wW x' y0 o))) (hm : ∀ x0 o, xCW 20 km (.ref 15 :: as) (wW x0 y o) (xIs (.inl (some (.int v))) (wW x0 (sI y 7 (nI 0)) o))) : opR kc km as es T x y :=
  opR.ok hc (fun x0 o => by
    refine (hm x0 o).mono (fun r w hr => ?_)
    obtain ⟨rfl, rfl⟩ := hr
    exact ⟨sI y 7 (nI 0), v, rfl, rfl, fun _ => rfl, rfl, N, C, q, t, hT, h⟩)
theorem opP.mk {x' y' : xX} {T : Nat} {b : Int32} (h : Rel N C q t x' y') (hT : t ≤ T) (h7 : y'.1 7 = nI 0) : opP x' T 0 b x0 o (.inl (some (.int b))) (wW x0 y' o) :=
  ⟨y', b, rfl, rfl, fun _ => rfl, h7, N, C, q, t, hT, h⟩
def esA : Nat → Nat
  | 0 => 1
  | 1 => 2
  | _ => 0
def esI : Nat → Nat
  | 2 => 1
  | 1 => 2
  | _ => 0
def esL : Nat → Nat
  | 2 => 1
  | 0 => 2
  | _ => 0
def esN : Nat → Nat
  | 2 => 1
  | 0 => 2
  | 1 => 3
  | _ => 0
theorem inR_iff {v lo hi : Int32} : inR v lo hi = true ↔ ¬ v < lo ∧ v ≤ hi := by
  unfold inR
  rw [Bool.and_eq_true, decide_eq_true_eq, decide_eq_true_eq]
  exact ⟨fun z => ⟨z.1, fa_of_nlt z.2⟩, fun z => ⟨z.1, fun w => (fa_of_lt w).2.1 z.2⟩⟩
theorem inR_no {v lo hi : Int32} (h : inR v lo hi = false) : v < lo ∨ ¬ v ≤ hi := by
  by_cases h1 : v < lo
  · exact Or.inl h1
  · exact Or.inr (fun h2 => by rw [inR_iff.mpr ⟨h1, h2⟩] at h; cases h)
theorem rAdd (h : Rel N C q t x y) (hN : N < 20) (ht : t < 1000000) (v : Int32) : Rel (N + 1) C q (t + 1) (cAdd x N v) (sI (sA (sI (sA y 0 N v) 1 (y.1 1 + nI 1)) 2 N (y.1 1 + nI 1)) 0 (y.1 0 + nI 1)) := by
  obtain ⟨⟨⟨⟨w1, w2, w3, w4, w5, w6⟩, g2, g3, g4⟩, ⟨a1, a2, a3, a4⟩, ⟨b1, b2, b3, b4⟩, cc⟩, ⟨n0, n1, n2, n3, n4⟩, ⟨r0, r1, r3, r4, r6, r7, r8⟩, ⟨ra, rq⟩, s⟩ := h
  refine ⟨⟨⟨⟨?_, by omega, w3, w4, w5, w6⟩, g2, g3, g4⟩, ⟨?_, by omega, fun k' hk' => ?_, fun i k' hik hk' => ?_⟩, ⟨fun k' => ?_, fun k' hk' => ?_, fun k' c hb => ?_, b4⟩, cc⟩, ⟨?_, ?_, n2, n3, n4⟩, ⟨?_, ?_, r3, r4, r6, r7, r8⟩, ⟨fun k' hk' => ?_, rq⟩, s⟩
  · show nI N + nI 1 = nI (N + 1)
    rw [nI_add]
  · show x.1 2 + nI 1 = nI (t + 1)
    rw [a1, nI_add]
  · show ∃ a, a < t + 1 ∧ upd (x.2 2) N (x.1 2) k' = nI a
    by_cases e : k' = N
    · subst e; exact ⟨t, by omega, by rw [pk_us, a1]⟩
    · obtain ⟨a, h1, h2⟩ := a3 k' (by omega)
      exact ⟨a, by omega, by rw [pk_un e, h2]⟩
  · show upd (x.2 2) N (x.1 2) i ≠ upd (x.2 2) N (x.1 2) k'
    by_cases e : k' = N
    · subst e
      rw [pk_us, pk_un (by omega), a1]
      obtain ⟨a, h1, h2⟩ := a3 i (by omega)
      rw [h2]
      intro z
      rw [nI_eq (by omega) (by omega)] at z
      omega
    · rw [pk_un e, pk_un (by omega)]
      exact a4 i k' hik (by omega)
  · show ∃ j', j' ≤ 4 ∧ upd (x.2 1) N (nI 0) k' = nI j'
    by_cases e : k' = N
    · subst e; exact ⟨0, by omega, pk_us⟩
    · rw [pk_un e]; exact b1 k'
  · show upd (x.2 1) N (nI 0) k' = nI 0
    rw [pk_un (by omega)]
    exact b2 k' (by omega)
  · have := b3 k' c hb
    exact ⟨by omega, this.2⟩
  · show y.1 0 + nI 1 = nI (N + 1)
    rw [n0, nI_add]
  · show y.1 1 + nI 1 = nI (t + 1)
    rw [n1, nI_add]
  · show upd (y.2 0) N v = upd (x.2 0) N v
    rw [r0]
  · show y.2 1 = upd (x.2 1) N (nI 0)
    rw [r1, fa_upd_same (b2 N (Nat.le_refl _))]
  · show upd (y.2 2) N (y.1 1 + nI 1) k' = upd (x.2 2) N (x.1 2) k' + nI 1
    by_cases e : k' = N
    · subst e; rw [pk_us, pk_us, n1, a1]
    · rw [pk_un e, pk_un e]; exact ra k' (by omega)
set_option maxHeartbeats 4000000 in
theorem op_card {T : Nat} (h : Rel N C q t x y) (hT : t + 100 ≤ T) (hT2 : T ≤ 1000000) (v : Int32) : opR k_X2_card k_X3_card [.int v] esA T x y := by
  have n0 := h.2.1.1
  have hN := h.1.n
  cases hr : inR v (nI 0) (nI 9)
  · refine opR.thr (e := 0) (code := 1) h (by omega) rfl (by omega) (fun _ _ => c_card_0 (inR_no hr)) (fun x0 o => ⟨nI 0, ?_⟩)
    have hi := m_in 18 v (nI 0) (nI 9) (w := wW x0 y o)
    rw [hr] at hi
    refine xWp.gc rfl trivial rfl hi (by decide) ?_
    refine xWp.gb rfl trivial rfl (fun _ => ?_) (fun _ => ?_)
    · refine xWp.gc rfl trivial rfl (m_goes _ false false true) (by decide) ?_
      refine xWp.gb rfl trivial rfl (fun _ => ?_) (fun h => absurd (by decide) h)
      exact xWp.gf rfl trivial rfl (Or.inl rfl) ⟨rfl, rfl⟩
    · refine xWp.gc rfl trivial rfl (m_goes _ false true true) (by decide) ?_
      refine xWp.gb rfl trivial rfl (fun _ => ?_) (fun h => absurd (by decide) h)
      exact xWp.gf rfl trivial rfl (Or.inl rfl) ⟨rfl, rfl⟩
  · obtain ⟨v1, v2⟩ := inR_iff.mp hr
    by_cases hN2 : N < 20
    · refine opR.ok (fun _ _ => c_card h.1.wf v1 v2 hN2) (fun x0 o => ?_)
      have hi := m_in 18 v (nI 0) (nI 9) (w := wW x0 y o)
      rw [hr] at hi
      refine xWp.gc rfl trivial rfl hi (by decide) ?_
      refine xWp.gb rfl trivial rfl (fun h9 => ?_) (fun _ => ?_)
      · have h9' : nI 20 ≤ y.1 0 := h9
        rw [n0, le_nI (by omega) (by omega)] at h9'
        omega
      · refine xWp.gc rfl trivial rfl (m_goes _ true true true) (by decide) ?_
        refine xWp.gb rfl trivial rfl (fun h => absurd h (by decide)) (fun _ => ?_)
        have hi0 : vp_in (y.1 0) 20 := by rw [n0]; exact in_nI (by omega) (by omega)
        have e0 : (y.1 0).toNatClampNeg = N := by rw [n0]; exact cl_nI (by omega)
        have e1 : y.1 0 + nI 1 - nI 1 = nI N := by rw [n0, nI_add, pk_sub (by omega)]; rfl
        have hr := rAdd h hN2 (by omega) v
        rw [← e0] at hr
        have hr2 : Rel ((y.1 0).toNatClampNeg + 1) C q (t + 1) (cAdd x (y.1 0).toNatClampNeg v) (sI (sA (sI (sA (sI y 7 (nI 0)) 0 (y.1 0).toNatClampNeg v) 1 (y.1 1 + nI 1)) 2 (y.1 0).toNatClampNeg (y.1 1 + nI 1)) 0 (y.1 0 + nI 1)) := hr
        refine xWp.gf rfl ⟨hi0, hi0, trivial⟩ rfl (Or.inl rfl) ⟨(sI (sA (sI (sA (sI y 7 (nI 0)) 0 (y.1 0).toNatClampNeg v) 1 (y.1 1 + nI 1)) 2 (y.1 0).toNatClampNeg (y.1 1 + nI 1)) 0 (y.1 0 + nI 1)), y.1 0 + nI 1 - nI 1, rfl, rfl, fun _ => e1, rfl, _, _, _, _, ?_, by rw [e0] at hr2 ⊢; exact hr2⟩
        omega
    · refine opR.thr (e := 1) (code := 2) h (by omega) rfl (by omega) (fun _ _ => c_card_1 h.1.wf v1 v2 hN2) (fun x0 o => ⟨nI 0, ?_⟩)
      have hi := m_in 18 v (nI 0) (nI 9) (w := wW x0 y o)
      rw [hr] at hi
      refine xWp.gc rfl trivial rfl hi (by decide) ?_
      refine xWp.gb rfl trivial rfl (fun _ => ?_) (fun h9 => ?_)
      · refine xWp.gc rfl trivial rfl (m_goes _ true false true) (by decide) ?_
        refine xWp.gb rfl trivial rfl (fun _ => ?_) (fun h => absurd (by decide) h)
        exact xWp.gf rfl trivial rfl (Or.inl rfl) ⟨rfl, rfl⟩
      · have h9' : ¬ nI 20 ≤ y.1 0 := h9
        rw [n0, le_nI (by omega) (by omega)] at h9'
        omega
theorem rChg (h : Rel N C q t x y) (hC : C < 30) (v : Int32) : Rel N (C + 1) q t (cChg x C v) (sI (sA y 7 C v) 2 (y.1 2 + nI 1)) := by
  obtain ⟨⟨⟨⟨w1, w2, w3, w4, w5, w6⟩, g2, g3, g4⟩, a, ⟨b1, b2, b3, b4⟩, ⟨c1, c2, c3⟩⟩, ⟨n0, n1, n2, n3, n4⟩, ⟨r0, r1, r3, r4, r6, r7, r8⟩, rr, s⟩ := h
  refine ⟨⟨⟨⟨w1, w2, rfl, by omega, w5, w6⟩, g2, g3, fun c => ?_⟩, a, ⟨b1, b2, fun k c hb => ?_, b4⟩, ⟨fun c d hb => ?_, fun c => ?_, fun c hc => ?_⟩⟩, ⟨n0, n1, ?_, n3, n4⟩, ⟨r0, r1, r3, r4, r6, ?_, ?_⟩, rr, s⟩
  · show c ∈ q ↔ c < C + 1 ∧ upd (x.2 10) C (nI 0) c = nI 1
    rw [g4, fa_upd_same (c3 C (Nat.le_refl _))]
    constructor
    · exact fun z => ⟨by omega, z.2⟩
    · rintro ⟨z1, z2⟩
      refine ⟨?_, z2⟩
      rcases Nat.lt_or_ge c C with e | e
      · exact e
      · rw [c3 c e] at z2
        exact absurd z2 (by decide)
  · have := b3 k c hb
    exact ⟨this.1, by omega⟩
  · have := c1 c d hb
    exact ⟨by omega, this.2⟩
  · show ∃ s, s ≤ 3 ∧ upd (x.2 10) C (nI 0) c = nI s
    rw [fa_upd_same (c3 C (Nat.le_refl _))]
    exact c2 c
  · show upd (x.2 10) C (nI 0) c = nI 0
    rw [fa_upd_same (c3 C (Nat.le_refl _))]
    exact c3 c (by omega)
  · show y.1 2 + nI 1 = nI (C + 1)
    rw [n2, nI_add]
  · show upd (y.2 7) C v = upd (x.2 7) C v
    rw [r7]
  · show y.2 8 = upd (x.2 10) C (nI 0)
    rw [r8, fa_upd_same (c3 C (Nat.le_refl _))]
set_option maxHeartbeats 4000000 in
theorem op_change {T : Nat} (h : Rel N C q t x y) (hT : t + 100 ≤ T) (v : Int32) : opR k_X2_change k_X3_change [.int v] esA T x y := by
  have n2 := h.2.1.2.2.1
  have hC := h.1.c
  cases hr : inR v (nI 1) (nI 9)
  · refine opR.thr (e := 0) (code := 1) h (by omega) rfl (by omega) (fun _ _ => c_change_0 (inR_no hr)) (fun x0 o => ⟨nI 0, ?_⟩)
    have hi := m_in 18 v (nI 1) (nI 9) (w := wW x0 y o)
    rw [hr] at hi
    refine xWp.gc rfl trivial rfl hi (by decide) ?_
    refine xWp.gb rfl trivial rfl (fun _ => ?_) (fun _ => ?_)
    · refine xWp.gc rfl trivial rfl (m_goes _ false false true) (by decide) ?_
      refine xWp.gb rfl trivial rfl (fun _ => ?_) (fun h => absurd (by decide) h)
      exact xWp.gf rfl trivial rfl (Or.inl rfl) ⟨rfl, rfl⟩
    · refine xWp.gc rfl trivial rfl (m_goes _ false true true) (by decide) ?_
      refine xWp.gb rfl trivial rfl (fun _ => ?_) (fun h => absurd (by decide) h)
      exact xWp.gf rfl trivial rfl (Or.inl rfl) ⟨rfl, rfl⟩
  · obtain ⟨v1, v2⟩ := inR_iff.mp hr
    by_cases hC2 : C < 30
    · refine opR.ok (fun _ _ => c_change h.1.wf v1 v2 hC2) (fun x0 o => ?_)
      have hi := m_in 18 v (nI 1) (nI 9) (w := wW x0 y o)
      rw [hr] at hi
      refine xWp.gc rfl trivial rfl hi (by decide) ?_
      refine xWp.gb rfl trivial rfl (fun h9 => ?_) (fun _ => ?_)
      · have h9' : nI 30 ≤ y.1 2 := h9
        rw [n2, le_nI (by omega) (by omega)] at h9'
        omega
      · refine xWp.gc rfl trivial rfl (m_goes _ true true true) (by decide) ?_
        refine xWp.gb rfl trivial rfl (fun h => absurd h (by decide)) (fun _ => ?_)
        have hi0 : vp_in (y.1 2) 30 := by rw [n2]; exact in_nI (by omega) (by omega)
        have e0 : (y.1 2).toNatClampNeg = C := by rw [n2]; exact cl_nI (by omega)
        have e1 : y.1 2 + nI 1 - nI 1 = nI C := by rw [n2, nI_add, pk_sub (by omega)]; rfl
        have hr := rChg h hC2 v
        have hr2 : Rel N (C + 1) q t (cChg x C v) (sI (sA (sI y 7 (nI 0)) 7 C v) 2 (y.1 2 + nI 1)) := hr
        refine xWp.gf rfl ⟨hi0, trivial⟩ rfl (Or.inl rfl) ⟨(sI (sA (sI y 7 (nI 0)) 7 (y.1 2).toNatClampNeg v) 2 (y.1 2 + nI 1)), y.1 2 + nI 1 - nI 1, rfl, rfl, fun _ => e1, rfl, _, _, _, _, ?_, by rw [e0]; exact hr2⟩
        omega
    · refine opR.thr (e := 1) (code := 2) h (by omega) rfl (by omega) (fun _ _ => c_change_1 h.1.wf v1 v2 hC2) (fun x0 o => ⟨nI 0, ?_⟩)
      have hi := m_in 18 v (nI 1) (nI 9) (w := wW x0 y o)
      rw [hr] at hi
      refine xWp.gc rfl trivial rfl hi (by decide) ?_
      refine xWp.gb rfl trivial rfl (fun _ => ?_) (fun h9 => ?_)
      · refine xWp.gc rfl trivial rfl (m_goes _ true false true) (by decide) ?_
        refine xWp.gb rfl trivial rfl (fun _ => ?_) (fun h => absurd (by decide) h)
        exact xWp.gf rfl trivial rfl (Or.inl rfl) ⟨rfl, rfl⟩
      · have h9' : ¬ nI 30 ≤ y.1 2 := h9
        rw [n2, le_nI (by omega) (by omega)] at h9'
        omega
theorem ix_inj {k k' c c' : Nat} (hc : c < 30) (hc' : c' < 30) : 30 * k' + c' = 30 * k + c ↔ k' = k ∧ c' = c := by omega
theorem rName (h : Rel N C q t x y) {k d : Nat} (hk : k < N) (hd : d < C) (b : Bool) : Rel N C q t (cName x k d b) (sA y 5 (30 * k + d) (bI b)) := by
  have hC := h.1.c
  obtain ⟨⟨g, a, ⟨b1, b2, b3, b4⟩, cc⟩, ns, rs, rr, ⟨s5, s9, s10, s11⟩⟩ := h
  refine ⟨⟨g, a, ⟨b1, b2, fun k' c hb => ?_, b4⟩, cc⟩, ns, rs, rr, ⟨fun k' c hk' hc => ?_, s9, s10, s11⟩⟩
  · have hb' : bt (upd (x.2 3) k (wth (x.2 3 k) d b) k') c = true := hb
    by_cases e : k' = k
    · subst e
      rw [pk_us, bt_wth (by omega)] at hb'
      split at hb'
      · omega
      · exact b3 _ _ hb'
    · rw [pk_un e] at hb'
      exact b3 _ _ hb'
  · show upd (y.2 5) (30 * k + d) (bI b) (30 * k' + c) = bI (bt (upd (x.2 3) k (wth (x.2 3 k) d b) k') c)
    have ij := ix_inj (k := k) (k' := k') (c := d) (c' := c) (by omega) hc
    by_cases e : k' = k
    · subst e
      rw [pk_us, bt_wth (by omega)]
      by_cases e2 : c = d
      · subst e2; rw [pk_us, if_pos rfl]
      · rw [pk_un (fun z => e2 (ij.mp z).2), if_neg e2]
        exact s5 _ _ hk' hc
    · rw [pk_un (fun z => e (ij.mp z).1), pk_un e]
      exact s5 _ _ hk' hc
theorem bI_ne (b : Bool) : decide (¬ bI b = 0) = b := by cases b <;> decide
end O1
