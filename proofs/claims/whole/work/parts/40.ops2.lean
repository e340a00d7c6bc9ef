/-! calls on both sides, 2 -/
section O2
variable {x x0 y : xX} {o : Nat → Int64} {N C : Nat} {q : List Nat} {t : Nat} {w : xW}
set_option maxHeartbeats 4000000 in
theorem op_name {T : Nat} (h : Rel N C q t x y) (hT : t + 100 ≤ T) (c d : Int32) (b : Bool) : opR k_X2_name k_X3_name [.int c, .int d, .int (bI b)] esI T x y := by
  have n0 := h.2.1.1
  have n2 := h.2.1.2.2.1
  have hN := h.1.n
  have hC := h.1.c
  have hcol := h.2.2.1.2.1
  have thr1 : ∀ x0 o, xAt k_X3_name 19 (xIs (.inl (some (.int (nI 0)))) (wW x0 (sI y 7 (nI 1)) o)) (20, [some (.ref 15), some (.int c), some (.int d), some (.int (bI b)), none], [], wW x0 y o, 0) := fun x0 o => by
    refine xWp.gb rfl trivial rfl (fun _ => ?_) (fun h => absurd (by decide) h)
    refine xWp.gc rfl trivial rfl (m_goes _ false false true) (by decide) ?_
    refine xWp.gb rfl trivial rfl (fun _ => ?_) (fun h => absurd (by decide) h)
    exact xWp.gf rfl trivial rfl (Or.inl rfl) ⟨rfl, rfl⟩
  cases hc : inB c (nI N)
  · refine opR.thr (e := 2) (code := 1) h (by omega) rfl (by omega) (fun _ _ => c_name_2a h.1.wf hc) (fun x0 o => ⟨nI 0, ?_⟩)
    refine xWp.gc rfl trivial rfl (m_isCard _ n0 hN c) (by decide) ?_
    rw [hc]
    exact xWp.gb rfl trivial rfl (fun _ => thr1 x0 o) (fun h => absurd (by decide) h)
  obtain ⟨k, hk, rfl⟩ := inB_ok hc (by omega)
  cases hd : inB d (nI C)
  · refine opR.thr (e := 2) (code := 1) h (by omega) rfl (by omega) (fun _ _ => c_name_2b h.1.wf hk hd) (fun x0 o => ⟨nI 0, ?_⟩)
    refine xWp.gc rfl trivial rfl (m_isCard _ n0 hN _) (by decide) ?_
    rw [hc]
    refine xWp.gb rfl trivial rfl (fun h => absurd h (by decide)) (fun _ => ?_)
    refine xWp.gc rfl trivial rfl (m_isChange _ n2 hC _) (by decide) ?_
    rw [hd]
    exact xWp.gb rfl trivial rfl (fun _ => thr1 x0 o) (fun h => absurd (by decide) h)
  obtain ⟨c, hc2, rfl⟩ := inB_ok hd (by omega)
  obtain ⟨j, hj, hcj⟩ := h.1.col k
  by_cases hj2 : j < 2
  · have h01 : x.2 1 k = nI 0 ∨ x.2 1 k = nI 1 := by
      rw [hcj]
      match j, hj2 with
      | 0, _ => exact Or.inl rfl
      | 1, _ => exact Or.inr rfl
    have hcl := fun (y0 : xX) (o : Nat → Int64) => c_name (y := y0) (o := o) (b := bI b) h.1.wf hk hc2 h01
    rw [bI_ne] at hcl
    refine opR.ok hcl (fun x0 o => ?_)
    refine xWp.gc rfl trivial rfl (m_isCard _ n0 hN _) (by decide) ?_
    rw [hc]
    refine xWp.gb rfl trivial rfl (fun h => absurd h (by decide)) (fun _ => ?_)
    refine xWp.gc rfl trivial rfl (m_isChange _ n2 hC _) (by decide) ?_
    rw [hd]
    refine xWp.gb rfl trivial rfl (fun h => absurd h (by decide)) (fun _ => ?_)
    refine xWp.gb rfl trivial rfl (fun h => absurd h (by decide)) (fun _ => ?_)
    refine xWp.gb rfl ⟨in_nI (by omega) (by omega), trivial⟩ rfl (fun h9 => ?_) (fun _ => ?_)
    · have h9' : nI 2 ≤ y.2 1 (nI k).toNatClampNeg := h9
      rw [cl_nI (by omega), hcol, hcj, le_nI (by omega) (by omega)] at h9'
      omega
    refine xWp.gc rfl trivial rfl (m_goes _ true true true) (by decide) ?_
    refine xWp.gb rfl trivial rfl (fun h => absurd h (by decide)) (fun _ => ?_)
    have hr := rName h hk hc2 b
    have hr2 : Rel N C q t (cName x k c b) (sA (sI y 7 (nI 0)) 5 (30 * k + c) (bI b)) := hr
    refine xWp.go 67 rfl ⟨⟨ix30_in (K := 20) (by omega) (by omega) (by omega), bI_z⟩, trivial⟩ ?_
    rw [ix30_cl (K := 20) (by omega) (by omega) (by omega)]
    have hm := m_namesOf (x0 := x0) (o := o) 17 hr2.rd (k := k) (by omega)
    refine xWp.gc rfl trivial rfl hm (by decide) ?_
    have e : fb_ct (bt (wth (x.2 3 k) c b)) 32 = fb_ct (bt ((cName x k c b).2 3 k)) C := by
      have e3 : (cName x k c b).2 3 k = wth (x.2 3 k) c b := pk_us
      have hb := fun d => hr2.1.2.2.1.2.2.1 k d
      rw [e3] at hb ⊢
      exact ct_bits (fun d hd => (hb d hd).2) (by omega)
    rw [e]
    exact xWp.gf rfl trivial rfl (Or.inl rfl) (opP.mk hr2 (by omega) rfl)
  · refine opR.thr (e := 1) (code := 2) h (by omega) rfl (by omega) (fun _ _ => c_name_1 h.1.wf hk hc2 (fun z => by rw [hcj, eq_nI (by omega) (by omega)] at z; omega) (fun z => by rw [hcj, eq_nI (by omega) (by omega)] at z; omega)) (fun x0 o => ⟨nI 0, ?_⟩)
    refine xWp.gc rfl trivial rfl (m_isCard _ n0 hN _) (by decide) ?_
    rw [hc]
    refine xWp.gb rfl trivial rfl (fun h => absurd h (by decide)) (fun _ => ?_)
    refine xWp.gc rfl trivial rfl (m_isChange _ n2 hC _) (by decide) ?_
    rw [hd]
    refine xWp.gb rfl trivial rfl (fun h => absurd h (by decide)) (fun _ => ?_)
    refine xWp.gb rfl trivial rfl (fun h => absurd h (by decide)) (fun _ => ?_)
    refine xWp.gb rfl ⟨in_nI (by omega) (by omega), trivial⟩ rfl (fun _ => ?_) (fun h9 => ?_)
    · refine xWp.gc rfl trivial rfl (m_goes _ true false true) (by decide) ?_
      refine xWp.gb rfl trivial rfl (fun _ => ?_) (fun h => absurd (by decide) h)
      exact xWp.gf rfl trivial rfl (Or.inl rfl) ⟨rfl, rfl⟩
    · have h9' : ¬ nI 2 ≤ y.2 1 (nI k).toNatClampNeg := h9
      rw [cl_nI (by omega), hcol, hcj, le_nI (by omega) (by omega)] at h9'
      omega
theorem rNeed (h : Rel N C q t x y) {k d : Nat} (hk : k < C) (hd : d < k) : Rel N C q t (cNeed x k d) (sA y 10 (30 * k + d) (nI 1)) := by
  have hC := h.1.c
  obtain ⟨⟨g, a, b, ⟨c1, c2, c3⟩⟩, ns, rs, rr, ⟨s5, s9, s10, s11⟩⟩ := h
  refine ⟨⟨g, a, b, ⟨fun c d' hb => ?_, c2, c3⟩⟩, ns, rs, rr, ⟨s5, s9, fun k' c hk' hc => ?_, s11⟩⟩
  · have hb' : bt (upd (x.2 8) k (wth (x.2 8 k) d true) c) d' = true := hb
    by_cases e : c = k
    · subst e
      rw [pk_us, bt_wth (by omega)] at hb'
      split at hb'
      · omega
      · exact c1 _ _ hb'
    · rw [pk_un e] at hb'
      exact c1 _ _ hb'
  · show upd (y.2 10) (30 * k + d) (nI 1) (30 * k' + c) = bI (bt (upd (x.2 8) k (wth (x.2 8 k) d true) k') c)
    have ij := ix_inj (k := k) (k' := k') (c := d) (c' := c) (by omega) hc
    by_cases e : k' = k
    · subst e
      rw [pk_us, bt_wth (by omega)]
      by_cases e2 : c = d
      · subst e2; rw [pk_us, if_pos rfl]; rfl
      · rw [pk_un (fun z => e2 (ij.mp z).2), if_neg e2]
        exact s10 _ _ hk' hc
    · rw [pk_un (fun z => e (ij.mp z).1), pk_un e]
      exact s10 _ _ hk' hc
set_option maxHeartbeats 4000000 in
theorem op_need {T : Nat} (h : Rel N C q t x y) (hT : t + 100 ≤ T) (c d : Int32) : opR k_X2_need k_X3_need [.int c, .int d] esN T x y := by
  have n2 := h.2.1.2.2.1
  have hC := h.1.c
  have hs := h.2.2.1.2.2.2.2.2.2
  have hnd := h.2.2.2.2.2.2.1
  have tail : ∀ (known can : Bool) (code : Nat) x0 o, (∀ lt, lt = decide (¬ c ≤ d) → gL known lt can = nI code ∧ (known && (lt && can)) = false) → xAt k_X3_need 19 (xIs (.inl (some (.int (nI 0)))) (wW x0 (sI y 7 (nI code)) o)) (54, [some (.ref 15), some (.int c), some (.int d), some (.int (bI known)), none, none, none], [.int (bI can)], wW x0 y o, 0) := fun known can code x0 o hl => by
    refine xWp.gb rfl trivial rfl (fun h9 => ?_) (fun h9 => ?_)
    · obtain ⟨e1, e2⟩ := hl false (by simp only [show c ≤ d from h9]; rfl)
      refine xWp.gc rfl trivial rfl (m_goes _ known false can) (by decide) ?_
      rw [e1, e2]
      refine xWp.gb rfl trivial rfl (fun _ => ?_) (fun h => absurd (by decide) h)
      exact xWp.gf rfl trivial rfl (Or.inl rfl) ⟨rfl, rfl⟩
    · obtain ⟨e1, e2⟩ := hl true (by simp only [show ¬ c ≤ d from h9]; rfl)
      refine xWp.gc rfl trivial rfl (m_goes _ known true can) (by decide) ?_
      rw [e1, e2]
      refine xWp.gb rfl trivial rfl (fun _ => ?_) (fun h => absurd (by decide) h)
      exact xWp.gf rfl trivial rfl (Or.inl rfl) ⟨rfl, rfl⟩
  have thr1 : ∀ x0 o, xAt k_X3_need 19 (xIs (.inl (some (.int (nI 0)))) (wW x0 (sI y 7 (nI 1)) o)) (20, [some (.ref 15), some (.int c), some (.int d), none, none, none, none], [], wW x0 y o, 0) := fun x0 o => by
    refine xWp.gb rfl trivial rfl (fun _ => ?_) (fun h => absurd (by decide) h)
    refine xWp.go 54 rfl trivial ?_
    exact tail false false 1 x0 o (fun lt _ => ⟨rfl, rfl⟩)
  cases hc : inB c (nI C)
  · refine opR.thr (e := 2) (code := 1) h (by omega) rfl (by omega) (fun _ _ => c_need_2a h.1.wf hc) (fun x0 o => ⟨nI 0, ?_⟩)
    refine xWp.gc rfl trivial rfl (m_isChange _ n2 hC _) (by decide) ?_
    rw [hc]
    exact xWp.gb rfl trivial rfl (fun _ => thr1 x0 o) (fun h => absurd (by decide) h)
  obtain ⟨k, hk, rfl⟩ := inB_ok hc (by omega)
  cases hd : inB d (nI C)
  · refine opR.thr (e := 2) (code := 1) h (by omega) rfl (by omega) (fun _ _ => c_need_2b h.1.wf hk hd) (fun x0 o => ⟨nI 0, ?_⟩)
    refine xWp.gc rfl trivial rfl (m_isChange _ n2 hC _) (by decide) ?_
    rw [hc]
    refine xWp.gb rfl trivial rfl (fun h => absurd h (by decide)) (fun _ => ?_)
    refine xWp.gc rfl trivial rfl (m_isChange _ n2 hC _) (by decide) ?_
    rw [hd]
    exact xWp.gb rfl trivial rfl (fun _ => thr1 x0 o) (fun h => absurd (by decide) h)
  obtain ⟨c, hc2, rfl⟩ := inB_ok hd (by omega)
  have hle : nI k ≤ nI c ↔ k ≤ c := le_nI (by omega) (by omega)
  -- both known: up to 'can'
  have both : ∀ x0 o (R : xR → xW → Prop), (¬ (x.2 10 k = nI 0 ∧ bt (x.2 8 k) c = false) → xAt k_X3_need 19 R (54, [some (.ref 15), some (.int (nI k)), some (.int (nI c)), some (.int (bI true)), none, none, none], [.int (bI false)], wW x0 y o, 0)) → (x.2 10 k = nI 0 → bt (x.2 8 k) c = false → xAt k_X3_need 19 R (54, [some (.ref 15), some (.int (nI k)), some (.int (nI c)), some (.int (bI true)), none, none, none], [.int (bI true)], wW x0 y o, 0)) → xCW 20 k_X3_need [.ref 15, .int (nI k), .int (nI c)] (wW x0 y o) R := fun x0 o R r1 r2 => by
    refine xWp.gc rfl trivial rfl (m_isChange _ n2 hC _) (by decide) ?_
    rw [hc]
    refine xWp.gb rfl trivial rfl (fun h => absurd h (by decide)) (fun _ => ?_)
    refine xWp.gc rfl trivial rfl (m_isChange _ n2 hC _) (by decide) ?_
    rw [hd]
    refine xWp.gb rfl trivial rfl (fun h => absurd h (by decide)) (fun _ => ?_)
    refine xWp.gb rfl trivial rfl (fun h => absurd h (by decide)) (fun _ => ?_)
    refine xWp.gb rfl ⟨in_nI (by omega) (by omega), trivial⟩ rfl (fun h0 => ?_) (fun h0 => ?_)
    · have h0' : y.2 8 (nI k).toNatClampNeg = nI 0 := h0
      rw [cl_nI (by omega), hs] at h0'
      refine xWp.gb rfl ⟨ix30_in (K := 30) (by omega) (by omega) (by omega), trivial⟩ rfl (fun h1 => ?_) (fun h1 => ?_)
      · rw [ix30_cl (K := 30) (by omega) (by omega) (by omega), hnd k c (by omega) (by omega), bI_0] at h1
        exact xWp.go 54 rfl trivial (r2 h0' h1)
      · rw [ix30_cl (K := 30) (by omega) (by omega) (by omega), hnd k c (by omega) (by omega), bI_0] at h1
        exact xWp.go 54 rfl trivial (r1 (fun z => h1 z.2))
    · have h0' : ¬ y.2 8 (nI k).toNatClampNeg = nI 0 := h0
      rw [cl_nI (by omega), hs] at h0'
      exact xWp.go 54 rfl trivial (r1 (fun z => h0' z.1))
  by_cases hck : c < k
  · have hlt : decide (¬ nI k ≤ nI c) = true := by rw [decide_eq_true_eq, hle]; omega
    by_cases hcan : x.2 10 k = nI 0 ∧ bt (x.2 8 k) c = false
    · refine opR.ok (fun _ _ => c_need h.1.wf hk hck hcan.1 hcan.2) (fun x0 o => ?_)
      refine both x0 o _ (fun z => absurd hcan z) (fun _ _ => ?_)
      refine xWp.gb rfl trivial rfl (fun h9 => ?_) (fun _ => ?_)
      · rw [hle] at h9; omega
      refine xWp.gc rfl trivial rfl (m_goes _ true true true) (by decide) ?_
      refine xWp.gb rfl trivial rfl (fun h => absurd h (by decide)) (fun _ => ?_)
      have hr := rNeed h hk hck
      have hr2 : Rel N C q t (cNeed x k c) (sA (sI y 7 (nI 0)) 10 (30 * k + c) (nI 1)) := hr
      have e : fb_ct (bt (wth (x.2 8 k) c true)) 32 = fb_ct (bt ((cNeed x k c).2 8 k)) C := by
        have e3 : (cNeed x k c).2 8 k = wth (x.2 8 k) c true := pk_us
        have hb := fun d => hr2.1.2.2.2.1 k d
        rw [e3] at hb ⊢
        exact ct_bits (fun d hd => by have := hb d hd; omega) (by omega)
      rw [e]
      refine xWp.go 96 rfl ⟨⟨ix30_in (K := 30) (by omega) (by omega) (by omega), Or.inr rfl⟩, trivial⟩ ?_
      rw [ix30_cl (K := 30) (by omega) (by omega) (by omega)]
      show xAt k_X3_need 19 (opP (cNeed x k c) T 0 (nI (fb_ct (bt ((cNeed x k c).2 8 k)) C)) x0 o) (96, [some (.ref 15), some (.int (nI k)), some (.int (nI c)), some (.int (nI 1)), some (.int (nI 1)), some (.int (nI 0)), some (.int (nI 0))], [], wW x0 (sA (sI y 7 (nI 0)) 10 (30 * k + c) (nI 1)) o, 0)
      have fin : ∀ b2, b2 = nI (fb_ct (bt ((cNeed x k c).2 8 k)) C) → opP (cNeed x k c) T 0 (nI (fb_ct (bt ((cNeed x k c).2 8 k)) C)) x0 o (.inl (some (.int b2))) (wW x0 (sA (sI y 7 (nI 0)) 10 (30 * k + c) (nI 1)) o) := fun b2 e2 => by rw [e2]; exact opP.mk hr2 (by omega) rfl
      have hnd2 := hr2.2.2.2.2.2.2.1
      have n22 : (sA (sI y 7 (nI 0)) 10 (30 * k + c) (nI 1)).1 2 = nI C := n2
      generalize sA (sI y 7 (nI 0)) 10 (30 * k + c) (nI 1) = y2 at hnd2 n22 fin ⊢
      generalize cNeed x k c = x2 at hnd2 fin ⊢
      refine xWp.loop C (fun j => (96, [some (.ref 15), some (.int (nI k)), some (.int (nI c)), some (.int (nI 1)), some (.int (nI 1)), some (.int (nI (fb_ct (bt (x2.2 8 k)) j))), some (.int (nI j))], [], wW x0 y2 o, 0)) (fun j hj ih => ?_) ?_
      · refine xWp.gb rfl trivial rfl (fun h9 => ?_) (fun _ => ?_)
        · have h9' : y2.1 2 ≤ nI j := h9
          rw [n22, le_nI (by omega) (by omega)] at h9'
          omega
        rw [nI_s j] at ih
        refine xWp.gb rfl ⟨ix30_in (K := 30) (by omega) (by omega) (by omega), trivial⟩ rfl (fun h1 => ?_) (fun h1 => ?_)
        · rw [ix30_cl (K := 30) (by omega) (by omega) (by omega), hnd2 k j (by omega) (by omega), bI_0] at h1
          have e2 : fb_ct (bt (x2.2 8 k)) (j + 1) = fb_ct (bt (x2.2 8 k)) j := by rw [fb_ct_succ, h1]; rfl
          rw [e2, ← nI_z (fb_ct (bt (x2.2 8 k)) j)] at ih
          exact xWp.go 96 rfl trivial ih
        · rw [ix30_cl (K := 30) (by omega) (by omega) (by omega), hnd2 k j (by omega) (by omega), bI_0, Bool.not_eq_false] at h1
          have e2 : fb_ct (bt (x2.2 8 k)) (j + 1) = fb_ct (bt (x2.2 8 k)) j + 1 := by rw [fb_ct_succ, h1]; rfl
          rw [e2, nI_s (fb_ct (bt (x2.2 8 k)) j)] at ih
          exact xWp.go 96 rfl trivial ih
      · refine xWp.gb rfl trivial rfl (fun _ => ?_) (fun h9 => ?_)
        · exact xWp.gf rfl trivial rfl (Or.inl rfl) (fin _ rfl)
        · have h9' : ¬ y2.1 2 ≤ nI C := h9
          rw [n22, le_nI (by omega) (by omega)] at h9'
          omega
    · refine opR.thr (e := 1) (code := 3) h (by omega) rfl (by omega) (fun _ _ => c_need_1 h.1.wf hk hck (by
        by_cases z : x.2 10 k = nI 0
        · refine Or.inr ?_
          cases e : bt (x.2 8 k) c
          · exact absurd ⟨z, e⟩ hcan
          · rfl
        · exact Or.inl z)) (fun x0 o => ⟨nI 0, ?_⟩)
      exact both x0 o _ (fun _ => tail true false 3 x0 o (fun lt e => by rw [e, hlt]; exact ⟨rfl, rfl⟩)) (fun z1 z2 => absurd ⟨z1, z2⟩ hcan)
  · have hlt : decide (¬ nI k ≤ nI c) = false := by rw [decide_eq_false_iff_not, hle]; omega
    refine opR.thr (e := 0) (code := 2) h (by omega) rfl (by omega) (fun _ _ => c_need_0 h.1.wf hk hc2 hck) (fun x0 o => ⟨nI 0, ?_⟩)
    exact both x0 o _ (fun _ => tail true false 2 x0 o (fun lt e => by rw [e, hlt]; exact ⟨rfl, rfl⟩)) (fun _ _ => tail true true 2 x0 o (fun lt e => by rw [e, hlt]; exact ⟨rfl, rfl⟩))
end O2
