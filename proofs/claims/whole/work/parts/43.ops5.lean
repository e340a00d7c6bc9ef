/-! calls on both sides, 5: setLimit, takeOut -/
section O5
variable {x x0 y : xX} {o : Nat → Int64} {N C : Nat} {q : List Nat} {t : Nat} {w : xW}
theorem psh1_1 (h : cInv N C q t x) {a : Nat} (ha : a ≤ 4) (hs : 0 < cSz x N (nI (a + 1))) (ht : t < 1000000) : (cPsh1 N a x).2 1 = upd (x.2 1) (cLow x N (nI (a + 1))) (nI a) ∧ (cPsh1 N a x).2 6 = x.2 6 := by
  obtain ⟨h1, -⟩ := h.low hs
  have h' : cInv N C q t (sA x 5 (cLow x N (nI (a + 1))) (x.2 5 (cLow x N (nI (a + 1))) + nI 1)) := h
  exact ⟨cShift_1 h' h1 ha ht, cShift_r h' h1 ha ht (by decide) (by decide) (by decide) (by decide)⟩
theorem sz_mv {f : Nat → Int32} {k a b : Nat} (hk : k < N) (hf : f k = nI a) (hab : a ≠ b) (ha : a ≤ 5) (hb : b ≤ 5) : fb_ct (fun j => decide (upd f k (nI b) j = nI a)) N + 1 = fb_ct (fun j => decide (f j = nI a)) N := by
  have h1 := fb_ct_upd (fun j => decide (f j = nI a)) false hk
  have e : (fun j => decide (upd f k (nI b) j = nI a)) = (fun j => if j = k then false else decide (f j = nI a)) := funext fun j => by
    by_cases e : j = k
    · subst e
      rw [pk_us, if_pos rfl]
      exact decide_eq_false (fun z => hab ((eq_nI (by omega) (by omega)).mp z).symm)
    · rw [pk_un e, if_neg e]
  rw [e]
  simpa [hf] using h1
theorem sz_ot {f : Nat → Int32} {k a b c : Nat} (hf : f k = nI a) (hac : a ≠ c) (hbc : b ≠ c) (ha : a ≤ 5) (hb : b ≤ 5) (hc : c ≤ 5) : fb_ct (fun j => decide (upd f k (nI b) j = nI c)) N = fb_ct (fun j => decide (f j = nI c)) N := by
  refine fb_ct_cong (fun j _ => ?_)
  by_cases e : j = k
  · subst e
    rw [pk_us, hf]
    rw [decide_eq_false (fun z => hac ((eq_nI (by omega) (by omega)).mp z)), decide_eq_false (fun z => hbc ((eq_nI (by omega) (by omega)).mp z))]
  · rw [pk_un e]
theorem sz_psh1 (h : cInv N C q t x) {a : Nat} (ha : a ≤ 3) (hs : 0 < cSz x N (nI (a + 1))) (ht : t < 1000000) : cSz (cPsh1 N a x) N (nI (a + 1)) + 1 = cSz x N (nI (a + 1)) ∧ ∀ b, a + 1 < b → b ≤ 5 → cSz (cPsh1 N a x) N (nI b) = cSz x N (nI b) := by
  obtain ⟨h1, h2, -⟩ := h.low hs
  have e := (psh1_1 h (by omega) hs ht).1
  unfold cSz
  rw [e]
  exact ⟨sz_mv h1 h2 (by omega) (by omega) (by omega), fun b hb hb5 => sz_ot h2 (by omega) (by omega) (by omega) (by omega) hb5⟩
theorem sz_push : ∀ (a : Nat) {x : xX} {q : List Nat} {t : Nat}, cInv N C q t x → a ≤ 4 → t + a ≤ 1000000 → (∀ b, a < b → b ≤ 5 → cSz (cPush N a x) N (nI b) = cSz x N (nI b)) ∧ (cPush N a x).2 6 = x.2 6
  | 0, x, q, t, h, _, _ => ⟨fun _ _ _ => rfl, rfl⟩
  | a + 1, x, q, t, h, ha, ht => by
    rw [cPush]
    split
    · rename_i hb
      obtain ⟨h1, l, hl⟩ := cAb_sz h (by omega) hb
      have hs0 : 0 < cSz x N (nI (a + 1)) := by omega
      obtain ⟨q', h2⟩ := iPsh1 (a := a) h (by omega) hs0 (by omega)
      obtain ⟨i1, i2⟩ := sz_push a h2 (by omega) (by omega)
      have s2 := (sz_psh1 h (a := a) (by omega) hs0 (by omega)).2
      refine ⟨fun b hb hb5 => by rw [i1 b (by omega) hb5, s2 b hb hb5], by rw [i2, (psh1_1 h (by omega) hs0 (by omega)).2]⟩
    · exact ⟨fun _ _ _ => rfl, rfl⟩
theorem rLim (h : Rel N C q t x y) {a l : Nat} (h1 : 1 ≤ l) (h9 : l ≤ 9) : Rel N C q t (sA x 6 a (nI l)) (sA y 6 a (nI l)) := by
  have hi := iLim h.1 (a := a) h1 h9
  obtain ⟨-, ns, ⟨r0, r1, r3, r4, r6, r7, r8⟩, rr, s⟩ := h
  refine ⟨hi, ns, ⟨r0, r1, r3, r4, ?_, r7, r8⟩, rr, s⟩
  show upd (y.2 6) a _ = upd (x.2 6) a _
  rw [r6]
set_option maxHeartbeats 4000000 in
theorem m_limLoop {l a : Nat} (l1 : 1 ≤ l) (hl : l ≤ 9) (ha : a + 1 ≤ 3) (bf : Int32) {T : Nat} {x9 : xX} : ∀ (m : Nat) {x y : xX} {q : List Nat} {t : Nat}, cSz x N (nI (a + 1)) - l = m → Rel N C q t x y → x.2 6 (a + 1) = nI l → y.1 7 = nI 0 → t + 4 * m ≤ T → t + 4 * m ≤ 1000000 → cRep N (a + 1) m x = x9 → xAt k_X3_setLimit 19 (opP x9 T 0 bf x0 o) (37, [some (.ref 15), some (.int (nI (a + 1))), some (.int (nI l)), some (.int bf)], [], wW x0 y o, 0)
  | m, x, y, q, t, hm, h, h6, h7, ht, ht2, hx9 => by
    have hN := h.1.n
    have hs1 := cSz_le (x := x) (N := N) (nI (a + 1))
    refine xWp.gc rfl trivial rfl (m_count 18 h.rd (nI (a + 1))) (by decide) ?_
    have hcb := cAb_of h.1 (a := a) (l := l) ha h6 hl
    refine xWp.gb rfl trivial rfl (fun h9 => ?_) (fun h9 => ?_)
    · rw [le_nI (by omega) (by omega)] at h9
      have em : m = 0 := by omega
      subst em
      exact xWp.gf rfl trivial rfl (Or.inl rfl) ⟨y, bf, rfl, rfl, fun _ => rfl, h7, N, C, q, t, by omega, by rw [← hx9]; exact h⟩
    · rw [le_nI (by omega) (by omega)] at h9
      obtain ⟨m', rfl⟩ : ∃ m', m = m' + 1 := ⟨m - 1, by omega⟩
      have e : cAb x N (nI (a + 1)) = true := by rw [hcb]; simp; omega
      have hs0 : 0 < cSz x N (nI (a + 1)) := by omega
      have ep : cPush N (a + 1) x = cPush N a (cPsh1 N a x) := by rw [cPush, e]
      refine xWp.gm rfl trivial rfl (m_pushesFrom 15 h (a := a) (by omega) hs0 (by omega)) (by decide) (fun y2 hy2 => ?_)
      obtain ⟨⟨q2, t2, ht2', hr2⟩, hk2⟩ := hy2
      obtain ⟨q', h2⟩ := iPsh1 (a := a) h.1 (by omega) hs0 (by omega)
      obtain ⟨i1, i2⟩ := sz_push a h2 (by omega) (by omega)
      have s1 := (sz_psh1 h.1 (a := a) (by omega) hs0 (by omega)).1
      have s6 := (psh1_1 h.1 (a := a) (by omega) hs0 (by omega)).2
      refine xWp.go 37 rfl trivial ?_
      refine m_limLoop l1 hl ha bf m' (x := cPush N a (cPsh1 N a x)) ?_ hr2 (by rw [i2, s6]; exact h6) (by rw [hk2 7 (by omega)]; exact h7) (by omega) (by omega) ?_
      · rw [i1 (a + 1) (by omega) (by omega)]
        omega
      · rw [← hx9, cRep, ep]
set_option maxHeartbeats 4000000 in
theorem op_setLimit {T : Nat} (h : Rel N C q t x y) (hT : t + 100 ≤ T) (hT2 : T ≤ 1000000) (c v : Int32) : opR k_X2_setLimit k_X3_setLimit [.int c, .int v] esL T x y := by
  have hN := h.1.n
  have hC := h.1.c
  have hlim := h.2.2.1.2.2.2.2.1
  have ecl : ∀ c, cHL c = inR c (nI 1) (nI 3) := fun _ => rfl
  cases hc : inR c (nI 1) (nI 3)
  · refine opR.thr (e := 2) (code := 1) h (by omega) rfl (by omega) (fun _ _ => c_setLimit_2 ((ecl c).trans hc)) (fun x0 o => ⟨nI 0, ?_⟩)
    have hi := m_in 18 c (nI 1) (nI 3) (w := wW x0 y o)
    rw [hc] at hi
    refine xWp.gc rfl trivial rfl hi (by decide) ?_
    refine xWp.gc rfl trivial rfl (m_in _ v (nI 1) (nI 9)) (by decide) ?_
    refine xWp.gc rfl trivial rfl (m_goes _ false (inR v (nI 1) (nI 9)) true) (by decide) ?_
    refine xWp.gb rfl trivial rfl (fun _ => ?_) (fun h => (h rfl).elim)
    exact xWp.gf rfl trivial rfl (Or.inl rfl) ⟨rfl, rfl⟩
  have hcl : cHL c = true := (ecl c).trans hc
  obtain ⟨a, rfl, ha1, ha3⟩ := cHL_in hcl
  have hi := fun w => m_in 18 (nI a) (nI 1) (nI 3) (w := w)
  rw [hc] at hi
  cases hv : inR v (nI 1) (nI 9)
  · refine opR.thr (e := 0) (code := 2) h (by omega) rfl (by omega) (fun _ _ => c_setLimit_0 hcl (inR_no hv)) (fun x0 o => ⟨nI 0, ?_⟩)
    refine xWp.gc rfl trivial rfl (hi _) (by decide) ?_
    refine xWp.gc rfl trivial rfl (m_in _ v (nI 1) (nI 9)) (by decide) ?_
    rw [hv]
    refine xWp.gc rfl trivial rfl (m_goes _ true false true) (by decide) ?_
    refine xWp.gb rfl trivial rfl (fun _ => ?_) (fun h => absurd (by decide) h)
    exact xWp.gf rfl trivial rfl (Or.inl rfl) ⟨rfl, rfl⟩
  obtain ⟨v1, v2⟩ := inR_iff.mp hv
  obtain ⟨l, hl9, rfl⟩ := nI_of2 (M := nI 9) (n := 9) rfl (fun z => v1 (fa_trans z (by decide))) v2
  rw [lt_nI (by omega) (by omega)] at v1
  refine opR.ok (fun _ _ => c_setLimit h.1 ha1 ha3 (by omega) hl9 (by omega)) (fun x0 o => ?_)
  refine xWp.gc rfl trivial rfl (hi _) (by decide) ?_
  refine xWp.gc rfl trivial rfl (m_in _ (nI l) (nI 1) (nI 9)) (by decide) ?_
  rw [hv]
  refine xWp.gc rfl trivial rfl (m_goes _ true true true) (by decide) ?_
  refine xWp.gb rfl trivial rfl (fun h => absurd h (by decide)) (fun _ => ?_)
  have ea : (nI a).toNatClampNeg = a := cl_nI (by omega)
  have hr := rLim h (a := a) (l := l) (by omega) hl9
  have hr2 : Rel N C q t (sA x 6 a (nI l)) (sA (sI y 7 (nI 0)) 6 a (nI l)) := hr
  obtain ⟨a', rfl⟩ : ∃ a', a = a' + 1 := ⟨a - 1, by omega⟩
  have hs1 := cSz_le (x := x) (N := N) (nI (a' + 1))
  have key := m_limLoop (x0 := x0) (o := o) (l := l) (a := a') (by omega) hl9 ha3 (x.2 6 (a' + 1)) (T := T) (x9 := cLim x N (a' + 1) l) (cSz x N (nI (a' + 1)) - l) (x := sA x 6 (a' + 1) (nI l)) (y := sA (sI y 7 (nI 0)) 6 (a' + 1) (nI l)) (q := q) (t := t) rfl hr2 (show upd (x.2 6) (a' + 1) (nI l) (a' + 1) = nI l from pk_us) rfl (by omega) (by omega) rfl
  refine xWp.go 37 rfl ⟨in_nI (by omega) (by omega), in_nI (by omega) (by omega), trivial⟩ ?_
  rw [ea]
  have e6 : x.2 6 (a' + 1) = y.2 6 (a' + 1) := by rw [hlim]
  rw [e6] at key
  rw [e6]
  exact key
set_option maxHeartbeats 4000000 in
theorem op_takeOut {T : Nat} (h : Rel N C q t x y) (hT : t + 100 ≤ T) (hT2 : T ≤ 1000000) (c : Int32) : opR k_X2_takeOut k_X3_takeOut [.int c] esI T x y := by
  have n2 := h.2.1.2.2.1
  have hN := h.1.n
  have hC := h.1.c
  have hs := h.2.2.1.2.2.2.2.2.2
  cases hc : inB c (nI C)
  · refine opR.thr (e := 2) (code := 1) h (by omega) rfl (by omega) (fun _ _ => c_takeOut_2 h.1.wf hc) (fun x0 o => ⟨nI 0, ?_⟩)
    refine xWp.gc rfl trivial rfl (m_isChange _ n2 hC c) (by decide) ?_
    rw [hc]
    refine xWp.gb rfl trivial rfl (fun _ => ?_) (fun h => absurd (by decide) h)
    refine xWp.gc rfl trivial rfl (m_goes _ false false true) (by decide) ?_
    refine xWp.gb rfl trivial rfl (fun _ => ?_) (fun h => absurd (by decide) h)
    exact xWp.gf rfl trivial rfl (Or.inl rfl) ⟨rfl, rfl⟩
  obtain ⟨c, hc2, rfl⟩ := inB_ok hc (by omega)
  have ec : (nI c).toNatClampNeg = c := cl_nI (by omega)
  have flags : ∀ x0 o (R : xR → xW → Prop), (¬ (x.2 10 c = nI 2 ∧ cNeeded x C c = false) → xAt k_X3_takeOut 19 R (34, [some (.ref 15), some (.int (nI c)), some (.int (nI 1)), none, none], [.int (bI true), .ref 15], wW x0 y o, 0)) → (x.2 10 c = nI 2 → cNeeded x C c = false → xAt k_X3_takeOut 19 R (30, [some (.ref 15), some (.int (nI c)), some (.int (nI 1)), none, none], [.int (bI true), .ref 15], wW x0 y o, 0)) → xCW 20 k_X3_takeOut [.ref 15, .int (nI c)] (wW x0 y o) R := fun x0 o R r1 r2 => by
    refine xWp.gc rfl trivial rfl (m_isChange _ n2 hC _) (by decide) ?_
    rw [hc]
    refine xWp.gb rfl trivial rfl (fun h => absurd h (by decide)) (fun _ => ?_)
    refine xWp.gb rfl ⟨in_nI (by omega) (by omega), trivial⟩ rfl (fun h1 => ?_) (fun h1 => ?_)
    · have h1' : y.2 8 (nI c).toNatClampNeg = nI 2 := h1
      rw [ec, hs] at h1'
      refine xWp.gc rfl trivial rfl (m_isNeededIn _ h (c := c) (by omega)) (by decide) ?_
      refine xWp.gb rfl trivial rfl (fun h2 => ?_) (fun h2 => ?_)
      · rw [bI_0] at h2
        exact r2 h1' h2
      · rw [bI_0] at h2
        exact r1 (fun z => h2 z.2)
    · have h1' : ¬ y.2 8 (nI c).toNatClampNeg = nI 2 := h1
      rw [ec, hs] at h1'
      exact r1 (fun z => h1' z.1)
  by_cases hcan : x.2 10 c = nI 2 ∧ cNeeded x C c = false
  · refine opR.ok (fun _ _ => c_takeOut h.1 hc2 hcan.1 hcan.2 (by omega)) (fun x0 o => ?_)
    refine flags x0 o _ (fun z => absurd hcan z) (fun _ _ => ?_)
    refine xWp.gc rfl trivial rfl (m_goes _ true true true) (by decide) ?_
    refine xWp.gb rfl trivial rfl (fun h => absurd h (by decide)) (fun _ => ?_)
    have hr := rState h hc2 (by rw [hcan.1]; decide) (s := 0) (by omega) (by omega)
    have hr2 : Rel N C q t (sA x 10 c (nI 0)) (sA (sI y 7 (nI 0)) 8 c (nI 0)) := hr
    have e7 : (sA (sI y 7 (nI 0)) 8 c (nI 0)).1 7 = nI 0 := rfl
    refine xWp.go 56 rfl ⟨in_nI (by omega) (by omega), trivial⟩ ?_
    rw [ec]
    show xAt k_X3_takeOut 19 _ (56, [some (.ref 15), some (.int (nI c)), some (.int (nI 1)), some (.int (nI 0)), some (.int (nI 0))], [], wW x0 (sA (sI y 7 (nI 0)) 8 c (nI 0)) o, 0)
    generalize sA (sI y 7 (nI 0)) 8 c (nI 0) = y1 at hr2 e7 ⊢
    generalize sA x 10 c (nI 0) = x1 at hr2 ⊢
    have key : ∀ m i (z : xX) q2 t2, i + m = N → Rel N C q2 t2 (cDrop N (bitI c) true x1 i).1 z → t2 ≤ t + 2 * i → z.1 7 = nI 0 → xAt k_X3_takeOut 19 (opP (cDrop N (bitI c) true x1 N).1 T 0 (nI (cDrop N (bitI c) true x1 N).2) x0 o) (56, [some (.ref 15), some (.int (nI c)), some (.int (nI 1)), some (.int (nI (cDrop N (bitI c) true x1 i).2)), some (.int (nI i))], [], wW x0 z o, 0) := by
      intro m
      induction m with
      | zero =>
        intro i z q2 t2 hi hr ht2 hz7
        have ei : i = N := by omega
        subst ei
        have zN : z.1 0 = nI i := hr.2.1.1
        refine xWp.gb rfl trivial rfl (fun _ => ?_) (fun h9 => ?_)
        · exact xWp.gf rfl trivial rfl (Or.inl rfl) (opP.mk hr (by omega) hz7)
        · have h9' : ¬ z.1 0 ≤ nI i := h9
          rw [zN, le_nI (by omega) (by omega)] at h9'
          omega
      | succ m ih =>
        intro i z q2 t2 hi hr ht2 hz7
        have zN : z.1 0 = nI N := hr.2.1.1
        have step : ∀ z' q3 t3, Rel N C q3 t3 (cDrop N (bitI c) true x1 (i + 1)).1 z' → t3 ≤ t + 2 * (i + 1) → z'.1 7 = nI 0 → xAt k_X3_takeOut 19 (opP (cDrop N (bitI c) true x1 N).1 T 0 (nI (cDrop N (bitI c) true x1 N).2) x0 o) (95, [some (.ref 15), some (.int (nI c)), some (.int (nI 1)), some (.int (nI (cDrop N (bitI c) true x1 (i + 1)).2)), some (.int (nI i))], [], wW x0 z' o, 0) := fun z' q3 t3 hr3 ht3 h73 => by
          have h9 := ih (i + 1) z' q3 t3 (by omega) hr3 ht3 h73
          rw [nI_s i] at h9
          exact xWp.go 56 rfl trivial h9
        rw [cDrop] at step
        generalize cDrop N (bitI c) true x1 i = s at hr step ⊢
        obtain ⟨xi, f⟩ := s
        dsimp only at hr step ⊢
        have zcol := hr.2.2.1.2.1
        obtain ⟨j, hj, hcj⟩ := hr.1.col i
        refine xWp.gb rfl trivial rfl (fun h9 => ?_) (fun _ => ?_)
        · have h9' : z.1 0 ≤ nI i := h9
          rw [zN, le_nI (by omega) (by omega)] at h9'
          omega
        have skip : cFl xi (bitI c) true i = false → xAt k_X3_takeOut 19 (opP (cDrop N (bitI c) true x1 N).1 T 0 (nI (cDrop N (bitI c) true x1 N).2) x0 o) (95, [some (.ref 15), some (.int (nI c)), some (.int (nI 1)), some (.int (nI f)), some (.int (nI i))], [], wW x0 z o, 0) := fun e => by
          rw [cDr1] at step
          dsimp only at step
          rw [e] at step
          exact step z q2 t2 hr (by omega) hz7
        have hand := and_bit (c := c) (by omega) (xi.2 3 i)
        refine xWp.gb rfl ⟨in_nI (by omega) (by omega), trivial⟩ rfl (fun h9 => ?_) (fun h9 => ?_)
        · have h9' : z.2 1 (nI i).toNatClampNeg < nI 3 := h9
          rw [cl_nI (by omega), zcol, hcj, lt_nI (by omega) (by omega)] at h9'
          refine skip ?_
          unfold cFl
          rw [hcj]
          simp only [eq_nI (a := j) (b := 3) (by omega) (by omega), eq_nI (a := j) (b := 4) (by omega) (by omega), show ¬ j = 3 by omega, show ¬ j = 4 by omega]
          rfl
        · have h9' : ¬ z.2 1 (nI i).toNatClampNeg < nI 3 := h9
          rw [cl_nI (by omega), zcol, hcj, lt_nI (by omega) (by omega)] at h9'
          have e34 : (decide (xi.2 1 i = nI 3) || (true && decide (xi.2 1 i = nI 4))) = true := by
            rw [hcj]
            simp only [eq_nI (a := j) (b := 3) (by omega) (by omega), eq_nI (a := j) (b := 4) (by omega) (by omega), Bool.true_and, Bool.or_eq_true, decide_eq_true_eq]
            omega
          refine xWp.gc rfl trivial rfl (m_named 18 hr.rd (k := i) (c := c) (by omega) (by omega)) (by decide) ?_
          refine xWp.gb rfl trivial rfl (fun hb => ?_) (fun hb => ?_)
          · rw [bI_0] at hb
            refine skip ?_
            unfold cFl
            rw [e34, Bool.true_and, decide_eq_false_iff_not, Decidable.not_not]
            exact hand.mpr hb
          · rw [bI_0] at hb
            have e : cFl xi (bitI c) true i = true := by
              unfold cFl
              rw [e34, Bool.true_and, decide_eq_true_eq]
              exact fun z => hb (hand.mp z)
            rw [cDr1] at step
            dsimp only at step
            rw [e] at step
            dsimp only at step
            refine xWp.gm rfl trivial rfl (m_fallsNow 14 hr (k := i) (by omega) (by omega)) (by decide) (fun z' hz' => ?_)
            obtain ⟨⟨q3, t3, ht3, hr3⟩, hk3⟩ := hz'
            have h9 := step z' q3 t3 hr3 (by omega) (by rw [hk3 7 (by omega)]; exact hz7)
            rw [nI_s f] at h9
            exact xWp.go 95 rfl trivial h9
    exact key N 0 y1 q t (by omega) hr2 (by omega) e7
  · refine opR.thr (e := 1) (code := 2) h (by omega) rfl (by omega) (fun _ _ => c_takeOut_1 h.1.wf hc2 (by
      by_cases z : x.2 10 c = nI 2
      · refine Or.inr ?_
        cases e : cNeeded x C c
        · exact absurd ⟨z, e⟩ hcan
        · rfl
      · exact Or.inl z)) (fun x0 o => ⟨nI 0, ?_⟩)
    refine flags x0 o _ (fun _ => ?_) (fun z1 z2 => absurd ⟨z1, z2⟩ hcan)
    refine xWp.gc rfl trivial rfl (m_goes _ true false true) (by decide) ?_
    refine xWp.gb rfl trivial rfl (fun _ => ?_) (fun h => absurd (by decide) h)
    exact xWp.gf rfl trivial rfl (Or.inl rfl) ⟨rfl, rfl⟩
end O5
