/-! the reference: pushing back, falling -/
section MP
variable {x x0 y : xX} {o : Nat → Int64} {N C : Nat} {q : List Nat} {t : Nat} {w : xW}
def mPost (N C T : Nat) (x y : xX) (y' : xX) : Prop := (∃ q' t', t' ≤ T ∧ Rel N C q' t' x y') ∧ ∀ i, 4 ≤ i → y'.1 i = y.1 i
theorem came_le (h : Rel N C q t x y) {i j : Nat} (hi : i < N) (hj : j < N) : y.2 2 j ≤ y.2 2 i ↔ ¬ x.2 2 i < x.2 2 j := by
  obtain ⟨a, ha, ea⟩ := h.1.2.1.2.2.1 i hi
  obtain ⟨b, hb, eb⟩ := h.1.2.1.2.2.1 j hj
  have ht := h.1.2.1.2.1
  rw [h.2.2.2.1.1 i hi, h.2.2.2.1.1 j hj, ea, eb, nI_add, nI_add, nI_leI (by omega) (by omega), nI_ltI (by omega) (by omega)]
  omega
def itV : Option Nat → Int32
  | none => -1
  | some i => nI i
def itOk (x : xX) (col : Int32) (j : Nat) : Option Nat → Prop
  | none => ∀ i, i < j → ¬ x.2 1 i = col
  | some i => i < j ∧ x.2 1 i = col ∧ ∀ i', i' < j → x.2 1 i' = col → i' ≠ i → cLs x i' i = true
theorem itOk_low (h : Rel N C q t x y) {col : Int32} (hs : 0 < cSz x N col) {it : Option Nat} (hi : itOk x col N it) : it = some (cLow x N col) := by
  obtain ⟨k1, k2, k3, -⟩ := h.1.low hs
  match it, hi with
  | none, hi => exact absurd k2 (hi _ k1)
  | some i, hi =>
    obtain ⟨h1, h2, h3⟩ := hi
    have e := ahd_max (P := fun j => decide (x.2 1 j = col)) (L := cLs x) cLs_irr h1 (by simpa using h2) (fun j hj hp hne => h3 j hj (by simpa using hp) hne)
    rw [← cAh_eq h2] at e
    have e2 : fb_ct (fun j => decide (x.2 1 j = col)) N = cSz x N col := rfl
    rw [e2] at e
    rw [h.1.one h1 k1 h2 k2 (by omega)]
set_option maxHeartbeats 4000000 in
theorem m_pick (n : Nat) (h : Rel N C q t x y) (c0 : Int32) (col : Int32) {R : xR → xW → Prop} (hR : ∀ it z, itOk x col N it → xAt k_X3_pushesFrom n R (118, [some (.ref 15), some (.int c0), some (.int col), some (.int (nI 1)), some (.int (itV it)), some (.int (nI N)), z], [], wW x0 y o, 0)) : ∀ m j it z, j + m = N → itOk x col j it → xAt k_X3_pushesFrom n R (14, [some (.ref 15), some (.int c0), some (.int col), some (.int (nI 1)), some (.int (itV it)), some (.int (nI j)), z], [], wW x0 y o, 0) := by
  obtain ⟨hn, hN, -, -, hcol, -⟩ := h.rd
  have r0 := h.2.2.1.1
  intro m
  induction m with
  | zero =>
    intro j it z hj hi
    have ej : j = N := by omega
    subst ej
    refine xWp.gb rfl trivial rfl (fun _ => hR it z hi) (fun h9 => ?_)
    have h9' : ¬ y.1 0 ≤ nI j := h9
    rw [hn, le_nI (by omega) (by omega)] at h9'
    omega
  | succ m ih =>
    intro j it z hj hi
    refine xWp.gb rfl trivial rfl (fun h9 => ?_) (fun _ => ?_)
    · have h9' : y.1 0 ≤ nI j := h9
      rw [hn, le_nI (by omega) (by omega)] at h9'
      omega
    have upd : ∀ z, (x.2 1 j = col → itOk x col (j + 1) (some j)) → (¬ x.2 1 j = col → itOk x col (j + 1) it) → xAt k_X3_pushesFrom n R (80, [some (.ref 15), some (.int c0), some (.int col), some (.int (nI 1)), some (.int (itV it)), some (.int (nI j)), z], [], wW x0 y o, 0) := fun z e1 e2 => by
      refine xWp.gb rfl ⟨in_nI (by omega) (by omega), trivial⟩ rfl (fun h1 => ?_) (fun h1 => ?_)
      · rw [cl_nI (by omega), hcol] at h1
        refine xWp.gb rfl trivial rfl (fun h => absurd h (by decide)) (fun _ => ?_)
        have h9 := ih (j + 1) (some j) (some (.int (nI 1))) (by omega) (e1 h1)
        rw [nI_s j] at h9
        exact xWp.go 14 rfl trivial h9
      · rw [cl_nI (by omega), hcol] at h1
        have h9 := ih (j + 1) it (some (.int (nI 1))) (by omega) (e2 h1)
        rw [nI_s j] at h9
        exact xWp.go 14 rfl trivial h9
    have stay : ∀ z, itOk x col (j + 1) it → xAt k_X3_pushesFrom n R (84, [some (.ref 15), some (.int c0), some (.int col), some (.int (nI 1)), some (.int (itV it)), some (.int (nI j)), z], [], wW x0 y o, 0) := fun z e => by
      have h9 := ih (j + 1) it (some (.int (nI 0))) (by omega) e
      rw [nI_s j] at h9
      refine xWp.gb rfl ⟨in_nI (by omega) (by omega), trivial⟩ rfl (fun h1 => ?_) (fun h1 => ?_)
      · refine xWp.gb rfl trivial rfl (fun _ => ?_) (fun h => absurd (by decide) h)
        exact xWp.go 14 rfl trivial h9
      · exact xWp.go 14 rfl trivial h9
    match it, hi with
    | none, hi =>
      refine xWp.gb rfl trivial rfl (fun _ => ?_) (fun h9 => absurd rfl h9)
      refine upd _ (fun e => ⟨by omega, e, fun i' h1 h2 h3 => absurd h2 (hi i' (by omega))⟩) (fun e i' h1 => ?_)
      by_cases e2 : i' = j
      · subst e2; exact e
      · exact hi i' (by omega)
    | some i, hi =>
      obtain ⟨hij, hic, hib⟩ := hi
      have keep : (x.2 1 j = col → cLs x j i = true) → itOk x col (j + 1) (some i) := fun e => ⟨by omega, hic, fun i' h1 h2 h3 => by
        by_cases e2 : i' = j
        · subst e2; exact e h2
        · exact hib i' (by omega) h2 h3⟩
      have take : cLs x i j = true → (x.2 1 j = col → itOk x col (j + 1) (some j)) := fun e hc => ⟨by omega, hc, fun i' h1 h2 h3 => by
        by_cases e2 : i' = i
        · subst e2; exact e
        · exact cLs_tr _ _ _ (hib i' (by omega) h2 e2) e⟩
      have ng : ¬ cLs x i j = true → cLs x j i = true := fun e => (h.1.tot i j (by omega) (by omega) (by omega)).elim (fun z => absurd z e) id
      refine xWp.gb rfl trivial rfl (fun h9 => ?_) (fun _ => ?_)
      · have h9' : nI i = -1 := h9
        have h8 : (nI i).toInt = (-1 : Int32).toInt := by rw [h9']
        rw [nI_toInt (by omega)] at h8
        have h7 : (-1 : Int32).toInt = -1 := by decide
        omega
      refine xWp.gb rfl ⟨in_nI (by omega) (by omega), in_nI (by omega) (by omega), trivial⟩ rfl (fun h1 => ?_) (fun h1 => ?_)
      · have h1' : y.2 0 (nI j).toNatClampNeg < y.2 0 (nI i).toNatClampNeg := h1
        rw [cl_nI (k := j) (by omega), cl_nI (k := i) (by omega), r0] at h1'
        have e : cLs x i j = true := cLs_iff.mpr (Or.inl h1')
        exact upd _ (take e) (fun hc => keep (fun z => absurd z hc))
      · have h1' : ¬ y.2 0 (nI j).toNatClampNeg < y.2 0 (nI i).toNatClampNeg := h1
        rw [cl_nI (k := j) (by omega), cl_nI (k := i) (by omega), r0] at h1'
        refine xWp.gb rfl ⟨in_nI (by omega) (by omega), in_nI (by omega) (by omega), trivial⟩ rfl (fun h2 => ?_) (fun h2 => ?_)
        · have h2' : y.2 0 (nI j).toNatClampNeg = y.2 0 (nI i).toNatClampNeg := h2
          rw [cl_nI (k := j) (by omega), cl_nI (k := i) (by omega), r0] at h2'
          refine xWp.gb rfl ⟨in_nI (by omega) (by omega), in_nI (by omega) (by omega), trivial⟩ rfl (fun h3 => ?_) (fun h3 => ?_)
          · have h3' : y.2 2 (nI j).toNatClampNeg ≤ y.2 2 (nI i).toNatClampNeg := h3
            rw [cl_nI (k := j) (by omega), cl_nI (k := i) (by omega), came_le h (by omega) (by omega)] at h3'
            exact stay _ (keep (fun _ => ng (fun z => (cLs_iff.mp z).elim (fun z => h1' z) (fun z => h3' z.2))))
          · have h3' : ¬ y.2 2 (nI j).toNatClampNeg ≤ y.2 2 (nI i).toNatClampNeg := h3
            rw [cl_nI (k := j) (by omega), cl_nI (k := i) (by omega), came_le h (by omega) (by omega), Decidable.not_not] at h3'
            exact upd _ (take (cLs_iff.mpr (Or.inr ⟨h2'.symm, h3'⟩))) (fun hc => keep (fun z => absurd z hc))
        · have h2' : ¬ y.2 0 (nI j).toNatClampNeg = y.2 0 (nI i).toNatClampNeg := h2
          rw [cl_nI (k := j) (by omega), cl_nI (k := i) (by omega), r0] at h2'
          exact stay _ (keep (fun _ => ng (fun z => (cLs_iff.mp z).elim (fun z => h1' z) (fun z => h2' z.1.symm))))
theorem rPsh (h : Rel N C q t x y) (k : Nat) : Rel N C q t (sA x 5 k (x.2 5 k + nI 1)) (sA y 4 k (y.2 4 k + nI 1)) := by
  obtain ⟨hi, ns, ⟨r0, r1, r3, r4, r6, r7, r8⟩, a, s⟩ := h
  refine ⟨hi, ns, ⟨r0, r1, r3, ?_, r6, r7, r8⟩, a, s⟩
  show upd (y.2 4) k (y.2 4 k + nI 1) = upd (x.2 5) k (x.2 5 k + nI 1)
  rw [r4]
theorem rFll (h : Rel N C q t x y) (k : Nat) : Rel N C q t (sA x 4 k (x.2 4 k + nI 1)) (sA y 3 k (y.2 3 k + nI 1)) := by
  obtain ⟨hi, ns, ⟨r0, r1, r3, r4, r6, r7, r8⟩, a, s⟩ := h
  refine ⟨hi, ns, ⟨r0, r1, ?_, r4, r6, r7, r8⟩, a, s⟩
  show upd (y.2 3) k (y.2 3 k + nI 1) = upd (x.2 4) k (x.2 4 k + nI 1)
  rw [r3]
set_option maxHeartbeats 4000000 in
theorem m_pushLoop (n : Nat) (c0 : Int32) : ∀ (a : Nat) {x y : xX} {q : List Nat} {t : Nat} (z4 z5 z6 : Option Value) {R : xR → xW → Prop}, Rel N C q t x y → a ≤ 3 → 0 < cSz x N (nI (a + 1)) → t + a + 1 ≤ 1000000 → (∀ y', mPost N C (t + a + 1) (cPush N a (cPsh1 N a x)) y y' → R (.inl none) (wW x0 y' o)) → xAt k_X3_pushesFrom (n + 3) R (4, [some (.ref 15), some (.int c0), some (.int (nI (a + 1))), some (.int (nI 1)), z4, z5, z6], [], wW x0 y o, 0) := by
  intro a
  induction a with
  | zero =>
    intro x y q t z4 z5 z6 R h ha hs ht hR
    have hN := h.1.n
    obtain ⟨k1, k2, k3, -⟩ := h.1.low hs
    refine xWp.gb rfl trivial rfl (fun h => absurd h (by decide)) (fun _ => ?_)
    refine xWp.go 14 rfl trivial ?_
    refine m_pick (n + 3) h c0 (nI (0 + 1)) (fun it z hit => ?_) N 0 none z6 (by omega) (fun i hi => by omega)
    rw [itOk_low h hs hit]
    refine xWp.go 129 rfl ⟨in_nI (by omega) (by omega), in_nI (by omega) (by omega), trivial⟩ ?_
    show xAt k_X3_pushesFrom (n + 3) R (129, [some (.ref 15), some (.int c0), some (.int (nI (0 + 1))), some (.int (nI 1)), some (.int (nI (cLow x N (nI (0 + 1))))), some (.int (nI N)), z], [], wW x0 (sA y 4 (nI (cLow x N (nI (0 + 1)))).toNatClampNeg (y.2 4 (nI (cLow x N (nI (0 + 1)))).toNatClampNeg + nI 1)) o, 0)
    rw [cl_nI (by omega)]
    have h1 := rPsh h (cLow x N (nI (0 + 1)))
    refine xWp.go 132 rfl trivial ?_
    rw [nI_dec]
    refine xWp.gm rfl trivial rfl (m_comes n h1 (j := 0) k1 (by omega) (by omega)) (by decide) (fun y' hy' => ?_)
    obtain ⟨⟨q', hr⟩, hk⟩ := hy'
    have hr' : Rel N C q' (t + 1) (cPsh1 N 0 x) y' := hr
    refine xWp.gb rfl trivial rfl (fun _ => ?_) (fun h => absurd (by decide) h)
    refine xWp.gb rfl trivial rfl (fun _ => ?_) (fun h => absurd (by decide) h)
    exact xWp.gf rfl trivial rfl trivial (hR y' ⟨⟨q', t + 1, by omega, hr'⟩, hk⟩)
  | succ a ih =>
    intro x y q t z4 z5 z6 R h ha hs ht hR
    have hN := h.1.n
    obtain ⟨k1, k2, k3, -⟩ := h.1.low hs
    refine xWp.gb rfl trivial rfl (fun h => absurd h (by decide)) (fun _ => ?_)
    refine xWp.go 14 rfl trivial ?_
    refine m_pick (n + 3) h c0 (nI (a + 1 + 1)) (fun it z hit => ?_) N 0 none z6 (by omega) (fun i hi => by omega)
    rw [itOk_low h hs hit]
    refine xWp.go 129 rfl ⟨in_nI (by omega) (by omega), in_nI (by omega) (by omega), trivial⟩ ?_
    show xAt k_X3_pushesFrom (n + 3) R (129, [some (.ref 15), some (.int c0), some (.int (nI (a + 1 + 1))), some (.int (nI 1)), some (.int (nI (cLow x N (nI (a + 1 + 1))))), some (.int (nI N)), z], [], wW x0 (sA y 4 (nI (cLow x N (nI (a + 1 + 1)))).toNatClampNeg (y.2 4 (nI (cLow x N (nI (a + 1 + 1)))).toNatClampNeg + nI 1)) o, 0)
    rw [cl_nI (by omega)]
    have h1 := rPsh h (cLow x N (nI (a + 1 + 1)))
    refine xWp.go 132 rfl trivial ?_
    rw [nI_dec]
    refine xWp.gm rfl trivial rfl (m_comes n h1 (j := a + 1) k1 (by omega) (by omega)) (by decide) (fun y' hy' => ?_)
    obtain ⟨⟨q', hr⟩, hk⟩ := hy'
    have hr' : Rel N C q' (t + 1) (cPsh1 N (a + 1) x) y' := hr
    have hk' : ∀ i, 4 ≤ i → y'.1 i = y.1 i := hk
    generalize cPsh1 N (a + 1) x = x1 at hr' hR
    rw [cPush] at hR
    obtain ⟨l, l1, l9, hl⟩ := hr'.1.lim (j := a + 1) (by omega) (by omega)
    have hcb := cAb_of hr'.1 (a := a) (l := l) (by omega) hl l9
    have hyl : y'.2 6 (a + 1) = nI l := by rw [hr'.2.2.1.2.2.2.2.1]; exact hl
    have hs1 := cSz_le (x := x1) (N := N) (nI (a + 1))
    refine xWp.gb rfl trivial rfl (fun h9 => ?_) (fun _ => ?_)
    · have h9' : nI (a + 1) ≤ nI 0 := h9
      rw [le_nI (by omega) (by omega)] at h9'
      omega
    refine xWp.gc rfl trivial rfl (m_count (n + 2) hr'.rd (nI (a + 1))) (by decide) ?_
    refine xWp.gb rfl ⟨in_nI (by omega) (by omega), trivial⟩ rfl (fun h9 => ?_) (fun h9 => ?_)
    · have h9' : nI (cSz x1 N (nI (a + 1))) ≤ y'.2 6 (nI (a + 1)).toNatClampNeg := h9
      rw [cl_nI (by omega), hyl, le_nI (by omega) (by omega)] at h9'
      have e : cAb x1 N (nI (a + 1)) = false := by rw [hcb]; simp; omega
      rw [e] at hR
      refine xWp.gb rfl trivial rfl (fun _ => ?_) (fun h => absurd (by decide) h)
      exact xWp.gf rfl trivial rfl trivial (hR y' ⟨⟨q', t + 1, by omega, hr'⟩, hk'⟩)
    · have h9' : ¬ nI (cSz x1 N (nI (a + 1))) ≤ y'.2 6 (nI (a + 1)).toNatClampNeg := h9
      rw [cl_nI (by omega), hyl, le_nI (by omega) (by omega)] at h9'
      have e : cAb x1 N (nI (a + 1)) = true := by rw [hcb]; simp; omega
      rw [e] at hR
      refine xWp.go 4 rfl trivial ?_
      refine ih _ _ _ hr' (by omega) (by omega) (by omega) (fun y2 hy2 => hR y2 ?_)
      obtain ⟨⟨q2, t2, ht2, hr2⟩, hk2⟩ := hy2
      exact ⟨⟨q2, t2, by omega, hr2⟩, fun i hi => by rw [hk2 i hi, hk' i hi]⟩
set_option maxHeartbeats 4000000 in
theorem m_pushesFrom (n : Nat) (h : Rel N C q t x y) {a : Nat} (ha : a ≤ 3) (hs : 0 < cSz x N (nI (a + 1))) (ht : t + a + 1 ≤ 1000000) : xCW (n + 4) k_X3_pushesFrom [.ref 15, .int (nI (a + 1))] (wW x0 y o) (mQ none (mPost N C (t + a + 1) (cPush N a (cPsh1 N a x)) y) x0 o) := by
  refine xWp.go 4 rfl trivial ?_
  exact m_pushLoop n _ a _ _ _ h ha hs ht (fun y' hy' => mQ.mk hy')
set_option maxHeartbeats 4000000 in
theorem m_fallsNow (n : Nat) (h : Rel N C q t x y) {k : Nat} (hk : k < N) (ht : t + 2 ≤ 1000000) : xCW (n + 5) k_X3_fallsNow [.ref 15, .int (nI k)] (wW x0 y o) (mQ none (mPost N C (t + 2) (cFall N k x) y) x0 o) := by
  have hN := h.1.n
  have h1 := rFll h k
  refine xWp.go 10 rfl ⟨in_nI (by omega) (by omega), in_nI (by omega) (by omega), trivial⟩ ?_
  show xAt k_X3_fallsNow (n + 4) (mQ none (mPost N C (t + 2) (cFall N k x) y) x0 o) (10, [some (.ref 15), some (.int (nI k))], [], wW x0 (sA y 3 (nI k).toNatClampNeg (y.2 3 (nI k).toNatClampNeg + nI 1)) o, 0)
  rw [cl_nI (by omega)]
  refine xWp.gm rfl trivial rfl (m_comes (n + 1) h1 (j := 1) hk (by omega) (by omega)) (by decide) (fun y' hy' => ?_)
  obtain ⟨⟨q', hr⟩, hk1⟩ := hy'
  have hk' : ∀ i, 4 ≤ i → y'.1 i = y.1 i := hk1
  have hcf : cFall N k x = cPush N 1 (cShift (sA x 4 k (x.2 4 k + nI 1)) N k (nI 1)) := rfl
  rw [hcf]
  generalize cShift (sA x 4 k (x.2 4 k + nI 1)) N k (nI 1) = x1 at hr ⊢
  obtain ⟨l, l1, l9, hl⟩ := hr.1.lim (j := 1) (by omega) (by omega)
  have hcb := cAb_of hr.1 (a := 0) (l := l) (by omega) hl l9
  have hyl : y'.2 6 1 = nI l := by rw [hr.2.2.1.2.2.2.2.1]; exact hl
  have hs1 := cSz_le (x := x1) (N := N) (nI 1)
  refine xWp.gc rfl trivial rfl (m_count (n + 3) hr.rd (nI 1)) (by decide) ?_
  refine xWp.gb rfl ⟨in_nI (k := 1) (by omega) (by omega), trivial⟩ rfl (fun h9 => ?_) (fun h9 => ?_)
  · have h9' : nI (cSz x1 N (nI 1)) ≤ y'.2 6 (nI 1).toNatClampNeg := h9
    rw [cl_nI (by omega), hyl, le_nI (by omega) (by omega)] at h9'
    have e : cAb x1 N (nI (0 + 1)) = false := by rw [hcb]; simp; omega
    have e2 : cPush N 1 x1 = x1 := by rw [cPush, e]
    rw [e2]
    exact xWp.gf rfl trivial rfl trivial (mQ.mk ⟨⟨q', t + 1, by omega, hr⟩, hk'⟩)
  · have h9' : ¬ nI (cSz x1 N (nI 1)) ≤ y'.2 6 (nI 1).toNatClampNeg := h9
    rw [cl_nI (by omega), hyl, le_nI (by omega) (by omega)] at h9'
    have e : cAb x1 N (nI (0 + 1)) = true := by rw [hcb]; simp; omega
    have e2 : cPush N 1 x1 = cPush N 0 (cPsh1 N 0 x1) := by rw [show cPush N 1 x1 = (match cAb x1 N (nI (0 + 1)) with | true => cPush N 0 (cPsh1 N 0 x1) | false => x1) from rfl, e]
    rw [e2]
    refine xWp.gm rfl trivial rfl (m_pushesFrom n hr (a := 0) (by omega) (by show 0 < cSz x1 N (nI 1); omega) (by omega)) (by decide) (fun y2 hy2 => ?_)
    obtain ⟨⟨q2, t2, ht2, hr2⟩, hk2⟩ := hy2
    exact xWp.gf rfl trivial rfl trivial (mQ.mk ⟨⟨q2, t2, by omega, hr2⟩, fun i hi => by rw [hk2 i hi, hk' i hi]⟩)
end MP
