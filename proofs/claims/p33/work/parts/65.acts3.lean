/-! the law acts, whole; what it reads off the script -/
section LAc2
variable {sc : Option (Nat × (Nat → Int32))} {x xc : xX} {y : lY} {N C : Nat} {q od : List Nat} {t : Nat}
theorem lAct.up {T T' : Nat} (hT : T ≤ T') {x1 : xX} {y1 : lY} {r1 : xW} (h : lAct T x1 y1 r1) : lAct T' x1 y1 r1 := by
  obtain ⟨h1, N', C', q', od', t', h2, h3⟩ := h
  exact ⟨h1, N', C', q', od', t', by omega, h3⟩
theorem lQ.up {v : Option Value} {P P' : xX → lY → xW → Prop} (h : ∀ x1 y1 r1, P x1 y1 r1 → P' x1 y1 r1) {r : xR} {w : xW} (hq : lQ v P r w) : lQ v P' r w := by
  obtain ⟨x1, y1, r1, h1, h2, h3⟩ := hq
  exact ⟨x1, y1, r1, h1, h2, h x1 y1 r1 h3⟩
set_option maxHeartbeats 16000000 in
theorem l_aRet {T u : Nat} {L : xL} {x1 : xX} {y1 : lY} {r1 : xW} (h : lAct T x1 y1 r1) : xAt sc k_L_acts 22 (lQ (some (.int (nI 1))) (lAct T)) (745, L, [.int (nI 1)], wY x1 y1 r1, u) :=
  xWp.gf rfl trivial rfl (Or.inr (Or.inr rfl)) (lQ.mk h)
set_option maxHeartbeats 16000000 in
theorem l_aHead (h : LR N C q od t x y) {T : Nat} (hT : t + 100 ≤ T) (hT2 : T + 100 ≤ 1000000) {w zz : Nat} (hw : w < 28) (hw4 : 4 ≤ w) (hz : zz < 2 ^ 31) {k : Nat} (hk : k < N) : aA sc T 125 (aL w zz (some (.int (nI k))) (some (.int (xk 5 0 * nI k))) none none none) [] x y 0 := by
  have hN := h.n
  have hC := h.c
  have eC : y 4 (xk 1 0).toNatClampNeg = nI C := h.hC
  have n10 : ¬ xk 10 0 = 0 := by decide
  have n140 : ¬ xk 140 0 = 0 := by decide
  have n5 : ¬ xk 5 0 = 0 := by decide
  have k276 : (9 ≤ w ∨ C = 0) → aA sc T 276 (aL w zz (some (.int (nI k))) (some (.int (xk 5 0 * nI k))) none none none) [] x y 0 := fun _ => by
    refine xWp.gb rfl trivial rfl (fun h8 => ?_) (fun _ => ?_)
    · have h8' : nI 18 ≤ nI w := h8
      rw [le_nI (by omega) (by omega)] at h8'
      refine xWp.gb rfl trivial rfl (fun h7 => ?_) (fun h7 => ?_)
      · have h7' : nI w = nI 18 := h7
        rw [eq_nI (by omega) (by omega)] at h7'
        subst h7'
        exact l_aBack h (by omega) (by omega) hk _ _ _
      · have h7' : ¬ nI w = nI 18 := h7
        rw [eq_nI (by omega) (by omega)] at h7'
        refine xWp.gb rfl trivial rfl (fun h6 => ?_) (fun h6 => ?_)
        · have h6' : nI w = nI 19 := h6
          rw [eq_nI (by omega) (by omega)] at h6'
          subst h6'
          exact l_aLim h (by omega) (by omega) hz _ _ _ _ _
        · have h6' : ¬ nI w = nI 19 := h6
          rw [eq_nI (by omega) (by omega)] at h6'
          refine xWp.gb rfl trivial rfl (fun h5 => ?_) (fun _ => ?_)
          · have h5' : nI 24 ≤ nI w := h5
            rw [le_nI (by omega) (by omega)] at h5'
            have e22 : nI w - xk 22 0 = nI (w - 22) := pk_sub (by omega)
            have hc : xCW sc 22 k_L_isChanged [.ref 0, .ref 15, .ref 16, .ref 17, .ref 18, .ref 19, .int (nI w - xk 22 0), .int (nI zz)] (wY x y []) (lQ (some (.int (nI 1))) (lAct T)) := by
              rw [e22]
              exact l_isChanged h (by omega) (by omega) (by omega) hz
            refine xWp.gm rfl trivial rfl hc (by decide) (fun x1 y1 r1 h4 => ?_)
            exact l_aRet h4
          · refine xWp.gm rfl trivial rfl (l_isMerged h (by omega) hz) (by decide) (fun x1 y1 r1 h4 => ?_)
            refine xWp.go 745 rfl trivial ?_
            exact l_aRet (lAct.up (by omega) h4)
    · exact l_aMove h (by omega) (by omega) hk _ _ _
  refine xWp.gb rfl trivial rfl (fun h8 => ?_) (fun h8 => ?_)
  · have h8' : nI 9 ≤ nI w := h8
    rw [le_nI (by omega) (by omega)] at h8'
    exact k276 (Or.inl h8')
  · refine xWp.gb rfl ⟨inx (by omega) (by omega), trivial⟩ rfl (fun h7 => ?_) (fun h7 => ?_)
    · have h7' : y 4 (xk 1 0).toNatClampNeg ≤ nI 0 := h7
      rw [eC, le_nI (by omega) (by omega)] at h7'
      exact k276 (Or.inr (by omega))
    · have h7' : ¬ y 4 (xk 1 0).toNatClampNeg ≤ nI 0 := h7
      rw [eC, le_nI (by omega) (by omega)] at h7'
      have nz : ¬ y 4 (xk 1 0).toNatClampNeg = 0 := by rw [eC]; exact nI_ne0 (by omega) (by omega)
      have hd : zz / 10 % C < C := Nat.mod_lt _ (by omega)
      have ed : nI zz / xk 10 0 - nI zz / xk 10 0 / y 4 (xk 1 0).toNatClampNeg * y 4 (xk 1 0).toNatClampNeg = nI (zz / 10 % C) := by
        have e : nI zz / xk 10 0 = nI (zz / 10) := pk_div hz (by omega) (by omega)
        rw [eC, e]; exact pk_rem (by omega) (by omega) (by omega)
      refine xWp.gb rfl ⟨n10, inx (by omega) (by omega), nz, n140, n5, trivial⟩ rfl (fun _ => ?_) (fun _ => ?_)
      · refine xWp.go 169 rfl trivial ?_
        have f := l_aName1 (sc := sc) h (T := T) (w := w) (zz := zz) (by omega) hk hd false
        unfold aA aL at f
        rw [← ed] at f
        exact f
      · refine xWp.go 169 rfl trivial ?_
        have f := l_aName1 (sc := sc) h (T := T) (w := w) (zz := zz) (by omega) hk hd true
        unfold aA aL at f
        rw [← ed] at f
        exact f
set_option maxHeartbeats 16000000 in
theorem l_acts (h : LR N C q od t x y) {T : Nat} (hT : t + 100 ≤ T) (hT2 : T + 100 ≤ 1000000) {w zz : Nat} (hw : w < 28) (hz : zz < 2 ^ 31) : xCW sc 23 k_L_acts [.ref 0, .ref 15, .ref 16, .ref 17, .ref 18, .ref 19, .int (nI w), .int (nI zz)] (wY x y []) (lQ (some (.int (nI 1))) (lAct T)) := by
  have hN := h.n
  have eN : y 4 (xk 0 0).toNatClampNeg = nI N := h.hN
  have k14 : aA sc T 14 (aL w zz none none none none none) [] x y 0 := by
    refine xWp.gb rfl ⟨inx (by omega) (by omega), trivial⟩ rfl (fun h9 => ?_) (fun h9 => ?_)
    · have h9' : y 4 (xk 0 0).toNatClampNeg = nI 0 := h9
      rw [eN, eq_nI (by omega) (by omega)] at h9'
      exact l_aCard h (by omega) (by omega) (by omega) hz w
    · have h9' : ¬ y 4 (xk 0 0).toNatClampNeg = nI 0 := h9
      rw [eN, eq_nI (by omega) (by omega)] at h9'
      refine xWp.gb rfl trivial rfl (fun h8 => ?_) (fun h8 => ?_)
      · have h8' : nI 4 ≤ nI w := h8
        rw [le_nI (by omega) (by omega)] at h8'
        have hk : zz % N < N := Nat.mod_lt _ (by omega)
        have ek : nI zz - nI zz / y 4 (xk 0 0).toNatClampNeg * y 4 (xk 0 0).toNatClampNeg = nI (zz % N) := by rw [eN]; exact pk_rem hz (by omega) (by omega)
        have nz : ¬ y 4 (xk 0 0).toNatClampNeg = 0 := h9
        have f := l_aHead (sc := sc) h hT hT2 hw h8' hz hk
        unfold aA aL at f
        rw [← ek] at f
        exact xWp.go 125 rfl ⟨inx (by omega) (by omega), nz, trivial⟩ f
      · have h8' : ¬ nI 4 ≤ nI w := h8
        rw [le_nI (by omega) (by omega)] at h8'
        refine xWp.gb rfl trivial rfl (fun h7 => ?_) (fun _ => ?_)
        · have h7' : nI 2 ≤ nI w := h7
          rw [le_nI (by omega) (by omega)] at h7'
          have e2 : nI w - xk 2 0 = nI (w - 2) := pk_sub (by omega)
          have hc : xCW sc 22 k_L_isChanged [.ref 0, .ref 15, .ref 16, .ref 17, .ref 18, .ref 19, .int (nI w - xk 2 0), .int (nI zz)] (wY x y []) (lQ (some (.int (nI 1))) (lAct T)) := by
            rw [e2]
            exact l_isChanged h (by omega) (by omega) (by omega) hz
          refine xWp.gm rfl trivial rfl hc (by decide) (fun x1 y1 r1 h4 => ?_)
          exact xWp.gf rfl trivial rfl (Or.inr (Or.inr rfl)) (lQ.mk h4)
        · refine xWp.gm rfl trivial rfl (l_isChanged (w := 0) (T := T) h (by omega) (by omega) (by omega) hz) (by decide) (fun x1 y1 r1 h4 => ?_)
          exact xWp.gf rfl trivial rfl (Or.inr (Or.inr rfl)) (lQ.mk h4)
  refine xWp.gb rfl trivial rfl (fun _ => ?_) (fun _ => k14)
  refine xWp.gb rfl ⟨inx (by omega) (by omega), trivial⟩ rfl (fun h9 => ?_) (fun _ => k14)
  have h9' : y 4 (xk 0 0).toNatClampNeg < nI 10 := h9
  rw [eN, lt_nI (by omega) (by omega)] at h9'
  exact l_aCard h (by omega) (by omega) h9' hz w
theorem and_31 (v : Int32) : ∃ m, m < 2 ^ 31 ∧ v &&& xk 2147483647 0 = nI m := by
  obtain ⟨a, ha, rfl⟩ := wb_of32 v
  refine ⟨a % 2 ^ 31, Nat.mod_lt _ (by decide), ?_⟩
  exact fa_mask a 31
/-- it answers a number below B -/
def lFr (B : Nat) (w0 : xW) : xR → xW → Prop := fun r w => ∃ v, v < B ∧ r = .inl (some (.int (nI v))) ∧ w = w0
set_option maxHeartbeats 16000000 in
theorem l_from (n : Nat) {L : Nat} {xs : Nat → Int32} (hL : L ≤ 260) {k B : Nat} (hk : k ≤ 1000) (hB : 0 < B) (hB2 : B < 2 ^ 31) : xCW (some (L, xs)) (n + 1) k_L_from [.ref 77, .int (nI k), .int (nI B)] (wY x y []) (lFr B (wY x y [])) := by
  have nB : ¬ nI B = 0 := nI_ne0 hB hB2
  have fin : ∀ v : Int32, xAt (some (L, xs)) k_L_from n (lFr B (wY x y [])) (28, [some (.ref 77), some (.int (nI k)), some (.int (nI B)), none], [.int v], wY x y [], 0) := fun v => by
    obtain ⟨m, hm, e⟩ := and_31 v
    have er : (v &&& xk 2147483647 0) - (v &&& xk 2147483647 0) / nI B * nI B = nI (m % B) := by rw [e]; exact pk_rem hm hB hB2
    exact xWp.gf rfl ⟨nB, trivial⟩ rfl (Or.inl rfl) ⟨m % B, Nat.mod_lt _ hB, by rw [← er], rfl⟩
  refine xWp.gb rfl trivial rfl (fun _ => ?_) (fun h9 => ?_)
  · exact xWp.go 28 rfl trivial (fin _)
  · have h9' : ¬ nI L = 0 := h9
    have hL0 : 0 < L := by
      rcases Nat.eq_zero_or_pos L with z | z
      · rw [z] at h9'; exact absurd nI_0 h9'
      · exact z
    have e : nI k - nI k / nI L * nI L = nI (k % L) := pk_rem (by omega) hL0 (by omega)
    have gi : vp_in (nI k - nI k / nI L * nI L) L := by
      rw [e]
      exact in_nI (Nat.mod_lt _ hL0) (by omega)
    exact xWp.go 28 rfl ⟨h9', gi, trivial⟩ (fin _)
end LAc2
