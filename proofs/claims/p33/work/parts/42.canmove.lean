/-! the law asks whether a card can move -/
section LM
variable {sc : Option (Nat × (Nat → Int32))} {x xc : xX} {y : lY} {r : xW} {N C : Nat} {q od : List Nat} {t : Nat}
theorem l_countR (n : Nat) (h : LR N C q od t x y) (col : Int32) : xCW sc (n + 1) k_L_count [.ref 16, .ref 19, .int col] (wY xc y r) (xIs (.inl (some (.int (nI (cSz x N col))))) (wY xc y r)) := by
  rw [← lSz_eq h]; exact l_count n h.hN h.n col
theorem l_withStateR (n : Nat) (h : LR N C q od t x y) (s : Int32) : xCW sc (n + 1) k_L_withState [.ref 17, .ref 19, .int s] (wY xc y r) (xIs (.inl (some (.int (cAll x C s)))) (wY xc y r)) := by
  rw [← lAll_eq h]; exact l_withState n h.hC h.c s
theorem bt_bI (b : Bool) (i : Nat) : bt (bI b) i = (b && decide (i = 0)) := by
  cases b
  · show bt (nI 0) i = false
    rw [nI_0, b_0]
  · show bt (nI 1) i = _
    rw [bt_1]; rfl
theorem sbit {c : Nat} (hc : c < 32) (v : Int32) : v >>> (nI c &&& 31) &&& nI 1 = bI (bt v c) := b_ext (fun i hi => by
  rw [b_and, b_sshr c hc v hi, bt_1, bt_bI]
  by_cases e : i = 0
  · subst e
    rw [if_pos (show c + 0 < 32 by omega), Nat.add_zero]
  · simp [e])
theorem cAt_of {j : Nat} (h1 : 1 ≤ j) (h3 : j ≤ 3) : cAt x N (nI j) = decide (¬ nI (cSz x N (nI j)) < x.2 6 j) := by
  unfold cAt
  rw [cHL_nI (by omega), cl_nI (by omega)]
  simp [h1, h3]
set_option maxHeartbeats 8000000 in
theorem l_canLoop (n : Nat) (h : LR N C q od t x y) {k j : Nat} (hj4 : j ≤ 4) (M R : Int32) (b : Bool) (z9 : Option Value) : xAt sc k_L_canMove n (xIs (.inl (some (.int (bI (b && (decide (¬ j = 2) || !(anyB (cBar x C M) C)))))) ) (wY xc y r)) (96, [some (.ref 16), some (.ref 17), some (.ref 19), some (.int (nI k)), some (.int (nI j)), some (.int M), some (.int R), some (.int (cMis x C M)), none, z9], [.int (bI b)], wY xc y r, 0) := by
  have hC := h.c
  have hC1 := h.hC
  by_cases e2 : j = 2
  · subst e2
    have eb : bI b = bI (b && !(anyB (cBar x C M) 0)) := by simp [anyB]
    rw [eb]
    refine xWp.go 101 rfl trivial ?_
    refine xWp.loop C (fun i => (101, [some (.ref 16), some (.ref 17), some (.ref 19), some (.int (nI k)), some (.int (nI 2)), some (.int M), some (.int R), some (.int (cMis x C M)), some (.int (bI (b && !(anyB (cBar x C M) i)))), some (.int (nI i))], [], wY xc y r, 0)) (fun i hi ih => ?_) ?_
    · rw [nI_s i] at ih
      refine xWp.gb rfl ⟨inx (by omega) (by omega), trivial⟩ rfl (fun h9 => ?_) (fun _ => ?_)
      · have h' : y 4 1 ≤ nI i := h9
        rw [hC1, le_nI (by omega) (by omega)] at h'; omega
      refine xWp.gb rfl trivial rfl (fun _ => ?_) (fun h9 => absurd rfl h9)
      have yes : (b && !(anyB (cBar x C M) (i + 1))) = true → xAt sc k_L_canMove n (xIs (.inl (some (.int (bI (b && (decide (¬ 2 = 2) || !(anyB (cBar x C M) C)))))) ) (wY xc y r)) (144, [some (.ref 16), some (.ref 17), some (.ref 19), some (.int (nI k)), some (.int (nI 2)), some (.int M), some (.int R), some (.int (cMis x C M)), some (.int (bI (b && !(anyB (cBar x C M) i)))), some (.int (nI i))], [], wY xc y r, 0) := fun e => by
        rw [bI_t e] at ih
        exact xWp.go 101 rfl trivial ih
      have no : (b && !(anyB (cBar x C M) (i + 1))) = false → xAt sc k_L_canMove n (xIs (.inl (some (.int (bI (b && (decide (¬ 2 = 2) || !(anyB (cBar x C M) C)))))) ) (wY xc y r)) (148, [some (.ref 16), some (.ref 17), some (.ref 19), some (.int (nI k)), some (.int (nI 2)), some (.int M), some (.int R), some (.int (cMis x C M)), some (.int (bI (b && !(anyB (cBar x C M) i)))), some (.int (nI i))], [], wY xc y r, 0) := fun e => by
        rw [bI_f e] at ih
        exact xWp.go 101 rfl trivial ih
      have es : anyB (cBar x C M) (i + 1) = (anyB (cBar x C M) i || cBar x C M i) := rfl
      refine xWp.gb rfl trivial rfl (fun h9 => ?_) (fun h9 => ?_)
      · rw [bI_0] at h9
        refine no ?_
        rw [es]
        revert h9
        cases b <;> cases anyB (cBar x C M) i <;> simp
      rw [bI_0, Bool.not_eq_false] at h9
      have hb : b = true ∧ anyB (cBar x C M) i = false := by cases b <;> simp at h9 ⊢; exact h9
      refine xWp.gb rfl trivial rfl (fun h8 => ?_) (fun h8 => ?_)
      · have h8' : M >>> (nI i &&& 31) &&& nI 1 = 0 := h8
        rw [sbit (by omega), bI_0] at h8'
        refine yes ?_
        rw [es, hb.1, hb.2]
        unfold cBar
        rw [h8']; rfl
      · have h8' : ¬ M >>> (nI i &&& 31) &&& nI 1 = 0 := h8
        rw [sbit (by omega), bI_0, Bool.not_eq_false] at h8'
        refine xWp.gb rfl ⟨in5 (K := 12) (by omega) (by omega) (by omega), trivial⟩ rfl (fun h7 => ?_) (fun h7 => ?_)
        · have h7' : y 2 (xk 5 0 * nI i + xk 3 0).toNatClampNeg &&& cMis x C M = 0 := h7
          rw [c5 (by omega) (by omega), h.nee (by omega)] at h7'
          refine yes ?_
          rw [es, hb.1, hb.2]
          unfold cBar
          rw [h7', h8']; rfl
        · have h7' : ¬ y 2 (xk 5 0 * nI i + xk 3 0).toNatClampNeg &&& cMis x C M = 0 := h7
          rw [c5 (by omega) (by omega), h.nee (by omega)] at h7'
          refine no ?_
          rw [es, hb.1, hb.2]
          unfold cBar
          rw [h8']
          simp [h7']
    · refine xWp.gb rfl ⟨inx (by omega) (by omega), trivial⟩ rfl (fun _ => ?_) (fun h9 => ?_)
      · exact xWp.gf rfl trivial rfl (Or.inr bI_z) ⟨by simp, rfl⟩
      · have h' : ¬ y 4 1 ≤ nI C := h9
        rw [hC1, le_nI (by omega) (by omega)] at h'; omega
  · have e : (b && (decide (¬ j = 2) || !(anyB (cBar x C M) C))) = b := by simp [e2]
    rw [e]
    have h42 : ¬ nI j = nI 2 := by rw [eq_nI (by omega) (by omega)]; exact e2
    refine xWp.gb rfl ⟨inx (by omega) (by omega), trivial⟩ rfl (fun _ => ?_) (fun _ => ?_)
    · exact xWp.gf rfl trivial rfl (Or.inr bI_z) ⟨rfl, rfl⟩
    · refine xWp.gb rfl trivial rfl (fun h9 => absurd h9 h42) (fun _ => ?_)
      exact xWp.gf rfl trivial rfl (Or.inr bI_z) ⟨rfl, rfl⟩
set_option maxHeartbeats 8000000 in
theorem l_canMove (n : Nat) (h : LR N C q od t x y) {k : Nat} (hk : k < N) : xCW sc (n + 2) k_L_canMove [.ref 16, .ref 17, .ref 19, .int (nI k)] (wY xc y r) (xIs (.inl (some (.int (bI (cMov x N C k))))) (wY xc y r)) := by
  have hN := h.n
  obtain ⟨j, hj, hc⟩ := h.col4 k
  have e1 : y 1 (xk 5 0 * nI k + xk 1 0).toNatClampNeg = nI j := by rw [c5 (by omega) (by omega), h.col (by omega), hc]
  have e2 : y 1 (xk 5 0 * nI k + xk 2 0).toNatClampNeg = x.2 3 k := by rw [c5 (by omega) (by omega), h.nam (by omega)]
  have em : cMov x N C k = cMovJ x N C k j := by unfold cMov; rw [cCol_of hc hj]
  refine xWp.gc rfl ⟨in5 (K := 10) (by omega) (by omega) (by omega), in5 (K := 10) (by omega) (by omega) (by omega), trivial⟩ rfl (l_withStateR n h (nI 3)) (by decide) ?_
  refine xWp.gc rfl trivial rfl (l_withStateR n h (nI 0)) (by decide) ?_
  refine xWp.go 42 rfl trivial ?_
  dsimp only
  rw [e1, e2, em]
  have no : ∀ L, L = [some (.ref 16), some (.ref 17), some (.ref 19), some (.int (nI k)), some (.int (nI j)), some (.int (x.2 3 k)), some (.int (cAll x C (nI 3))), some (.int (cMis x C (x.2 3 k))), none, none] → cMovJ x N C k j = false → xAt sc k_L_canMove (n + 1) (xIs (.inl (some (.int (bI (cMovJ x N C k j))))) (wY xc y r)) (95, L, [], wY xc y r, 0) := fun L hL e => by
    rw [e, hL]
    have h9 := l_canLoop (sc := sc) (r := r) (xc := xc) (n + 1) h (k := k) hj (x.2 3 k) (cAll x C (nI 3)) false none
    rw [Bool.false_and] at h9
    exact xWp.go 96 rfl trivial h9
  have yes : ∀ L, L = [some (.ref 16), some (.ref 17), some (.ref 19), some (.int (nI k)), some (.int (nI j)), some (.int (x.2 3 k)), some (.int (cAll x C (nI 3))), some (.int (cMis x C (x.2 3 k))), none, none] → cMovJ x N C k j = (decide (¬ j = 2) || !(anyB (cBar x C (x.2 3 k)) C)) → xAt sc k_L_canMove (n + 1) (xIs (.inl (some (.int (bI (cMovJ x N C k j))))) (wY xc y r)) (91, L, [], wY xc y r, 0) := fun L hL e => by
    rw [e, hL]
    have h9 := l_canLoop (sc := sc) (r := r) (xc := xc) (n + 1) h (k := k) hj (x.2 3 k) (cAll x C (nI 3)) true none
    rw [Bool.true_and] at h9
    exact xWp.go 96 rfl trivial h9
  by_cases h3 : 3 ≤ j
  · refine xWp.gb rfl trivial rfl (fun _ => ?_) (fun h9 => ?_)
    · refine no _ rfl ?_
      match j, h3 with
      | j + 3, _ => rfl
    · have h9' : ¬ nI 3 ≤ nI j := h9
      rw [le_nI (by omega) (by omega)] at h9'; omega
  · refine xWp.gb rfl trivial rfl (fun h9 => ?_) (fun _ => ?_)
    · have h9' : nI 3 ≤ nI j := h9
      rw [le_nI (by omega) (by omega)] at h9'; omega
    refine xWp.gc rfl trivial rfl (l_countR n h (nI j + xk 1 0)) (by decide) ?_
    rw [nI_xk]
    have e4 : y 4 (xk 4 0 + nI j).toNatClampNeg = x.2 6 (j + 1) := by rw [xk_nI, cl_nI (by omega), show 4 + j = 3 + (j + 1) by omega, h.lim (by omega) (by omega)]
    have ea := cAt_of (x := x) (N := N) (j := j + 1) (by omega) (by omega)
    refine xWp.gb rfl ⟨inA (by omega) (by omega), trivial⟩ rfl (fun h9 => ?_) (fun h9 => ?_)
    · have h9' : y 4 (xk 4 0 + nI j).toNatClampNeg ≤ nI (cSz x N (nI (j + 1))) := h9
      rw [e4] at h9'
      have ea2 : cAt x N (nI (j + 1)) = true := by
        rw [ea, decide_eq_true_eq, fa_lt]
        rw [fa_le] at h9'
        omega
      refine no _ rfl ?_
      rcases (show j = 0 ∨ j = 1 ∨ j = 2 by omega) with rfl | rfl | rfl
      · have ea3 : cAt x N (nI 1) = true := ea2
        unfold cMovJ; rw [ea3]; rfl
      · have ea3 : cAt x N (nI 2) = true := ea2
        unfold cMovJ; rw [ea3]; rfl
      · have ea3 : cAt x N (nI 3) = true := ea2
        unfold cMovJ; rw [ea3]; rfl
    · have h9' : ¬ y 4 (xk 4 0 + nI j).toNatClampNeg ≤ nI (cSz x N (nI (j + 1))) := h9
      rw [e4] at h9'
      have ea2 : cAt x N (nI (j + 1)) = false := by
        rw [ea, decide_eq_false_iff_not, fa_lt]
        rw [fa_le] at h9'
        omega
      rcases (show j = 0 ∨ j = 1 ∨ j = 2 by omega) with rfl | rfl | rfl
      · have ea3 : cAt x N (nI 1) = false := ea2
        refine xWp.gb rfl trivial rfl (fun h9 => absurd h9 (by decide)) (fun _ => ?_)
        refine xWp.gb rfl trivial rfl (fun h9 => absurd h9 (by decide)) (fun _ => ?_)
        exact yes _ rfl (by unfold cMovJ; rw [ea3]; rfl)
      · have ea3 : cAt x N (nI 2) = false := ea2
        refine xWp.gb rfl trivial rfl (fun _ => ?_) (fun h9 => absurd rfl h9)
        refine xWp.gb rfl trivial rfl (fun h8 => ?_) (fun h8 => ?_)
        · exact no _ rfl (by unfold cMovJ; rw [show x.2 3 k = 0 from h8]; simp)
        · refine xWp.gb rfl trivial rfl (fun h9 => absurd h9 (by decide)) (fun _ => ?_)
          refine yes _ rfl ?_
          have h8' : ¬ x.2 3 k = 0 := h8
          unfold cMovJ; rw [ea3]; simp [h8']
      · have ea3 : cAt x N (nI 3) = false := ea2
        refine xWp.gb rfl trivial rfl (fun h9 => absurd h9 (by decide)) (fun _ => ?_)
        refine xWp.gb rfl trivial rfl (fun _ => ?_) (fun h9 => absurd rfl h9)
        refine xWp.gb rfl trivial rfl (fun h8 => ?_) (fun h8 => ?_)
        · have h8' : x.2 3 k &&& cAll x C (nI 3) = 0 := h8
          exact yes _ rfl (by unfold cMovJ cRdy; rw [ea3]; simp [h8'])
        · have h8' : ¬ x.2 3 k &&& cAll x C (nI 3) = 0 := h8
          exact no _ rfl (by unfold cMovJ cRdy; simp [h8'])
end LM
