/-! the law counts cards in a column, collects changes of a state, counts ones -/
section LC
variable {sc : Option (Nat × (Nat → Int32))} {x : xX} {y : lY} {r : xW} {N C : Nat} {q od : List Nat} {t : Nat}
def lSz (y : lY) (N : Nat) (col : Int32) : Nat := fb_ct (fun k => decide (y 1 (5 * k + 1) = col)) N
def lAll (y : lY) (C : Nat) (s : Int32) : Int32 := orIf (fun c => decide (y 2 (5 * c + 1) = s)) bitI C
theorem lSz_eq (h : LR N C q od t x y) (col : Int32) : lSz y N col = cSz x N col := fb_ct_cong (fun k hk => by
  have := h.n
  rw [h.col (k := k) (by omega)])
theorem orIf_cong {p p' : Nat → Bool} {f f' : Nat → Int32} : ∀ {n : Nat}, (∀ k, k < n → p k = p' k ∧ (p k = true → f k = f' k)) → orIf p f n = orIf p' f' n
  | 0, _ => rfl
  | n + 1, h => by
    have h1 := orIf_cong (n := n) (fun k hk => h k (by omega))
    obtain ⟨h2, h3⟩ := h n (by omega)
    cases e : p n
    · rw [orIf_f e, orIf_f (by rw [← h2]; exact e), h1]
    · rw [orIf_t e, orIf_t (by rw [← h2]; exact e), h1, h3 e]
theorem lAll_eq (h : LR N C q od t x y) (s : Int32) : lAll y C s = cAll x C s := orIf_cong (fun c hc => by
  have := h.c
  exact ⟨by rw [h.sta (c := c) (by omega)], fun _ => rfl⟩)
set_option maxHeartbeats 4000000 in
theorem l_count (n : Nat) (hN : y 4 0 = nI N) (hN2 : N ≤ 10) (col : Int32) : xCW sc (n + 1) k_L_count [.ref 16, .ref 19, .int col] (wY x y r) (xIs (.inl (some (.int (nI (lSz y N col))))) (wY x y r)) := by
  refine xWp.go 5 rfl trivial ?_
  refine xWp.loop N (fun j => (5, [some (.ref 16), some (.ref 19), some (.int col), some (.int (nI (lSz y j col))), some (.int (nI j))], [], wY x y r, 0)) (fun j hj ih => ?_) ?_
  · refine xWp.gb rfl ⟨inx (by omega) (by omega), trivial⟩ rfl (fun h => ?_) (fun _ => ?_)
    · have h' : y 4 0 ≤ nI j := h
      rw [hN, le_nI (by omega) (by omega)] at h'; omega
    · rw [nI_s j] at ih
      refine xWp.gb rfl ⟨in5 (K := 10) (by omega) (by omega) (by omega), trivial⟩ rfl (fun h => ?_) (fun h => ?_)
      · rw [c5 (by omega) (by omega)] at h
        have e : lSz y (j + 1) col = lSz y j col + 1 := by unfold lSz; rw [fb_ct_succ]; simp [h]
        rw [e, nI_s] at ih
        exact xWp.go 5 rfl trivial ih
      · rw [c5 (by omega) (by omega)] at h
        have e : lSz y (j + 1) col = lSz y j col := by unfold lSz; rw [fb_ct_succ]; simp [h]
        rw [e, ← nI_z (lSz y j col)] at ih
        exact xWp.go 5 rfl trivial ih
  · refine xWp.gb rfl ⟨inx (by omega) (by omega), trivial⟩ rfl (fun _ => ?_) (fun h => ?_)
    · exact xWp.gf rfl trivial rfl (Or.inl rfl) ⟨rfl, rfl⟩
    · have h' : ¬ y 4 0 ≤ nI N := h
      rw [hN, le_nI (by omega) (by omega)] at h'; omega
set_option maxHeartbeats 4000000 in
theorem l_withState (n : Nat) (hC : y 4 1 = nI C) (hC2 : C ≤ 12) (s : Int32) : xCW sc (n + 1) k_L_withState [.ref 17, .ref 19, .int s] (wY x y r) (xIs (.inl (some (.int (lAll y C s)))) (wY x y r)) := by
  refine xWp.go 5 rfl trivial ?_
  refine xWp.loop C (fun j => (5, [some (.ref 17), some (.ref 19), some (.int s), some (.int (lAll y j s)), some (.int (nI j))], [], wY x y r, 0)) (fun j hj ih => ?_) ?_
  · refine xWp.gb rfl ⟨inx (by omega) (by omega), trivial⟩ rfl (fun h => ?_) (fun _ => ?_)
    · have h' : y 4 1 ≤ nI j := h
      rw [hC, le_nI (by omega) (by omega)] at h'; omega
    · rw [nI_s j] at ih
      refine xWp.gb rfl ⟨in5 (K := 12) (by omega) (by omega) (by omega), trivial⟩ rfl (fun h => ?_) (fun h => ?_)
      · rw [c5 (by omega) (by omega)] at h
        have e : lAll y (j + 1) s = lAll y j s ||| bitI j := orIf_t (by simp [h])
        rw [e] at ih
        exact xWp.go 5 rfl trivial ih
      · rw [c5 (by omega) (by omega)] at h
        have e : lAll y (j + 1) s = lAll y j s := orIf_f (by simp [h])
        rw [e, ← i32_or0 (lAll y j s)] at ih
        exact xWp.go 5 rfl trivial ih
  · refine xWp.gb rfl ⟨inx (by omega) (by omega), trivial⟩ rfl (fun _ => ?_) (fun h => ?_)
    · exact xWp.gf rfl trivial rfl (Or.inl rfl) ⟨rfl, rfl⟩
    · have h' : ¬ y 4 1 ≤ nI C := h
      rw [hC, le_nI (by omega) (by omega)] at h'; omega
/-- how many ones a number has -/
def nOnes (m : Nat) : Nat := fb_ct (fun i => m.testBit i) 32
theorem and_pred_bit : ∀ (m i : Nat), 0 < m → ∃ k, m.testBit k = true ∧ (∀ i, (m &&& (m - 1)).testBit i = (m.testBit i && !decide (i = k))) := by
  intro m
  induction m using Nat.strongRecOn with
  | ind m ih =>
    intro i hm
    rcases Nat.mod_two_eq_zero_or_one m with e | e
    · obtain ⟨a, rfl⟩ : ∃ a, m = 2 * a := ⟨m / 2, by omega⟩
      obtain ⟨k, h1, h2⟩ := ih a (by omega) i (by omega)
      refine ⟨k + 1, ?_, fun j => ?_⟩
      · rw [Nat.testBit_succ, Nat.mul_div_cancel_left _ (by decide)]; exact h1
      · rw [Nat.testBit_and]
        cases j with
        | zero => simp [Nat.testBit_zero]
        | succ j =>
          rw [Nat.testBit_succ, Nat.testBit_succ, show (2 * a) / 2 = a by omega, show (2 * a - 1) / 2 = a - 1 by omega]
          have h3 := h2 j
          rw [Nat.testBit_and] at h3
          rw [h3]
          simp
    · refine ⟨0, by simp [Nat.testBit_zero, e], fun j => ?_⟩
      rw [Nat.testBit_and]
      cases j with
      | zero => simp [Nat.testBit_zero]; omega
      | succ j =>
        rw [Nat.testBit_succ, Nat.testBit_succ, show (m - 1) / 2 = m / 2 by omega]
        simp
theorem ones_eq {m : Nat} (hm : m < 2 ^ 32) : fb_ct (bt (nI m)) 32 = nOnes m := fb_ct_cong (fun i hi => bt_nI hm i)
theorem ones_step {m : Nat} (h0 : 0 < m) (h : m < 2 ^ 32) : nOnes (m &&& (m - 1)) + 1 = nOnes m := by
  obtain ⟨k, h1, h2⟩ := and_pred_bit m 0 h0
  have hk : k < 32 := by
    rcases Nat.lt_or_ge k 32 with z | z
    · exact z
    · rw [Nat.testBit_lt_two_pow (Nat.lt_of_lt_of_le h (Nat.pow_le_pow_right (by decide) z))] at h1
      cases h1
  have h3 := fb_ct_upd (fun i => m.testBit i) false hk
  simp only [h1, if_true] at h3
  have e : nOnes (m &&& (m - 1)) = fb_ct (fun i => if i = k then false else m.testBit i) 32 := fb_ct_cong (fun i _ => by
    rw [h2]
    by_cases e : i = k <;> simp [e])
  rw [e]
  show _ = fb_ct (fun i => m.testBit i) 32
  simpa using h3
theorem and_pred {m : Nat} (h0 : 0 < m) : nI m &&& (nI m - xk 1 0) = nI (m &&& (m - 1)) := by
  obtain ⟨a, rfl⟩ : ∃ a, m = a + 1 := ⟨m - 1, by omega⟩
  rw [show nI (a + 1) - xk 1 0 = nI a from nI_pre a, nx_and]
  rfl
theorem ones_0 : nOnes 0 = 0 := by decide +kernel
set_option maxHeartbeats 4000000 in
theorem l_ones (n : Nat) (w : xW) (v : Int32) : xCW sc (n + 1) k_L_ones [.int v] w (xIs (.inl (some (.int (nI (fb_ct (bt v) 32))))) w) := by
  obtain ⟨m, hm, rfl⟩ := wb_of32 v
  rw [ones_eq hm]
  have gen : ∀ (b j m' : Nat), m' < 2 ^ 32 → nOnes m' = b → j + b = nOnes m → xAt sc k_L_ones n (xIs (.inl (some (.int (nI (nOnes m))))) w) (4, [some (.int (nI m)), some (.int (nI j)), some (.int (nI m'))], [], w, 0) := by
    intro b
    induction b with
    | zero =>
      intro j m' hm' hb hj
      have e0 : m' = 0 := by
        rcases Nat.eq_zero_or_pos m' with z | z
        · exact z
        · have := ones_step z hm'; omega
      subst e0
      refine xWp.gb rfl trivial rfl (fun _ => ?_) (fun h => absurd nI_0 h)
      exact xWp.gf rfl trivial rfl (Or.inl rfl) ⟨by rw [← hj]; rfl, rfl⟩
    | succ b ih =>
      intro j m' hm' hb hj
      have h0 : 0 < m' := by
        rcases Nat.eq_zero_or_pos m' with z | z
        · subst z; rw [ones_0] at hb; omega
        · exact z
      have h1 := ones_step h0 hm'
      have hne : ¬ nI m' = 0 := by
        intro z
        have z2 : nOnes m' = 0 := by
          rw [← ones_eq hm', z]
          exact fb_ct_zero.mpr (fun i _ => b_0 i)
        omega
      refine xWp.gb rfl trivial rfl (fun h => absurd h hne) (fun _ => ?_)
      refine xWp.go 4 rfl trivial ?_
      have h9 := ih (j + 1) (m' &&& (m' - 1)) (Nat.lt_of_le_of_lt Nat.and_le_left hm') (by omega) (by omega)
      rw [nI_s j, ← and_pred h0] at h9
      exact h9
  refine xWp.go 4 rfl trivial ?_
  exact gen (nOnes m) 0 m hm rfl (by omega)
end LC
