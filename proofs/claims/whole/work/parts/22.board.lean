/-! the board's methods -/
section BO
/-- the numbers of cards, changes, queued are small -/
def cWF (x : xX) (N C Q : Nat) : Prop := x.1 1 = nI N ∧ N ≤ 20 ∧ x.1 4 = nI C ∧ C ≤ 30 ∧ x.1 5 = nI Q ∧ Q ≤ 30
set_option maxHeartbeats 4000000 in
theorem s_has (n : Nat) {x y : xX} {o : Nat → Int64} {N C Q : Nat} (hx : cWF x N C Q) {k : Nat} (hk : k < N) : xCW (n + 1) k_X0_has [.ref 1, .int (nI k)] (wW x y o) (xIs (.inl (some (.int (nI 1)))) (wW x y o)) := by
  obtain ⟨hN, hN2, -⟩ := hx
  refine xWp.run 1 rfl trivial (xWp.br rfl (fun h => absurd h (n0_nI (by omega))) (fun _ => ?_))
  refine xWp.run 3 rfl trivial (xWp.br rfl (fun h => ?_) (fun _ => ?_))
  · rw [hN, le_nI (by omega) (by omega)] at h
    omega
  · exact xWp.run 2 rfl trivial (xWp.fin rfl (Or.inr (Or.inr rfl)) ⟨rfl, rfl⟩)
set_option maxHeartbeats 4000000 in
theorem s_sizeOf (n : Nat) {x y : xX} {o : Nat → Int64} {N C Q : Nat} (hx : cWF x N C Q) (col : Int32) : xCW (n + 1) k_X0_sizeOf [.ref 1, .int col] (wW x y o) (xIs (.inl (some (.int (nI (fb_ct (fun k => decide (x.2 1 k = col)) N))))) (wW x y o)) := by
  obtain ⟨hN, hN2, -⟩ := hx
  refine xWp.run 4 rfl trivial ?_
  suffices H : ∀ m j, j + m = N → xWp i_X0_sizeOf 0 none [] (xCW n) (xIs (.inl (some (.int (nI (fb_ct (fun k => decide (x.2 1 k = col)) N))))) (wW x y o)) (4, [some (.ref 1), some (.int col), some (.int (nI (fb_ct (fun k => decide (x.2 1 k = col)) j))), some (.int (nI j))], [], wW x y o, 0) from H N 0 (by omega)
  intro m
  induction m with
  | zero =>
    intro j hj
    refine xWp.run 3 rfl trivial (xWp.br rfl (fun _ => ?_) (fun h => ?_))
    · trace_state
      sorry
    · sorry
  | succ m ih =>
    intro j hj
    refine xWp.run 3 rfl trivial (xWp.br rfl (fun h => ?_) (fun _ => ?_))
    · trace_state
      sorry
    · refine xWp.run 5 rfl ⟨in_nI (by omega) (by omega), trivial⟩ (xWp.br rfl (fun h => ?_) (fun h => ?_))
      · trace_state
        sorry
      · trace_state
        sorry
end BO
