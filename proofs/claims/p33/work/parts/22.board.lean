/-! the board's methods -/
section BO
/-- the numbers of cards, changes, queued are small -/
def cWF (x : xX) (N C Q : Nat) : Prop := x.1 1 = nI N ∧ N ≤ 20 ∧ x.1 4 = nI C ∧ C ≤ 30 ∧ x.1 5 = nI Q ∧ Q ≤ 30
def cSz (x : xX) (N : Nat) (col : Int32) : Nat := fb_ct (fun k => decide (x.2 1 k = col)) N
def cLs (x : xX) (a b : Nat) : Bool := decide (x.2 0 b < x.2 0 a) || (decide (x.2 0 a = x.2 0 b) && decide (x.2 2 a < x.2 2 b))
def cAh (x : xX) (N k : Nat) : Nat := fb_ct (fun j => decide (x.2 1 j = x.2 1 k) && cLs x j k) N
variable {sc : Option (Nat × (Nat → Int32))} {x : xX} {y : xW} {N C Q : Nat}
set_option maxHeartbeats 4000000 in
theorem s_has (n : Nat) (hx : cWF x N C Q) {k : Nat} (hk : k < N) : xCW sc (n + 1) k_X0_has [.ref 1, .int (nI k)] (wW x y) (xIs (.inl (some (.int (nI 1)))) (wW x y)) := by
  obtain ⟨hN, hN2, -⟩ := hx
  refine xWp.gb rfl trivial rfl (fun h => absurd h (n0_nI (by omega))) (fun _ => ?_)
  refine xWp.gb rfl trivial rfl (fun h => ?_) (fun _ => ?_)
  · rw [hN, le_nI (by omega) (by omega)] at h
    omega
  · exact xWp.gf rfl trivial rfl (Or.inr (Or.inr rfl)) ⟨rfl, rfl⟩
set_option maxHeartbeats 4000000 in
/-- any int -/
theorem s_hasI (n : Nat) (c : Int32) : xCW sc (n + 1) k_X0_has [.ref 1, .int c] (wW x y) (xIs (.inl (some (.int (bI (decide (¬ c < 0 ∧ ¬ x.1 1 ≤ c)))))) (wW x y)) := by
  refine xWp.gb rfl trivial rfl (fun h => ?_) (fun h => ?_)
  · exact xWp.gf rfl trivial rfl (Or.inr (Or.inl rfl)) ⟨by rw [bI_f (by simp [h])]; rfl, rfl⟩
  · refine xWp.gb rfl trivial rfl (fun h2 => ?_) (fun h2 => ?_)
    · exact xWp.gf rfl trivial rfl (Or.inr (Or.inl rfl)) ⟨by rw [bI_f (by simp [h2])]; rfl, rfl⟩
    · exact xWp.gf rfl trivial rfl (Or.inr (Or.inr rfl)) ⟨by rw [bI_t (by simp only [decide_eq_true_eq]; exact ⟨h, h2⟩)]; rfl, rfl⟩
set_option maxHeartbeats 4000000 in
theorem s_sizeOf (n : Nat) (hx : cWF x N C Q) (col : Int32) : xCW sc (n + 1) k_X0_sizeOf [.ref 1, .int col] (wW x y) (xIs (.inl (some (.int (nI (cSz x N col))))) (wW x y)) := by
  obtain ⟨hN, hN2, -⟩ := hx
  refine xWp.go 4 rfl trivial ?_
  refine xWp.loop N (fun j => (4, [some (.ref 1), some (.int col), some (.int (nI (cSz x j col))), some (.int (nI j))], [], wW x y, 0)) (fun j hj ih => ?_) ?_
  · refine xWp.gb rfl trivial rfl (fun h => ?_) (fun _ => ?_)
    · rw [hN, le_nI (by omega) (by omega)] at h; omega
    · refine xWp.gb rfl ⟨in_nI (by omega) (by omega), trivial⟩ rfl (fun h => ?_) (fun h => ?_)
      · refine xWp.go 4 rfl trivial ?_
        rw [cl_nI (by omega)] at h
        have e : cSz x (j + 1) col = cSz x j col + 1 := by unfold cSz; rw [fb_ct_succ]; simp [h]
        rw [e, nI_s, nI_s] at ih
        exact ih
      · refine xWp.go 4 rfl trivial ?_
        rw [cl_nI (by omega)] at h
        have e : cSz x (j + 1) col = cSz x j col := by unfold cSz; rw [fb_ct_succ]; simp [h]
        rw [e, nI_s] at ih
        exact ih
  · refine xWp.gb rfl trivial rfl (fun _ => ?_) (fun h => ?_)
    · exact xWp.gf rfl trivial rfl (Or.inl rfl) ⟨rfl, rfl⟩
    · rw [hN, le_nI (by omega) (by omega)] at h; omega
/-- the state with a number, with a row changed -/
def sI (x : xX) (k : Nat) (v : Int32) : xX := (upd x.1 k v, x.2)
def sA (x : xX) (r k : Nat) (v : Int32) : xX := (x.1, va_up x.2 r (upd (x.2 r) k v))
/-- a card comes to a column -/
def cPut (x : xX) (k : Nat) (col : Int32) : xX := sI (sA (sA x 1 k col) 2 k (x.1 2)) 2 (x.1 2 + nI 1)
set_option maxHeartbeats 4000000 in
theorem s_put (n : Nat) (hx : cWF x N C Q) {k : Nat} (hk : k < N) (col : Int32) : xCW sc (n + 2) k_X0_put [.ref 1, .int (nI k), .int col] (wW x y) (xIs (.inl none) (wW (cPut x k col) y)) := by
  have hx0 := hx
  obtain ⟨hN, hN2, -⟩ := hx
  refine xWp.gc rfl trivial rfl (s_has n hx0 hk) (by decide) ?_
  refine xWp.gb rfl trivial rfl (fun h => absurd h (by decide)) (fun _ => ?_)
  refine xWp.gf rfl ⟨in_nI (by omega) (by omega), in_nI (by omega) (by omega), trivial⟩ rfl trivial ⟨rfl, ?_⟩
  rw [cl_nI (by omega)]
  rfl
set_option maxHeartbeats 4000000 in
theorem s_whereIs (n : Nat) (hx : cWF x N C Q) {k : Nat} (hk : k < N) : xCW sc (n + 2) k_X0_whereIs [.ref 1, .int (nI k)] (wW x y) (xIs (.inl (some (.int (x.2 1 k)))) (wW x y)) := by
  have hx0 := hx
  obtain ⟨hN, hN2, -⟩ := hx
  refine xWp.gc rfl trivial rfl (s_has n hx0 hk) (by decide) ?_
  refine xWp.gb rfl trivial rfl (fun h => absurd h (by decide)) (fun _ => ?_)
  refine xWp.gf rfl ⟨in_nI (by omega) (by omega), trivial⟩ rfl (Or.inl rfl) ⟨?_, rfl⟩
  rw [cl_nI (by omega)]
set_option maxHeartbeats 4000000 in
theorem s_namesOf (n : Nat) (hx : cWF x N C Q) {k : Nat} (hk : k < N) : xCW sc (n + 2) k_X0_namesOf [.ref 1, .int (nI k)] (wW x y) (xIs (.inl (some (.int (x.2 3 k)))) (wW x y)) := by
  have hx0 := hx
  obtain ⟨hN, hN2, -⟩ := hx
  refine xWp.gc rfl trivial rfl (s_has n hx0 hk) (by decide) ?_
  refine xWp.gb rfl trivial rfl (fun h => absurd h (by decide)) (fun _ => ?_)
  refine xWp.gf rfl ⟨in_nI (by omega) (by omega), trivial⟩ rfl (Or.inl rfl) ⟨?_, rfl⟩
  rw [cl_nI (by omega)]
set_option maxHeartbeats 4000000 in
theorem s_fallsOf (n : Nat) (hx : cWF x N C Q) {k : Nat} (hk : k < N) : xCW sc (n + 2) k_X0_fallsOf [.ref 1, .int (nI k)] (wW x y) (xIs (.inl (some (.int (x.2 4 k)))) (wW x y)) := by
  have hx0 := hx
  obtain ⟨hN, hN2, -⟩ := hx
  refine xWp.gc rfl trivial rfl (s_has n hx0 hk) (by decide) ?_
  refine xWp.gb rfl trivial rfl (fun h => absurd h (by decide)) (fun _ => ?_)
  refine xWp.gf rfl ⟨in_nI (by omega) (by omega), trivial⟩ rfl (Or.inl rfl) ⟨?_, rfl⟩
  rw [cl_nI (by omega)]
set_option maxHeartbeats 4000000 in
theorem s_pushesOf (n : Nat) (hx : cWF x N C Q) {k : Nat} (hk : k < N) : xCW sc (n + 2) k_X0_pushesOf [.ref 1, .int (nI k)] (wW x y) (xIs (.inl (some (.int (x.2 5 k)))) (wW x y)) := by
  have hx0 := hx
  obtain ⟨hN, hN2, -⟩ := hx
  refine xWp.gc rfl trivial rfl (s_has n hx0 hk) (by decide) ?_
  refine xWp.gb rfl trivial rfl (fun h => absurd h (by decide)) (fun _ => ?_)
  refine xWp.gf rfl ⟨in_nI (by omega) (by omega), trivial⟩ rfl (Or.inl rfl) ⟨?_, rfl⟩
  rw [cl_nI (by omega)]
set_option maxHeartbeats 4000000 in
theorem s_countFall (n : Nat) (hx : cWF x N C Q) {k : Nat} (hk : k < N) : xCW sc (n + 2) k_X0_countFall [.ref 1, .int (nI k)] (wW x y) (xIs (.inl none) (wW (sA x 4 k (x.2 4 k + nI 1)) y)) := by
  have hx0 := hx
  obtain ⟨hN, hN2, -⟩ := hx
  refine xWp.gc rfl trivial rfl (s_has n hx0 hk) (by decide) ?_
  refine xWp.gb rfl trivial rfl (fun h => absurd h (by decide)) (fun _ => ?_)
  refine xWp.gf rfl ⟨in_nI (by omega) (by omega), in_nI (by omega) (by omega), trivial⟩ rfl trivial ⟨rfl, ?_⟩
  rw [cl_nI (by omega)]
  rfl
set_option maxHeartbeats 4000000 in
theorem s_countPush (n : Nat) (hx : cWF x N C Q) {k : Nat} (hk : k < N) : xCW sc (n + 2) k_X0_countPush [.ref 1, .int (nI k)] (wW x y) (xIs (.inl none) (wW (sA x 5 k (x.2 5 k + nI 1)) y)) := by
  have hx0 := hx
  obtain ⟨hN, hN2, -⟩ := hx
  refine xWp.gc rfl trivial rfl (s_has n hx0 hk) (by decide) ?_
  refine xWp.gb rfl trivial rfl (fun h => absurd h (by decide)) (fun _ => ?_)
  refine xWp.gf rfl ⟨in_nI (by omega) (by omega), in_nI (by omega) (by omega), trivial⟩ rfl trivial ⟨rfl, ?_⟩
  rw [cl_nI (by omega)]
  rfl
end BO
