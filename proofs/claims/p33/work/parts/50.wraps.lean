/-! the law's own methods: a call of the class, what it throws told as a number -/
section LWr
variable {sc : Option (Nat × (Nat → Int32))} {x x1 : xX} {y : xW}
theorem xWp.gq {I : List (List xI)} {bm : Nat} {scr : xT} {hd : List (Nat × Nat × Nat)} {cl : Nat → List Value → xW → (xR → xW → Prop) → Prop} {Q : xR → xW → Prop} {s : xS} {s' : xS} {g g2 : Prop} {k nx u : Nat} {as st : List Value} {L : xL} {w : xW} (h : xgo I bm scr 9999 60 s = some (g, s')) (hg : g) (h2 : xo I bm scr s' = some (.inr (.inr (.inr (.inl (g2, (k, as, nx, L, st, w, u))))))) {P : xR → xW → Prop} (hc : cl k as w P) (hg2 : g2) (kk : ∀ r w', P r w' → xH scr.2 hd (xWp I bm scr hd cl Q) Q nx L st u r w') : xWp I bm scr hd cl Q s :=
  xWp.go 9999 h hg (xWp.call h2 hg2 _ hc kk)
set_option maxHeartbeats 4000000 in
theorem w_move {v0 : Int32} {b : Int32} (hc : xCW sc 20 k_X2_move [.ref 0, .int v0] (wW x y) (xIs (.inl (some (.int b))) (wW x1 y))) : xCW sc 21 k_L_moved [.ref 0, .int (nI 0), .int v0] (wW x y) (xIs (.inl (some (.int b))) (wW x1 y)) := by
  refine xWp.gb rfl trivial rfl (fun _ => ?_) (fun h => absurd rfl h)
  refine xWp.gc rfl trivial rfl hc (by decide) ?_
  exact xWp.gf rfl trivial rfl (Or.inl rfl) ⟨rfl, rfl⟩
set_option maxHeartbeats 4000000 in
theorem w_move_1 {v0 : Int32} (hc : xCW sc 20 k_X2_move [.ref 0, .int v0] (wW x y) (xIs (.inr 1) (wW x1 y))) : xCW sc 21 k_L_moved [.ref 0, .int (nI 0), .int v0] (wW x y) (xIs (.inl (some (.int (xk 5 1)))) (wW x1 y)) := by
  refine xWp.gb rfl trivial rfl (fun _ => ?_) (fun h => absurd rfl h)
  refine xWp.gq rfl trivial rfl hc (by decide) (fun r w9 h9 => ?_)
  obtain ⟨rfl, rfl⟩ := h9
  show xWp (m_i k_L_moved) (m_b k_L_moved) (sc, m_t k_L_moved) (m_hd k_L_moved) (xCW sc 20) _ (19, _, _, _, _)
  exact xWp.gf rfl trivial rfl (Or.inl rfl) ⟨rfl, rfl⟩
set_option maxHeartbeats 4000000 in
theorem w_moveBack {v0 : Int32} {b : Int32} (hc : xCW sc 20 k_X2_moveBack [.ref 0, .int v0] (wW x y) (xIs (.inl (some (.int b))) (wW x1 y))) : xCW sc 21 k_L_moved [.ref 0, .int (nI 1), .int v0] (wW x y) (xIs (.inl (some (.int b))) (wW x1 y)) := by
  refine xWp.gb rfl trivial rfl (fun h => absurd h (by decide)) (fun _ => ?_)
  refine xWp.gc rfl trivial rfl hc (by decide) ?_
  exact xWp.gf rfl trivial rfl (Or.inl rfl) ⟨rfl, rfl⟩
set_option maxHeartbeats 4000000 in
theorem w_moveBack_1 {v0 : Int32} (hc : xCW sc 20 k_X2_moveBack [.ref 0, .int v0] (wW x y) (xIs (.inr 1) (wW x1 y))) : xCW sc 21 k_L_moved [.ref 0, .int (nI 1), .int v0] (wW x y) (xIs (.inl (some (.int (xk 5 1)))) (wW x1 y)) := by
  refine xWp.gb rfl trivial rfl (fun h => absurd h (by decide)) (fun _ => ?_)
  refine xWp.gq rfl trivial rfl hc (by decide) (fun r w9 h9 => ?_)
  obtain ⟨rfl, rfl⟩ := h9
  show xWp (m_i k_L_moved) (m_b k_L_moved) (sc, m_t k_L_moved) (m_hd k_L_moved) (xCW sc 20) _ (19, _, _, _, _)
  exact xWp.gf rfl trivial rfl (Or.inl rfl) ⟨rfl, rfl⟩
set_option maxHeartbeats 4000000 in
theorem w_name {v0 v1 v2 : Int32} {b : Int32} (hc : xCW sc 20 k_X2_name [.ref 0, .int v0, .int v1, .int v2] (wW x y) (xIs (.inl (some (.int b))) (wW x1 y))) : xCW sc 21 k_L_named [.ref 0, .int v0, .int v1, .int v2] (wW x y) (xIs (.inl (some (.int b))) (wW x1 y)) := by
  refine xWp.gc rfl trivial rfl hc (by decide) ?_
  exact xWp.gf rfl trivial rfl (Or.inl rfl) ⟨rfl, rfl⟩
set_option maxHeartbeats 4000000 in
theorem w_name_1 {v0 v1 v2 : Int32} (hc : xCW sc 20 k_X2_name [.ref 0, .int v0, .int v1, .int v2] (wW x y) (xIs (.inr 1) (wW x1 y))) : xCW sc 21 k_L_named [.ref 0, .int v0, .int v1, .int v2] (wW x y) (xIs (.inl (some (.int (xk 5 1)))) (wW x1 y)) := by
  refine xWp.gq rfl trivial rfl hc (by decide) (fun r w9 h9 => ?_)
  obtain ⟨rfl, rfl⟩ := h9
  show xWp (m_i k_L_named) (m_b k_L_named) (sc, m_t k_L_named) (m_hd k_L_named) (xCW sc 20) _ (10, _, _, _, _)
  exact xWp.gf rfl trivial rfl (Or.inl rfl) ⟨rfl, rfl⟩
set_option maxHeartbeats 4000000 in
theorem w_need {v0 v1 : Int32} {b : Int32} (hc : xCW sc 20 k_X2_need [.ref 0, .int v0, .int v1] (wW x y) (xIs (.inl (some (.int b))) (wW x1 y))) : xCW sc 21 k_L_needed [.ref 0, .int v0, .int v1] (wW x y) (xIs (.inl (some (.int b))) (wW x1 y)) := by
  refine xWp.gc rfl trivial rfl hc (by decide) ?_
  exact xWp.gf rfl trivial rfl (Or.inl rfl) ⟨rfl, rfl⟩
set_option maxHeartbeats 4000000 in
theorem w_need_0 {v0 v1 : Int32} (hc : xCW sc 20 k_X2_need [.ref 0, .int v0, .int v1] (wW x y) (xIs (.inr 0) (wW x1 y))) : xCW sc 21 k_L_needed [.ref 0, .int v0, .int v1] (wW x y) (xIs (.inl (some (.int (xk 3 1)))) (wW x1 y)) := by
  refine xWp.gq rfl trivial rfl hc (by decide) (fun r w9 h9 => ?_)
  obtain ⟨rfl, rfl⟩ := h9
  show xWp (m_i k_L_needed) (m_b k_L_needed) (sc, m_t k_L_needed) (m_hd k_L_needed) (xCW sc 20) _ (8, _, _, _, _)
  exact xWp.gf rfl trivial rfl (Or.inl rfl) ⟨rfl, rfl⟩
set_option maxHeartbeats 4000000 in
theorem w_need_1 {v0 v1 : Int32} (hc : xCW sc 20 k_X2_need [.ref 0, .int v0, .int v1] (wW x y) (xIs (.inr 1) (wW x1 y))) : xCW sc 21 k_L_needed [.ref 0, .int v0, .int v1] (wW x y) (xIs (.inl (some (.int (xk 5 1)))) (wW x1 y)) := by
  refine xWp.gq rfl trivial rfl hc (by decide) (fun r w9 h9 => ?_)
  obtain ⟨rfl, rfl⟩ := h9
  show xWp (m_i k_L_needed) (m_b k_L_needed) (sc, m_t k_L_needed) (m_hd k_L_needed) (xCW sc 20) _ (12, _, _, _, _)
  exact xWp.gf rfl trivial rfl (Or.inl rfl) ⟨rfl, rfl⟩
set_option maxHeartbeats 4000000 in
theorem w_setBroken {v0 v1 : Int32} {b : Bool} (hc : xCW sc 20 k_X2_setBroken [.ref 0, .int v0, .int v1] (wW x y) (xIs (.inl (some (.int (bI b)))) (wW x1 y))) : xCW sc 21 k_L_broke [.ref 0, .int v0, .int v1] (wW x y) (xIs (.inl (some (.int (bI b)))) (wW x1 y)) := by
  cases b
  · refine xWp.gc rfl trivial rfl hc (by decide) ?_
    refine xWp.gb rfl trivial rfl (fun _ => ?_) (fun h => absurd rfl h)
    exact xWp.gf rfl trivial rfl (Or.inl rfl) ⟨rfl, rfl⟩
  · refine xWp.gc rfl trivial rfl hc (by decide) ?_
    refine xWp.gb rfl trivial rfl (fun h => absurd h (by decide)) (fun _ => ?_)
    exact xWp.gf rfl trivial rfl (Or.inl rfl) ⟨rfl, rfl⟩
set_option maxHeartbeats 4000000 in
theorem w_setBroken_1 {v0 v1 : Int32} (hc : xCW sc 20 k_X2_setBroken [.ref 0, .int v0, .int v1] (wW x y) (xIs (.inr 1) (wW x1 y))) : xCW sc 21 k_L_broke [.ref 0, .int v0, .int v1] (wW x y) (xIs (.inl (some (.int (xk 5 1)))) (wW x1 y)) := by
  refine xWp.gq rfl trivial rfl hc (by decide) (fun r w9 h9 => ?_)
  obtain ⟨rfl, rfl⟩ := h9
  show xWp (m_i k_L_broke) (m_b k_L_broke) (sc, m_t k_L_broke) (m_hd k_L_broke) (xCW sc 20) _ (16, _, _, _, _)
  exact xWp.gf rfl trivial rfl (Or.inl rfl) ⟨rfl, rfl⟩
set_option maxHeartbeats 4000000 in
theorem w_setClash {v0 v1 v2 : Int32} {b : Bool} (hc : xCW sc 20 k_X2_setClash [.ref 0, .int v0, .int v1, .int v2] (wW x y) (xIs (.inl (some (.int (bI b)))) (wW x1 y))) : xCW sc 21 k_L_clashed [.ref 0, .int v0, .int v1, .int v2] (wW x y) (xIs (.inl (some (.int (bI b)))) (wW x1 y)) := by
  cases b
  · refine xWp.gc rfl trivial rfl hc (by decide) ?_
    refine xWp.gb rfl trivial rfl (fun _ => ?_) (fun h => absurd rfl h)
    exact xWp.gf rfl trivial rfl (Or.inl rfl) ⟨rfl, rfl⟩
  · refine xWp.gc rfl trivial rfl hc (by decide) ?_
    refine xWp.gb rfl trivial rfl (fun h => absurd h (by decide)) (fun _ => ?_)
    exact xWp.gf rfl trivial rfl (Or.inl rfl) ⟨rfl, rfl⟩
set_option maxHeartbeats 4000000 in
theorem w_setClash_0 {v0 v1 v2 : Int32} (hc : xCW sc 20 k_X2_setClash [.ref 0, .int v0, .int v1, .int v2] (wW x y) (xIs (.inr 0) (wW x1 y))) : xCW sc 21 k_L_clashed [.ref 0, .int v0, .int v1, .int v2] (wW x y) (xIs (.inl (some (.int (xk 3 1)))) (wW x1 y)) := by
  refine xWp.gq rfl trivial rfl hc (by decide) (fun r w9 h9 => ?_)
  obtain ⟨rfl, rfl⟩ := h9
  show xWp (m_i k_L_clashed) (m_b k_L_clashed) (sc, m_t k_L_clashed) (m_hd k_L_clashed) (xCW sc 20) _ (18, _, _, _, _)
  exact xWp.gf rfl trivial rfl (Or.inl rfl) ⟨rfl, rfl⟩
set_option maxHeartbeats 4000000 in
theorem w_setClash_1 {v0 v1 v2 : Int32} (hc : xCW sc 20 k_X2_setClash [.ref 0, .int v0, .int v1, .int v2] (wW x y) (xIs (.inr 1) (wW x1 y))) : xCW sc 21 k_L_clashed [.ref 0, .int v0, .int v1, .int v2] (wW x y) (xIs (.inl (some (.int (xk 5 1)))) (wW x1 y)) := by
  refine xWp.gq rfl trivial rfl hc (by decide) (fun r w9 h9 => ?_)
  obtain ⟨rfl, rfl⟩ := h9
  show xWp (m_i k_L_clashed) (m_b k_L_clashed) (sc, m_t k_L_clashed) (m_hd k_L_clashed) (xCW sc 20) _ (23, _, _, _, _)
  exact xWp.gf rfl trivial rfl (Or.inl rfl) ⟨rfl, rfl⟩
set_option maxHeartbeats 4000000 in
theorem w_mend {v0 : Int32} {b : Int32} (hc : xCW sc 20 k_X2_mend [.ref 0, .int v0] (wW x y) (xIs (.inl (some (.int b))) (wW x1 y))) : xCW sc 21 k_L_did [.ref 0, .int (nI 0), .int v0] (wW x y) (xIs (.inl (some (.int b))) (wW x1 y)) := by
  refine xWp.gb rfl trivial rfl (fun _ => ?_) (fun h => absurd rfl h)
  refine xWp.gc rfl trivial rfl hc (by decide) ?_
  exact xWp.gf rfl trivial rfl (Or.inl rfl) ⟨rfl, rfl⟩
set_option maxHeartbeats 4000000 in
theorem w_mend_1 {v0 : Int32} (hc : xCW sc 20 k_X2_mend [.ref 0, .int v0] (wW x y) (xIs (.inr 1) (wW x1 y))) : xCW sc 21 k_L_did [.ref 0, .int (nI 0), .int v0] (wW x y) (xIs (.inl (some (.int (xk 5 1)))) (wW x1 y)) := by
  refine xWp.gb rfl trivial rfl (fun _ => ?_) (fun h => absurd rfl h)
  refine xWp.gq rfl trivial rfl hc (by decide) (fun r w9 h9 => ?_)
  obtain ⟨rfl, rfl⟩ := h9
  show xWp (m_i k_L_did) (m_b k_L_did) (sc, m_t k_L_did) (m_hd k_L_did) (xCW sc 20) _ (19, _, _, _, _)
  exact xWp.gf rfl trivial rfl (Or.inl rfl) ⟨rfl, rfl⟩
set_option maxHeartbeats 4000000 in
theorem w_takeOut {v0 : Int32} {b : Int32} (hc : xCW sc 20 k_X2_takeOut [.ref 0, .int v0] (wW x y) (xIs (.inl (some (.int b))) (wW x1 y))) : xCW sc 21 k_L_did [.ref 0, .int (nI 1), .int v0] (wW x y) (xIs (.inl (some (.int b))) (wW x1 y)) := by
  refine xWp.gb rfl trivial rfl (fun h => absurd h (by decide)) (fun _ => ?_)
  refine xWp.gc rfl trivial rfl hc (by decide) ?_
  exact xWp.gf rfl trivial rfl (Or.inl rfl) ⟨rfl, rfl⟩
set_option maxHeartbeats 4000000 in
theorem w_takeOut_1 {v0 : Int32} (hc : xCW sc 20 k_X2_takeOut [.ref 0, .int v0] (wW x y) (xIs (.inr 1) (wW x1 y))) : xCW sc 21 k_L_did [.ref 0, .int (nI 1), .int v0] (wW x y) (xIs (.inl (some (.int (xk 5 1)))) (wW x1 y)) := by
  refine xWp.gb rfl trivial rfl (fun h => absurd h (by decide)) (fun _ => ?_)
  refine xWp.gq rfl trivial rfl hc (by decide) (fun r w9 h9 => ?_)
  obtain ⟨rfl, rfl⟩ := h9
  show xWp (m_i k_L_did) (m_b k_L_did) (sc, m_t k_L_did) (m_hd k_L_did) (xCW sc 20) _ (19, _, _, _, _)
  exact xWp.gf rfl trivial rfl (Or.inl rfl) ⟨rfl, rfl⟩
set_option maxHeartbeats 4000000 in
theorem w_merge {v0 : Int32} {b : Int32} (hc : xCW sc 20 k_X2_merge [.ref 0, .int v0] (wW x y) (xIs (.inl (some (.int b))) (wW x1 y))) : xCW sc 21 k_L_merged [.ref 0, .int v0] (wW x y) (xIs (.inl (some (.int b))) (wW x1 y)) := by
  refine xWp.gc rfl trivial rfl hc (by decide) ?_
  exact xWp.gf rfl trivial rfl (Or.inl rfl) ⟨rfl, rfl⟩
set_option maxHeartbeats 4000000 in
theorem w_merge_1 {v0 : Int32} (hc : xCW sc 20 k_X2_merge [.ref 0, .int v0] (wW x y) (xIs (.inr 1) (wW x1 y))) : xCW sc 21 k_L_merged [.ref 0, .int v0] (wW x y) (xIs (.inl (some (.int (xk 5 1)))) (wW x1 y)) := by
  refine xWp.gq rfl trivial rfl hc (by decide) (fun r w9 h9 => ?_)
  obtain ⟨rfl, rfl⟩ := h9
  show xWp (m_i k_L_merged) (m_b k_L_merged) (sc, m_t k_L_merged) (m_hd k_L_merged) (xCW sc 20) _ (7, _, _, _, _)
  exact xWp.gf rfl trivial rfl (Or.inl rfl) ⟨rfl, rfl⟩
end LWr
