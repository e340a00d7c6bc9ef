/-! the class's public methods, 3 -/
section FC
variable {sc : Option (Nat × (Nat → Int32))} {x : xX} {y : xW} {N C Q : Nat} {q : List Nat} {t : Nat}
theorem c_queued : xCW sc 20 k_X2_queued [.ref 0] (wW x y) (xIs (.inl (some (.int (x.1 5)))) (wW x y)) := xWp.gf rfl trivial rfl (Or.inl rfl) ⟨rfl, rfl⟩
theorem c_hours : xCW sc 20 k_X2_hours [.ref 0] (wW x y) (xIs (.inl (some (.int (x.1 0)))) (wW x y)) := xWp.gf rfl trivial rfl (Or.inl rfl) ⟨rfl, rfl⟩
theorem c_cards : xCW sc 20 k_X2_cards [.ref 0] (wW x y) (xIs (.inl (some (.int (x.1 1)))) (wW x y)) := xWp.gf rfl trivial rfl (Or.inl rfl) ⟨rfl, rfl⟩
theorem c_changes : xCW sc 20 k_X2_changes [.ref 0] (wW x y) (xIs (.inl (some (.int (x.1 4)))) (wW x y)) := xWp.gf rfl trivial rfl (Or.inl rfl) ⟨rfl, rfl⟩
set_option maxHeartbeats 4000000 in
theorem c_queuedAt_2 {v : Int32} (h : inB v (x.1 5) = false) : xCW sc 20 k_X2_queuedAt [.ref 0, .int v] (wW x y) (xIs (.inr 2) (wW x y)) := by
  refine xWp.gb rfl trivial rfl (fun _ => ?_) (fun h0 => ?_)
  · exact xWp.gf rfl trivial rfl (by decide) ⟨rfl, rfl⟩
  · refine xWp.gb rfl trivial rfl (fun h1 => ?_) (fun _ => ?_)
    · exfalso
      unfold inB at h
      rw [decide_eq_false_iff_not] at h
      exact h ⟨h0, (fa_of_lt h1).2.1⟩
    · exact xWp.gf rfl trivial rfl (by decide) ⟨rfl, rfl⟩
set_option maxHeartbeats 4000000 in
theorem c_queuedAt (hx : cWF x N C Q) (hq : cQF x C Q) {i : Nat} (hi : i < Q) : xCW sc 20 k_X2_queuedAt [.ref 0, .int (nI i)] (wW x y) (xIs (.inl (some (.int (nI (cq x i))))) (wW x y)) := by
  have hQ := hx.2.2.2.2.2
  refine xWp.gb rfl trivial rfl (fun h => absurd h (n0_nI (by omega))) (fun _ => ?_)
  refine xWp.gb rfl trivial rfl (fun _ => ?_) (fun h => ?_)
  · refine xWp.gc rfl trivial rfl (s_changeAt _ hx hq hi) (by decide) ?_
    exact xWp.gf rfl trivial rfl (Or.inl rfl) ⟨rfl, rfl⟩
  · have h' : ¬ nI i < x.1 5 := h
    rw [hx.2.2.2.2.1, lt_nI (by omega) (by omega)] at h'
    exact absurd hi h'
set_option maxHeartbeats 4000000 in
theorem c_wouldPass_0 {v : Int32} (h : v < nI 1 ∨ ¬ v ≤ nI 8) : xCW sc 20 k_X2_wouldPass [.ref 0, .int v] (wW x y) (xIs (.inr 0) (wW x y)) :=
  xWp.gx rfl rfl trivial rfl (s_reqR_no0 _ h) (by decide) ⟨rfl, rfl⟩
set_option maxHeartbeats 4000000 in
theorem c_wouldPass_1 {v : Int32} (h1 : ¬ v < nI 1) (h8 : v ≤ nI 8) (h : ¬ v ≤ x.1 5) : xCW sc 20 k_X2_wouldPass [.ref 0, .int v] (wW x y) (xIs (.inr 1) (wW x y)) :=
  xWp.gx rfl rfl trivial rfl (s_reqR_no1 _ h1 h8 h) (by decide) ⟨rfl, rfl⟩
set_option maxHeartbeats 4000000 in
theorem c_wouldPassOneByOne_0 {v : Int32} (h : v < nI 1 ∨ ¬ v ≤ nI 8) : xCW sc 20 k_X2_wouldPassOneByOne [.ref 0, .int v] (wW x y) (xIs (.inr 0) (wW x y)) :=
  xWp.gx rfl rfl trivial rfl (s_reqR_no0 _ h) (by decide) ⟨rfl, rfl⟩
set_option maxHeartbeats 4000000 in
theorem c_wouldPassOneByOne_1 {v : Int32} (h1 : ¬ v < nI 1) (h8 : v ≤ nI 8) (h : ¬ v ≤ x.1 5) : xCW sc 20 k_X2_wouldPassOneByOne [.ref 0, .int v] (wW x y) (xIs (.inr 1) (wW x y)) :=
  xWp.gx rfl rfl trivial rfl (s_reqR_no1 _ h1 h8 h) (by decide) ⟨rfl, rfl⟩
set_option maxHeartbeats 4000000 in
theorem c_wouldTake_0 {v b : Int32} (h : v < nI 1 ∨ ¬ v ≤ nI 8) : xCW sc 20 k_X2_wouldTake [.ref 0, .int v, .int b] (wW x y) (xIs (.inr 0) (wW x y)) :=
  xWp.gx rfl rfl trivial rfl (s_reqR_no0 _ h) (by decide) ⟨rfl, rfl⟩
set_option maxHeartbeats 4000000 in
theorem c_wouldTake_1 {v b : Int32} (h1 : ¬ v < nI 1) (h8 : v ≤ nI 8) (h : ¬ v ≤ x.1 5) : xCW sc 20 k_X2_wouldTake [.ref 0, .int v, .int b] (wW x y) (xIs (.inr 1) (wW x y)) :=
  xWp.gx rfl rfl trivial rfl (s_reqR_no1 _ h1 h8 h) (by decide) ⟨rfl, rfl⟩
theorem s_reqRJ (n : Nat) (hx : cWF x N C Q) {l : Nat} (h1 : 1 ≤ l) (h8 : l ≤ 8) (hl : l ≤ Q) : xCW sc (n + 2) k_X2_requireRow [.ref 0, .int (nI l)] (wW x y) (xIs (.inl none) (wW x y)) := by
  have hQ := hx.2.2.2.2.2
  exact s_reqR _ (fun z => by rw [lt_nI (by omega) (by omega)] at z; omega) ((le_nI (by omega) (by omega)).mpr h8) (by rw [hx.2.2.2.2.1]; exact (le_nI (by omega) (by omega)).mpr hl)
set_option maxHeartbeats 4000000 in
theorem c_wouldPass (hx : cWF x N C Q) (hq : cQF x C Q) {l : Nat} (h1 : 1 ≤ l) (h8 : l ≤ 8) (hl : l ≤ Q) : xCW sc 20 k_X2_wouldPass [.ref 0, .int (nI l)] (wW x y) (xIs (.inl (some (.int (cPP x (cFR x C l).1 l)))) (wW (cTr x (cFR x C l)) y)) := by
  have hx1 : cWF (cTr x (cFR x C l)) N C Q := hx
  have hq1 : cQF (cTr x (cFR x C l)) C Q := hq
  refine xWp.gc rfl trivial rfl (s_reqRJ _ hx h1 h8 hl) (by decide) ?_
  refine xWp.gc rfl trivial rfl (s_foreseeRow _ hx hq h1 h8 hl) (by decide) ?_
  refine xWp.gc rfl trivial rfl (s_passedPlaces _ hx1 hq1 hl) (by decide) ?_
  exact xWp.gf rfl trivial rfl (Or.inl rfl) ⟨rfl, rfl⟩
set_option maxHeartbeats 4000000 in
theorem c_wouldPassOneByOne (hx : cWF x N C Q) (hq : cQF x C Q) {l : Nat} (h1 : 1 ≤ l) (h8 : l ≤ 8) (hl : l ≤ Q) : xCW sc 20 k_X2_wouldPassOneByOne [.ref 0, .int (nI l)] (wW x y) (xIs (.inl (some (.int (cPP x (cFO x C l).1 l)))) (wW (cTr x (cFO x C l)) y)) := by
  have hx1 : cWF (cTr x (cFO x C l)) N C Q := hx
  have hq1 : cQF (cTr x (cFO x C l)) C Q := hq
  refine xWp.gc rfl trivial rfl (s_reqRJ _ hx h1 h8 hl) (by decide) ?_
  refine xWp.gc rfl trivial rfl (s_foreseeOneByOne _ hx hq hl) (by decide) ?_
  refine xWp.gc rfl trivial rfl (s_passedPlaces _ hx1 hq1 hl) (by decide) ?_
  exact xWp.gf rfl trivial rfl (Or.inl rfl) ⟨rfl, rfl⟩
set_option maxHeartbeats 4000000 in
theorem c_wouldTake_r (hx : cWF x N C Q) (hq : cQF x C Q) {l : Nat} (h1 : 1 ≤ l) (h8 : l ≤ 8) (hl : l ≤ Q) : xCW sc 20 k_X2_wouldTake [.ref 0, .int (nI l), .int (nI 0)] (wW x y) (xIs (.inl (some (.int (cFR x C l).2.2))) (wW (cTr x (cFR x C l)) y)) := by
  refine xWp.gc rfl trivial rfl (s_reqRJ _ hx h1 h8 hl) (by decide) ?_
  refine xWp.gb rfl trivial rfl (fun _ => ?_) (fun h => absurd (by decide) h)
  refine xWp.gc rfl trivial rfl (s_foreseeRow _ hx hq h1 h8 hl) (by decide) ?_
  exact xWp.gf rfl trivial rfl (Or.inl rfl) ⟨rfl, rfl⟩
set_option maxHeartbeats 4000000 in
theorem c_wouldTake_o (hx : cWF x N C Q) (hq : cQF x C Q) {l : Nat} {b : Int32} (hb : ¬ b = 0) (h1 : 1 ≤ l) (h8 : l ≤ 8) (hl : l ≤ Q) : xCW sc 20 k_X2_wouldTake [.ref 0, .int (nI l), .int b] (wW x y) (xIs (.inl (some (.int (cFO x C l).2.2))) (wW (cTr x (cFO x C l)) y)) := by
  refine xWp.gc rfl trivial rfl (s_reqRJ _ hx h1 h8 hl) (by decide) ?_
  refine xWp.gb rfl trivial rfl (fun h => absurd h hb) (fun _ => ?_)
  refine xWp.gc rfl trivial rfl (s_foreseeOneByOne _ hx hq hl) (by decide) ?_
  exact xWp.gf rfl trivial rfl (Or.inl rfl) ⟨rfl, rfl⟩
def cBs1 (x : xX) (C : Nat) (b : Int32 × Int32 × Int32) (l : Nat) : Int32 × Int32 × Int32 :=
  if b.1 = -1 ∨ ¬ nI (fb_ct (bt (cPP x (cFR x C l).1 l)) 32) * b.2.2 ≤ b.2.1 * (cFR x C l).2.2 then (nI l, nI (fb_ct (bt (cPP x (cFR x C l).1 l)) 32), (cFR x C l).2.2) else b
def cBst (x : xX) (C : Nat) : Nat → Int32 × Int32 × Int32
  | 0 => (-1, nI 0, nI 1)
  | l + 1 => cBs1 x C (cBst x C l) (l + 1)
def cBsS (x : xX) (C : Nat) : Nat → Int32 × Int32 × Int32
  | 0 => (x.1 6, x.1 7, x.1 8)
  | l + 1 => cFR x C (l + 1)
set_option maxHeartbeats 8000000 in
theorem c_bestLength (hx : cWF x N C Q) (hq : cQF x C Q) {L : Nat} (h8 : L ≤ 8) (hl : L ≤ Q) (hL : L = 8 ∨ L = Q) : xCW sc 20 k_X2_bestLength [.ref 0] (wW x y) (xIs (.inl (some (.int (cBst x C L).1))) (wW (cTr x (cBsS x C L)) y)) := by
  have hQ := hx.2.2.2.2.2
  have hQ5 : x.1 5 = nI Q := hx.2.2.2.2.1
  refine xWp.go 9 rfl trivial ?_
  have key : xWp (m_i k_X2_bestLength) (m_b k_X2_bestLength) (sc, m_t k_X2_bestLength) (m_hd k_X2_bestLength) (xCW sc 19) (xIs (.inl (some (.int (cBst x C L).1))) (wW (cTr x (cBsS x C L)) y)) (9, [some (.ref 0), some (.int (cBst x C 0).1), some (.int (cBst x C 0).2.1), some (.int (cBst x C 0).2.2), some (.int (nI (0 + 1))), none], [], wW (cTr x (cBsS x C 0)) y, 0) := by
    refine xWp.loopZ L (fun j z => (9, [some (.ref 0), some (.int (cBst x C j).1), some (.int (cBst x C j).2.1), some (.int (cBst x C j).2.2), some (.int (nI (j + 1))), z], [], wW (cTr x (cBsS x C j)) y, 0)) (fun j z hj ih => ?_) (fun z => ?_) none
    · have hx1 : cWF (cTr x (cBsS x C j)) N C Q := hx
      have hq1 : cQF (cTr x (cBsS x C j)) C Q := hq
      have hx2 : cWF (cTr x (cFR x C (j + 1))) N C Q := hx
      have hq2 : cQF (cTr x (cFR x C (j + 1))) C Q := hq
      refine xWp.gb rfl trivial rfl (fun h => ?_) (fun _ => ?_)
      · have h' : nI 8 < nI (j + 1) := h
        rw [lt_nI (by omega) (by omega)] at h'
        omega
      refine xWp.gb rfl trivial rfl (fun h => ?_) (fun _ => ?_)
      · have h' : x.1 5 < nI (j + 1) := h
        rw [hQ5, lt_nI (by omega) (by omega)] at h'
        omega
      have hf := s_foreseeRow 7 hx1 hq1 (l := j + 1) (sc := sc) (y := y) (by omega) (by omega) (by omega)
      rw [cTr_tr, cFR_tr] at hf
      refine xWp.gc rfl trivial rfl hf (by decide) ?_
      have hp : xCW sc 19 k_X1_passedPlaces [.ref 9, .int (nI (j + 1))] (wW (cTr x (cFR x C (j + 1))) y) (xIs (.inl (some (.int (cPP x (cFR x C (j + 1)).1 (j + 1))))) (wW (cTr x (cFR x C (j + 1))) y)) := s_passedPlaces 16 hx2 hq2 (by omega)
      refine xWp.gc rfl trivial rfl hp (by decide) ?_
      refine xWp.gc rfl trivial rfl (s_bitCount _ _ _) (by decide) ?_
      have yes : cBst x C (j + 1) = (nI (j + 1), nI (fb_ct (bt (cPP x (cFR x C (j + 1)).1 (j + 1))) 32), (cFR x C (j + 1)).2.2) → xAt sc k_X2_bestLength 19 (xIs (.inl (some (.int (cBst x C L).1))) (wW (cTr x (cBsS x C L)) y)) (72, [some (.ref 0), some (.int (cBst x C j).1), some (.int (cBst x C j).2.1), some (.int (cBst x C j).2.2), some (.int (nI (j + 1))), some (.int (nI (fb_ct (bt (cPP x (cFR x C (j + 1)).1 (j + 1))) 32)))], [], wW (cTr x (cFR x C (j + 1))) y, 0) := fun e => by
        refine xWp.go 9 rfl trivial ?_
        have := ih (some (.int (nI (fb_ct (bt (cPP x (cFR x C (j + 1)).1 (j + 1))) 32))))
        rw [e, nI_s (j + 1)] at this
        exact this
      refine xWp.gb rfl trivial rfl (fun h => ?_) (fun h => ?_)
      · exact yes (if_pos (Or.inl h))
      · refine xWp.gb rfl trivial rfl (fun h2 => ?_) (fun h2 => ?_)
        · have e : cBst x C (j + 1) = cBst x C j := if_neg (fun z => z.elim h (fun z => z h2))
          refine xWp.go 9 rfl trivial ?_
          have := ih (some (.int (nI (fb_ct (bt (cPP x (cFR x C (j + 1)).1 (j + 1))) 32))))
          rw [e, nI_s (j + 1)] at this
          exact this
        · exact yes (if_pos (Or.inr h2))
    · by_cases e8 : L = 8
      · refine xWp.gb rfl trivial rfl (fun _ => ?_) (fun h => ?_)
        · exact xWp.gf rfl trivial rfl (Or.inl rfl) ⟨rfl, rfl⟩
        · have h' : ¬ nI 8 < nI (L + 1) := h
          rw [lt_nI (by omega) (by omega)] at h'
          omega
      · refine xWp.gb rfl trivial rfl (fun _ => ?_) (fun _ => ?_)
        · exact xWp.gf rfl trivial rfl (Or.inl rfl) ⟨rfl, rfl⟩
        · refine xWp.gb rfl trivial rfl (fun _ => ?_) (fun h => ?_)
          · exact xWp.gf rfl trivial rfl (Or.inl rfl) ⟨rfl, rfl⟩
          · have h' : ¬ x.1 5 < nI (L + 1) := h
            rw [hQ5, lt_nI (by omega) (by omega)] at h'
            omega
  have e0 : cTr x (cBsS x C 0) = x := cTr_self
  rw [e0] at key
  exact key
set_option maxHeartbeats 4000000 in
theorem c_columnOf_2 (hx : cWF x N C Q) {c : Int32} (h : inB c (nI N) = false) : xCW sc 20 k_X2_columnOf [.ref 0, .int c] (wW x y) (xIs (.inr 2) (wW x y)) :=
  xWp.gx rfl rfl trivial rfl (s_reqC_no _ (by rw [hx.1]; exact h)) (by decide) ⟨rfl, rfl⟩
set_option maxHeartbeats 4000000 in
theorem c_columnOf (hx : cWF x N C Q) {k : Nat} (hk : k < N) : xCW sc 20 k_X2_columnOf [.ref 0, .int (nI k)] (wW x y) (xIs (.inl (some (.int (x.2 1 k)))) (wW x y)) := by
  refine xWp.gc rfl trivial rfl (s_reqC _ hx hk) (by decide) ?_
  refine xWp.gc rfl trivial rfl (s_whereIs _ hx hk) (by decide) ?_
  exact xWp.gf rfl trivial rfl (Or.inl rfl) ⟨rfl, rfl⟩
set_option maxHeartbeats 4000000 in
theorem c_falls_2 (hx : cWF x N C Q) {c : Int32} (h : inB c (nI N) = false) : xCW sc 20 k_X2_falls [.ref 0, .int c] (wW x y) (xIs (.inr 2) (wW x y)) :=
  xWp.gx rfl rfl trivial rfl (s_reqC_no _ (by rw [hx.1]; exact h)) (by decide) ⟨rfl, rfl⟩
set_option maxHeartbeats 4000000 in
theorem c_falls (hx : cWF x N C Q) {k : Nat} (hk : k < N) : xCW sc 20 k_X2_falls [.ref 0, .int (nI k)] (wW x y) (xIs (.inl (some (.int (x.2 4 k)))) (wW x y)) := by
  refine xWp.gc rfl trivial rfl (s_reqC _ hx hk) (by decide) ?_
  refine xWp.gc rfl trivial rfl (s_fallsOf _ hx hk) (by decide) ?_
  exact xWp.gf rfl trivial rfl (Or.inl rfl) ⟨rfl, rfl⟩
set_option maxHeartbeats 4000000 in
theorem c_pushes_2 (hx : cWF x N C Q) {c : Int32} (h : inB c (nI N) = false) : xCW sc 20 k_X2_pushes [.ref 0, .int c] (wW x y) (xIs (.inr 2) (wW x y)) :=
  xWp.gx rfl rfl trivial rfl (s_reqC_no _ (by rw [hx.1]; exact h)) (by decide) ⟨rfl, rfl⟩
set_option maxHeartbeats 4000000 in
theorem c_pushes (hx : cWF x N C Q) {k : Nat} (hk : k < N) : xCW sc 20 k_X2_pushes [.ref 0, .int (nI k)] (wW x y) (xIs (.inl (some (.int (x.2 5 k)))) (wW x y)) := by
  refine xWp.gc rfl trivial rfl (s_reqC _ hx hk) (by decide) ?_
  refine xWp.gc rfl trivial rfl (s_pushesOf _ hx hk) (by decide) ?_
  exact xWp.gf rfl trivial rfl (Or.inl rfl) ⟨rfl, rfl⟩
set_option maxHeartbeats 4000000 in
theorem c_canMove_2 (hx : cWF x N C Q) {c : Int32} (h : inB c (nI N) = false) : xCW sc 20 k_X2_canMove [.ref 0, .int c] (wW x y) (xIs (.inr 2) (wW x y)) :=
  xWp.gx rfl rfl trivial rfl (s_reqC_no _ (by rw [hx.1]; exact h)) (by decide) ⟨rfl, rfl⟩
set_option maxHeartbeats 4000000 in
theorem c_canMove (hi : cInv N C q t x) {k : Nat} (hk : k < N) : xCW sc 20 k_X2_canMove [.ref 0, .int (nI k)] (wW x y) (xIs (.inl (some (.int (bI (cMov x N C k))))) (wW x y)) := by
  obtain ⟨j, hj, hc⟩ := hi.col k
  refine xWp.gc rfl trivial rfl (s_reqC _ hi.wf hk) (by decide) ?_
  refine xWp.gc rfl trivial rfl (s_isMovable _ hi.wf hk hc hj) (by decide) ?_
  exact xWp.gf rfl trivial rfl (Or.inr bI_z) ⟨rfl, rfl⟩
set_option maxHeartbeats 4000000 in
theorem c_lacks_2 (hx : cWF x N C Q) {c : Int32} (h : inB c (nI N) = false) : xCW sc 20 k_X2_lacks [.ref 0, .int c] (wW x y) (xIs (.inr 2) (wW x y)) :=
  xWp.gx rfl rfl trivial rfl (s_reqC_no _ (by rw [hx.1]; exact h)) (by decide) ⟨rfl, rfl⟩
set_option maxHeartbeats 4000000 in
theorem c_lacks (hx : cWF x N C Q) {k : Nat} (hk : k < N) : xCW sc 20 k_X2_lacks [.ref 0, .int (nI k)] (wW x y) (xIs (.inl (some (.int (nI (fb_ct (bt (x.2 3 k &&& (cAll x C (nI 2) ^^^ -1))) 32))))) (wW x y)) := by
  refine xWp.gc rfl trivial rfl (s_reqC _ hx hk) (by decide) ?_
  refine xWp.gc rfl trivial rfl (s_namesOf _ hx hk) (by decide) ?_
  refine xWp.gc rfl trivial rfl (s_allOf _ hx (nI 2)) (by decide) ?_
  refine xWp.gc rfl trivial rfl (s_bitCount _ _ _) (by decide) ?_
  exact xWp.gf rfl trivial rfl (Or.inl rfl) ⟨rfl, rfl⟩
set_option maxHeartbeats 4000000 in
theorem c_state_2 (hx : cWF x N C Q) {c : Int32} (h : inB c (nI C) = false) : xCW sc 20 k_X2_state [.ref 0, .int c] (wW x y) (xIs (.inr 2) (wW x y)) :=
  xWp.gx rfl rfl trivial rfl (s_reqG_no _ (by rw [hx.2.2.1]; exact h)) (by decide) ⟨rfl, rfl⟩
set_option maxHeartbeats 4000000 in
theorem c_state (hx : cWF x N C Q) {k : Nat} (hk : k < C) : xCW sc 20 k_X2_state [.ref 0, .int (nI k)] (wW x y) (xIs (.inl (some (.int (x.2 10 k)))) (wW x y)) := by
  refine xWp.gc rfl trivial rfl (s_reqG _ hx hk) (by decide) ?_
  refine xWp.gc rfl trivial rfl (s_stateOf _ hx hk) (by decide) ?_
  exact xWp.gf rfl trivial rfl (Or.inl rfl) ⟨rfl, rfl⟩
set_option maxHeartbeats 4000000 in
theorem c_namedBy_2 (hx : cWF x N C Q) {c : Int32} (h : inB c (nI C) = false) : xCW sc 20 k_X2_namedBy [.ref 0, .int c] (wW x y) (xIs (.inr 2) (wW x y)) :=
  xWp.gx rfl rfl trivial rfl (s_reqG_no _ (by rw [hx.2.2.1]; exact h)) (by decide) ⟨rfl, rfl⟩
set_option maxHeartbeats 4000000 in
theorem c_namedBy (hx : cWF x N C Q) {k : Nat} (hk : k < C) : xCW sc 20 k_X2_namedBy [.ref 0, .int (nI k)] (wW x y) (xIs (.inl (some (.int (nI (cCN x N k))))) (wW x y)) := by
  have hC := hx.2.2.2.1
  refine xWp.gc rfl trivial rfl (s_reqG _ hx hk) (by decide) ?_
  refine xWp.gc rfl trivial rfl (s_countNaming _ hx (c := k) (by omega)) (by decide) ?_
  exact xWp.gf rfl trivial rfl (Or.inl rfl) ⟨rfl, rfl⟩
set_option maxHeartbeats 4000000 in
theorem c_cardsIn_2 {c : Int32} (h : c < 0 ∨ ¬ c ≤ nI 4) : xCW sc 20 k_X2_cardsIn [.ref 0, .int c] (wW x y) (xIs (.inr 2) (wW x y)) :=
  xWp.gx rfl rfl trivial rfl (s_reqL_no _ h) (by decide) ⟨rfl, rfl⟩
set_option maxHeartbeats 4000000 in
theorem c_cardsIn (hx : cWF x N C Q) {j : Nat} (hj : j ≤ 4) : xCW sc 20 k_X2_cardsIn [.ref 0, .int (nI j)] (wW x y) (xIs (.inl (some (.int (nI (cSz x N (nI j)))))) (wW x y)) := by
  refine xWp.gc rfl trivial rfl (s_reqL _ hj) (by decide) ?_
  refine xWp.gc rfl trivial rfl (s_sizeOf _ hx (nI j)) (by decide) ?_
  exact xWp.gf rfl trivial rfl (Or.inl rfl) ⟨rfl, rfl⟩
set_option maxHeartbeats 4000000 in
theorem c_cardAt_2a {c p : Int32} (h : c < 0 ∨ ¬ c ≤ nI 4) : xCW sc 20 k_X2_cardAt [.ref 0, .int c, .int p] (wW x y) (xIs (.inr 2) (wW x y)) :=
  xWp.gx rfl rfl trivial rfl (s_reqL_no _ h) (by decide) ⟨rfl, rfl⟩
set_option maxHeartbeats 4000000 in
theorem c_cardAt_2b (hx : cWF x N C Q) {j : Nat} {p : Int32} (hj : j ≤ 4) (h : inB p (nI (cSz x N (nI j))) = false) : xCW sc 20 k_X2_cardAt [.ref 0, .int (nI j), .int p] (wW x y) (xIs (.inr 2) (wW x y)) := by
  refine xWp.gc rfl trivial rfl (s_reqL _ hj) (by decide) ?_
  refine xWp.gb rfl trivial rfl (fun _ => ?_) (fun h0 => ?_)
  · exact xWp.gf rfl trivial rfl (by decide) ⟨rfl, rfl⟩
  · refine xWp.gc rfl trivial rfl (s_sizeOf _ hx (nI j)) (by decide) ?_
    refine xWp.gb rfl trivial rfl (fun h1 => ?_) (fun _ => ?_)
    · exfalso
      unfold inB at h
      rw [decide_eq_false_iff_not] at h
      exact h ⟨h0, (fa_of_lt h1).2.1⟩
    · exact xWp.gf rfl trivial rfl (by decide) ⟨rfl, rfl⟩
set_option maxHeartbeats 4000000 in
theorem c_cardAt (hi : cInv N C q t x) {j p k : Nat} (hj : j ≤ 4) (hk : k < N) (hc : x.2 1 k = nI j) (hp : cAh x N k = p) (hps : p < cSz x N (nI j)) : xCW sc 20 k_X2_cardAt [.ref 0, .int (nI j), .int (nI p)] (wW x y) (xIs (.inl (some (.int (nI k)))) (wW x y)) := by
  have hs := cSz_le (x := x) (N := N) (nI j)
  have hN := hi.n
  refine xWp.gc rfl trivial rfl (s_reqL _ hj) (by decide) ?_
  refine xWp.gb rfl trivial rfl (fun h => absurd h (n0_nI (by omega))) (fun _ => ?_)
  refine xWp.gc rfl trivial rfl (s_sizeOf _ hi.wf (nI j)) (by decide) ?_
  refine xWp.gb rfl trivial rfl (fun _ => ?_) (fun h => absurd ((lt_nI (by omega) (by omega)).mpr hps) h)
  refine xWp.gc rfl trivial rfl (s_cardInOrderJ _ hi.wf hk (p := p) rfl hc hp (fun i hik z => ?_)) (by decide) ?_
  · have := hi.one (a := i) (b := k) (by omega) hk z.1 hc (by rw [z.2, hp])
    omega
  · exact xWp.gf rfl trivial rfl (Or.inl rfl) ⟨rfl, rfl⟩
set_option maxHeartbeats 4000000 in
theorem c_setLimit_2 {v l : Int32} (h : cHL v = false) : xCW sc 20 k_X2_setLimit [.ref 0, .int v, .int l] (wW x y) (xIs (.inr 2) (wW x y)) := by
  refine xWp.gc rfl trivial rfl (s_hasLimit _ _ v) (by decide) ?_
  rw [h]
  refine xWp.gb rfl trivial rfl (fun _ => ?_) (fun h => absurd (by decide) h)
  exact xWp.gf rfl trivial rfl (by decide) ⟨rfl, rfl⟩
set_option maxHeartbeats 4000000 in
theorem c_setLimit_0 {v l : Int32} (h : cHL v = true) (hl : l < nI 1 ∨ ¬ l ≤ nI 9) : xCW sc 20 k_X2_setLimit [.ref 0, .int v, .int l] (wW x y) (xIs (.inr 0) (wW x y)) := by
  refine xWp.gc rfl trivial rfl (s_hasLimit _ _ v) (by decide) ?_
  rw [h]
  refine xWp.gb rfl trivial rfl (fun h => absurd h (by decide)) (fun _ => ?_)
  exact xWp.gx rfl rfl trivial rfl (s_rng_no _ hl) (by decide) ⟨rfl, rfl⟩
def cRep (N a : Nat) : Nat → xX → xX
  | 0, x => x
  | m + 1, x => cRep N a m (cPush N a x)
theorem iRep {a : Nat} (ha : a ≤ 4) : ∀ (m : Nat) {x : xX} {q : List Nat} {t : Nat}, cInv N C q t x → t + 4 * m ≤ 1000000 → ∃ q' t', t' ≤ t + 4 * m ∧ cInv N C q' t' (cRep N a m x)
  | 0, x, q, t, h, _ => ⟨q, t, by omega, h⟩
  | m + 1, x, q, t, h, ht => by
    obtain ⟨q1, t1, h1, h2⟩ := iPush a h ha (by omega)
    obtain ⟨q2, t2, h3, h4⟩ := iRep ha m h2 (by omega)
    exact ⟨q2, t2, by omega, h4⟩
set_option maxHeartbeats 8000000 in
theorem c_limLoop (l : Nat) (hl : l ≤ 9) (bf : Int32) {a : Nat} (ha : a ≤ 4) : ∀ (m s : Nat) {x : xX} {q : List Nat} {t : Nat} {R : xR → xW → Prop}, s - l = m → s ≤ 20 → cInv N C q t x → t + 4 * m ≤ 1000000 → R (.inl (some (.int bf))) (wW (cRep N a m x) y) → xAt sc k_X2_setLimit 19 R (44, [some (.ref 0), some (.int (nI a)), some (.int (nI l)), some (.int bf), some (.int (nI s))], [], wW x y, 1)
  | 0, s, x, q, t, R, hs, hs2, h, _, hR => by
    refine xWp.gb rfl trivial rfl (fun _ => ?_) (fun h9 => absurd ((le_nI (by omega) (by omega)).mpr (by omega)) h9)
    exact xWp.gf rfl trivial rfl (Or.inl rfl) hR
  | m + 1, s, x, q, t, R, hs, hs2, h, ht, hR => by
    refine xWp.gb rfl trivial rfl (fun h9 => ?_) (fun _ => ?_)
    · rw [le_nI (by omega) (by omega)] at h9
      omega
    obtain ⟨q1, t1, h1, h2⟩ := iPush a h ha (by omega)
    refine xWp.gc rfl trivial rfl (s_pushBack _ h ha (by omega)) (by decide) ?_
    refine xWp.go 44 rfl trivial ?_
    obtain ⟨s', rfl⟩ : ∃ s', s = s' + 1 := ⟨s - 1, by omega⟩
    rw [nI_dec]
    exact c_limLoop l hl bf ha m s' (by omega) (by omega) h2 (by omega) hR
def cLim (x : xX) (N a l : Nat) : xX := cRep N a (cSz x N (nI a) - l) (sA x 6 a (nI l))
theorem iLim (h : cInv N C q t x) {a l : Nat} (h1 : 1 ≤ l) (h9 : l ≤ 9) : cInv N C q t (sA x 6 a (nI l)) := by
  obtain ⟨g, a1, ⟨b1, b2, b3, b4⟩, c⟩ := h
  refine ⟨g, a1, ⟨b1, b2, b3, fun j hj hj3 => ?_⟩, c⟩
  show ∃ l', 1 ≤ l' ∧ l' ≤ 9 ∧ upd (x.2 6) a (nI l) j = nI l'
  by_cases e : j = a
  · subst e; exact ⟨l, h1, h9, pk_us⟩
  · rw [pk_un e]; exact b4 j hj hj3
set_option maxHeartbeats 8000000 in
theorem c_setLimit (h : cInv N C q t x) {a l : Nat} (ha1 : 1 ≤ a) (ha3 : a ≤ 3) (h1 : 1 ≤ l) (h9 : l ≤ 9) (ht : t + 80 ≤ 1000000) : xCW sc 20 k_X2_setLimit [.ref 0, .int (nI a), .int (nI l)] (wW x y) (xIs (.inl (some (.int (x.2 6 a)))) (wW (cLim x N a l) y)) := by
  have hN := h.n
  have hs := cSz_le (x := x) (N := N) (nI a)
  have hl : cHL (nI a) = true := by rw [cHL_nI (by omega)]; simp [ha1, ha3]
  have h2 := iLim h (a := a) h1 h9
  refine xWp.gc rfl trivial rfl (s_hasLimit _ _ (nI a)) (by decide) ?_
  rw [hl]
  refine xWp.gb rfl trivial rfl (fun h => absurd h (by decide)) (fun _ => ?_)
  refine xWp.gc rfl trivial rfl (s_rng _ (fun z => by
    have z' : nI l < nI 1 := z
    rw [lt_nI (by omega) (by omega)] at z'; omega) ((le_nI (a := l) (b := 9) (by omega) (by omega)).mpr h9)) (by decide) ?_
  refine xWp.gc rfl trivial rfl (s_replaceLimit _ ha1 ha3 (nI l)) (by decide) ?_
  refine xWp.gc rfl trivial rfl (s_sizeOf _ h2.wf (nI a)) (by decide) ?_
  refine xWp.go 44 rfl trivial ?_
  exact c_limLoop l h9 _ (by omega) _ _ rfl (by show cSz x N (nI a) ≤ 20; omega) h2 (by
    show t + 4 * (cSz x N (nI a) - l) ≤ 1000000
    omega) ⟨rfl, rfl⟩
end FC
