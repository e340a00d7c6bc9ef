/-! the class's public methods: what each answers or throws -/
section FA
variable {sc : Option (Nat × (Nat → Int32))} {x : xX} {y : xW} {N C Q : Nat} {q : List Nat} {t : Nat}
theorem inB_ok {c : Int32} (h : inB c (nI N) = true) (hN : N ≤ 900) : ∃ k, k < N ∧ c = nI k := by
  unfold inB at h
  rw [decide_eq_true_eq] at h
  obtain ⟨j, hj, rfl⟩ := nI_of h.1
  refine ⟨j, ?_, rfl⟩
  have h2 := h.2
  rw [nI_leI (by omega) hj] at h2
  omega
theorem inB_lt {k : Nat} (hk : k < N) (hN : N ≤ 900) : inB (nI k) (nI N) = true := by
  unfold inB
  rw [decide_eq_true_eq]
  exact ⟨n0_nI (by omega), fun z => by rw [le_nI (by omega) (by omega)] at z; omega⟩
set_option maxHeartbeats 4000000 in
theorem c_card_0 {v : Int32} (h : v < nI 0 ∨ ¬ v ≤ nI 9) : xCW sc 20 k_X2_card [.ref 0, .int v] (wW x y) (xIs (.inr 0) (wW x y)) :=
  xWp.gx rfl rfl trivial rfl (s_rng_no _ h) (by decide) ⟨rfl, rfl⟩
set_option maxHeartbeats 4000000 in
theorem c_card_1 (hx : cWF x N C Q) {v : Int32} (h1 : ¬ v < nI 0) (h2 : v ≤ nI 9) (hN : ¬ N < 20) : xCW sc 20 k_X2_card [.ref 0, .int v] (wW x y) (xIs (.inr 1) (wW x y)) := by
  refine xWp.gc rfl trivial rfl (s_rng _ h1 h2) (by decide) ?_
  refine xWp.gb rfl trivial rfl (fun h => ?_) (fun _ => ?_)
  · have h' : x.1 1 < nI 20 := h
    rw [hx.1, lt_nI (by have := hx.2.1; omega) (by omega)] at h'
    exact absurd h' hN
  · exact xWp.gf rfl trivial rfl (by decide) ⟨rfl, rfl⟩
set_option maxHeartbeats 4000000 in
theorem c_card (hx : cWF x N C Q) {v : Int32} (h1 : ¬ v < nI 0) (h2 : v ≤ nI 9) (hN : N < 20) : xCW sc 20 k_X2_card [.ref 0, .int v] (wW x y) (xIs (.inl (some (.int (nI N)))) (wW (cAdd x N v) y)) := by
  refine xWp.gc rfl trivial rfl (s_rng _ h1 h2) (by decide) ?_
  refine xWp.gb rfl trivial rfl (fun _ => ?_) (fun h => ?_)
  · refine xWp.gc rfl trivial rfl (s_boardAdd _ hx hN v) (by decide) ?_
    exact xWp.gf rfl trivial rfl (Or.inl rfl) ⟨rfl, rfl⟩
  · have h' : ¬ x.1 1 < nI 20 := h
    rw [hx.1, lt_nI (by omega) (by omega)] at h'
    exact absurd hN h'
set_option maxHeartbeats 4000000 in
theorem c_change_0 {v : Int32} (h : v < nI 1 ∨ ¬ v ≤ nI 9) : xCW sc 20 k_X2_change [.ref 0, .int v] (wW x y) (xIs (.inr 0) (wW x y)) :=
  xWp.gx rfl rfl trivial rfl (s_rng_no _ h) (by decide) ⟨rfl, rfl⟩
set_option maxHeartbeats 4000000 in
theorem c_change_1 (hx : cWF x N C Q) {v : Int32} (h1 : ¬ v < nI 1) (h2 : v ≤ nI 9) (hC : ¬ C < 30) : xCW sc 20 k_X2_change [.ref 0, .int v] (wW x y) (xIs (.inr 1) (wW x y)) := by
  refine xWp.gc rfl trivial rfl (s_rng _ h1 h2) (by decide) ?_
  refine xWp.gb rfl trivial rfl (fun h => ?_) (fun _ => ?_)
  · have h' : x.1 4 < nI 30 := h
    rw [hx.2.2.1, lt_nI (by have := hx.2.2.2.1; omega) (by omega)] at h'
    exact absurd h' hC
  · exact xWp.gf rfl trivial rfl (by decide) ⟨rfl, rfl⟩
def cChg (x : xX) (C : Nat) (v : Int32) : xX := sI (sA (sA x 7 C v) 10 C (nI 0)) 4 (nI (C + 1))
set_option maxHeartbeats 4000000 in
theorem c_change (hx : cWF x N C Q) {v : Int32} (h1 : ¬ v < nI 1) (h2 : v ≤ nI 9) (hC : C < 30) : xCW sc 20 k_X2_change [.ref 0, .int v] (wW x y) (xIs (.inl (some (.int (nI C)))) (wW (cChg x C v) y)) := by
  refine xWp.gc rfl trivial rfl (s_rng _ h1 h2) (by decide) ?_
  refine xWp.gb rfl trivial rfl (fun _ => ?_) (fun h => ?_)
  · refine xWp.gc rfl trivial rfl (s_gadd _ hx hC v) (by decide) ?_
    exact xWp.gf rfl trivial rfl (Or.inl rfl) ⟨rfl, rfl⟩
  · have h' : ¬ x.1 4 < nI 30 := h
    rw [hx.2.2.1, lt_nI (by omega) (by omega)] at h'
    exact absurd hC h'
set_option maxHeartbeats 4000000 in
theorem c_name_2a (hx : cWF x N C Q) {c d b : Int32} (h : inB c (nI N) = false) : xCW sc 20 k_X2_name [.ref 0, .int c, .int d, .int b] (wW x y) (xIs (.inr 2) (wW x y)) :=
  xWp.gx rfl rfl trivial rfl (s_reqC_no _ (by rw [hx.1]; exact h)) (by decide) ⟨rfl, rfl⟩
set_option maxHeartbeats 4000000 in
theorem c_name_2b (hx : cWF x N C Q) {k : Nat} {d b : Int32} (hk : k < N) (h : inB d (nI C) = false) : xCW sc 20 k_X2_name [.ref 0, .int (nI k), .int d, .int b] (wW x y) (xIs (.inr 2) (wW x y)) := by
  refine xWp.gc rfl trivial rfl (s_reqC _ hx hk) (by decide) ?_
  exact xWp.gx rfl rfl trivial rfl (s_reqG_no _ (by rw [hx.2.2.1]; exact h)) (by decide) ⟨rfl, rfl⟩
set_option maxHeartbeats 4000000 in
theorem c_name_1 (hx : cWF x N C Q) {k d : Nat} {b : Int32} (hk : k < N) (hd : d < C) (h0 : ¬ x.2 1 k = nI 0) (h1 : ¬ x.2 1 k = nI 1) : xCW sc 20 k_X2_name [.ref 0, .int (nI k), .int (nI d), .int b] (wW x y) (xIs (.inr 1) (wW x y)) := by
  refine xWp.gc rfl trivial rfl (s_reqC _ hx hk) (by decide) ?_
  refine xWp.gc rfl trivial rfl (s_reqG _ hx hd) (by decide) ?_
  refine xWp.gc rfl trivial rfl (s_whereIs _ hx hk) (by decide) ?_
  refine xWp.gb rfl trivial rfl (fun h => absurd h h0) (fun _ => ?_)
  refine xWp.gb rfl trivial rfl (fun h => absurd h h1) (fun _ => ?_)
  exact xWp.gf rfl trivial rfl (by decide) ⟨rfl, rfl⟩
def cName (x : xX) (k d : Nat) (b : Bool) : xX := sA x 3 k (wth (x.2 3 k) d b)
set_option maxHeartbeats 4000000 in
theorem c_name (hx : cWF x N C Q) {k d : Nat} {b : Int32} (hk : k < N) (hd : d < C) (h01 : x.2 1 k = nI 0 ∨ x.2 1 k = nI 1) : xCW sc 20 k_X2_name [.ref 0, .int (nI k), .int (nI d), .int b] (wW x y) (xIs (.inl (some (.int (nI (fb_ct (bt (wth (x.2 3 k) d (decide (¬ b = 0)))) 32))))) (wW (cName x k d (decide (¬ b = 0))) y)) := by
  have k41 : ∀ z, xAt sc k_X2_name 19 (xIs (.inl (some (.int (nI (fb_ct (bt (wth (x.2 3 k) d (decide (¬ b = 0)))) 32))))) (wW (cName x k d (decide (¬ b = 0))) y)) (41, [some (.ref 0), some (.int (nI k)), some (.int (nI d)), some (.int b), z], [], wW x y, 2) := fun z => by
    refine xWp.gc rfl trivial rfl (s_setName _ hx hk b) (by decide) ?_
    have hx1 : cWF (cName x k d (decide (¬ b = 0))) N C Q := hx
    refine xWp.gc rfl trivial rfl (s_namesOf _ hx1 hk) (by decide) ?_
    refine xWp.gc rfl trivial rfl (s_bitCount _ _ _) (by decide) ?_
    refine xWp.gf rfl trivial rfl (Or.inl rfl) ⟨?_, rfl⟩
    have e : (cName x k d (decide (¬ b = 0))).2 3 k = wth (x.2 3 k) d (decide (¬ b = 0)) := pk_us
    rw [e]
  refine xWp.gc rfl trivial rfl (s_reqC _ hx hk) (by decide) ?_
  refine xWp.gc rfl trivial rfl (s_reqG _ hx hd) (by decide) ?_
  refine xWp.gc rfl trivial rfl (s_whereIs _ hx hk) (by decide) ?_
  refine xWp.gb rfl trivial rfl (fun _ => k41 _) (fun h0 => ?_)
  refine xWp.gb rfl trivial rfl (fun _ => k41 _) (fun h1 => ?_)
  exact h01.elim (fun z => absurd z h0) (fun z => absurd z h1)
set_option maxHeartbeats 4000000 in
theorem c_move_2 (hx : cWF x N C Q) {c : Int32} (h : inB c (nI N) = false) : xCW sc 20 k_X2_move [.ref 0, .int c] (wW x y) (xIs (.inr 2) (wW x y)) :=
  xWp.gx rfl rfl trivial rfl (s_reqC_no _ (by rw [hx.1]; exact h)) (by decide) ⟨rfl, rfl⟩
set_option maxHeartbeats 4000000 in
theorem c_move_1 (hi : cInv N C q t x) {k : Nat} (hk : k < N) (h : cMov x N C k = false) : xCW sc 20 k_X2_move [.ref 0, .int (nI k)] (wW x y) (xIs (.inr 1) (wW x y)) := by
  obtain ⟨j, hj, hc⟩ := hi.col k
  refine xWp.gc rfl trivial rfl (s_reqC _ hi.wf hk) (by decide) ?_
  refine xWp.gc rfl trivial rfl (s_isMovable _ hi.wf hk hc hj) (by decide) ?_
  rw [h]
  refine xWp.gb rfl trivial rfl (fun _ => ?_) (fun h => absurd (by decide) h)
  exact xWp.gf rfl trivial rfl (by decide) ⟨rfl, rfl⟩
def cMv (x : xX) (N C k j : Nat) : xX := if j = 2 then cOn (cEnq (cShift x N k (nI (j + 1))) ((cShift x N k (nI (j + 1))).2 3 k) C) C k else cShift x N k (nI (j + 1))
set_option maxHeartbeats 8000000 in
theorem c_move (hi : cInv N C q t x) {k j : Nat} (hk : k < N) (h : cMov x N C k = true) (hc : x.2 1 k = nI j) (hj : j ≤ 2) (ht : t + 2 ≤ 1000000) : xCW sc 20 k_X2_move [.ref 0, .int (nI k)] (wW x y) (xIs (.inl (some (.int ((cMv x N C k j).2 1 k)))) (wW (cMv x N C k j) y)) := by
  obtain ⟨q1, h1⟩ := iShift hi hk (j := j + 1) (by omega) (by omega)
  refine xWp.gc rfl trivial rfl (s_reqC _ hi.wf hk) (by decide) ?_
  refine xWp.gc rfl trivial rfl (s_isMovable _ hi.wf hk hc (by omega)) (by decide) ?_
  rw [h]
  refine xWp.gb rfl trivial rfl (fun h => absurd h (by decide)) (fun _ => ?_)
  have hw := s_whereIs 17 hi.wf hk (sc := sc) (y := y)
  rw [hc] at hw
  refine xWp.gc rfl trivial rfl hw (by decide) ?_
  refine xWp.gc rfl trivial rfl (s_shiftJ _ hi.wf hi.qf hk (nI_s j).symm) (by decide) ?_
  refine xWp.gb rfl trivial rfl (fun h2 => ?_) (fun h2 => ?_)
  · have h2' : nI j = nI 2 := h2
    rw [eq_nI (by omega) (by omega)] at h2'
    obtain ⟨q2, h3⟩ := iEnq h1 ((cShift x N k (nI (j + 1))).2 3 k) C (Nat.le_refl _)
    refine xWp.gc rfl trivial rfl (s_namesOf _ h1.wf hk) (by decide) ?_
    refine xWp.gc rfl trivial rfl (s_enqueue _ h1.wf _) (by decide) ?_
    refine xWp.gc rfl trivial rfl (s_passOn _ h3.wf h3.qf hk) (by decide) ?_
    obtain ⟨t4, -, h4⟩ := iOn h3 hk (by omega)
    refine xWp.gc rfl trivial rfl (s_whereIs _ h4.wf hk) (by decide) ?_
    have e : cMv x N C k j = cOn (cEnq (cShift x N k (nI (j + 1))) ((cShift x N k (nI (j + 1))).2 3 k) C) C k := if_pos h2'
    rw [e]
    exact xWp.gf rfl trivial rfl (Or.inl rfl) ⟨rfl, rfl⟩
  · have h2' : ¬ nI j = nI 2 := h2
    rw [eq_nI (by omega) (by omega)] at h2'
    refine xWp.gc rfl trivial rfl (s_whereIs _ h1.wf hk) (by decide) ?_
    have e : cMv x N C k j = cShift x N k (nI (j + 1)) := if_neg h2'
    rw [e]
    exact xWp.gf rfl trivial rfl (Or.inl rfl) ⟨rfl, rfl⟩
set_option maxHeartbeats 4000000 in
theorem c_moveBack_2 (hx : cWF x N C Q) {c : Int32} (h : inB c (nI N) = false) : xCW sc 20 k_X2_moveBack [.ref 0, .int c] (wW x y) (xIs (.inr 2) (wW x y)) :=
  xWp.gx rfl rfl trivial rfl (s_reqC_no _ (by rw [hx.1]; exact h)) (by decide) ⟨rfl, rfl⟩
def cBk (x : xX) (N j : Nat) : Bool := decide (1 ≤ j) && (decide (j ≤ 3) && !(cAt x N (nI (j - 1))))
set_option maxHeartbeats 4000000 in
theorem c_moveBack_1 (hi : cInv N C q t x) {k j : Nat} (hk : k < N) (hc : x.2 1 k = nI j) (hj : j ≤ 4) (h : cBk x N j = false) : xCW sc 20 k_X2_moveBack [.ref 0, .int (nI k)] (wW x y) (xIs (.inr 1) (wW x y)) := by
  refine xWp.gc rfl trivial rfl (s_reqC _ hi.wf hk) (by decide) ?_
  have hw := s_whereIs 17 hi.wf hk (sc := sc) (y := y)
  rw [hc] at hw
  refine xWp.gc rfl trivial rfl hw (by decide) ?_
  refine xWp.gb rfl trivial rfl (fun _ => ?_) (fun h0 => ?_)
  · exact xWp.gf rfl trivial rfl (by decide) ⟨rfl, rfl⟩
  · have h0' : ¬ nI j = nI 0 := h0
    rw [eq_nI (by omega) (by omega)] at h0'
    refine xWp.gb rfl trivial rfl (fun _ => ?_) (fun h4 => ?_)
    · exact xWp.gf rfl trivial rfl (by decide) ⟨rfl, rfl⟩
    · have h4' : ¬ nI j = nI 4 := h4
      rw [eq_nI (by omega) (by omega)] at h4'
      obtain ⟨i, rfl⟩ : ∃ i, j = i + 1 := ⟨j - 1, by omega⟩
      refine xWp.gc rfl trivial rfl (s_isAtLimitJ _ hi.wf (nI_pre i)) (by decide) ?_
      have e : cAt x N (nI i) = true := by
        unfold cBk at h
        simpa [show i + 1 ≤ 3 by omega] using h
      rw [e]
      refine xWp.gb rfl trivial rfl (fun h => absurd h (by decide)) (fun _ => ?_)
      exact xWp.gf rfl trivial rfl (by decide) ⟨rfl, rfl⟩
set_option maxHeartbeats 8000000 in
theorem c_moveBack (hi : cInv N C q t x) {k j : Nat} (hk : k < N) (hc : x.2 1 k = nI (j + 1)) (hj : j ≤ 2) (h : cAt x N (nI j) = false) (ht : t + 2 ≤ 1000000) : xCW sc 20 k_X2_moveBack [.ref 0, .int (nI k)] (wW x y) (xIs (.inl (some (.int ((cShift x N k (nI j)).2 1 k)))) (wW (cShift x N k (nI j)) y)) := by
  refine xWp.gc rfl trivial rfl (s_reqC _ hi.wf hk) (by decide) ?_
  have hw := s_whereIs 17 hi.wf hk (sc := sc) (y := y)
  rw [hc] at hw
  refine xWp.gc rfl trivial rfl hw (by decide) ?_
  refine xWp.gb rfl trivial rfl (fun h0 => ?_) (fun _ => ?_)
  · have h0' : nI (j + 1) = nI 0 := h0
    rw [eq_nI (by omega) (by omega)] at h0'
    omega
  refine xWp.gb rfl trivial rfl (fun h4 => ?_) (fun _ => ?_)
  · have h4' : nI (j + 1) = nI 4 := h4
    rw [eq_nI (by omega) (by omega)] at h4'
    omega
  refine xWp.gc rfl trivial rfl (s_isAtLimitJ _ hi.wf (nI_pre j)) (by decide) ?_
  rw [h]
  refine xWp.gb rfl trivial rfl (fun _ => ?_) (fun h => absurd (by decide) h)
  obtain ⟨q1, h1⟩ := iShift hi hk (j := j) (by omega) (by omega)
  refine xWp.gc rfl trivial rfl (s_shiftJ _ hi.wf hi.qf hk (nI_pre j)) (by decide) ?_
  refine xWp.gc rfl trivial rfl (s_whereIs _ h1.wf hk) (by decide) ?_
  exact xWp.gf rfl trivial rfl (Or.inl rfl) ⟨rfl, rfl⟩
set_option maxHeartbeats 4000000 in
theorem c_need_2a (hx : cWF x N C Q) {c d : Int32} (h : inB c (nI C) = false) : xCW sc 20 k_X2_need [.ref 0, .int c, .int d] (wW x y) (xIs (.inr 2) (wW x y)) :=
  xWp.gx rfl rfl trivial rfl (s_reqG_no _ (by rw [hx.2.2.1]; exact h)) (by decide) ⟨rfl, rfl⟩
set_option maxHeartbeats 4000000 in
theorem c_need_2b (hx : cWF x N C Q) {k : Nat} {d : Int32} (hk : k < C) (h : inB d (nI C) = false) : xCW sc 20 k_X2_need [.ref 0, .int (nI k), .int d] (wW x y) (xIs (.inr 2) (wW x y)) := by
  refine xWp.gc rfl trivial rfl (s_reqG _ hx hk) (by decide) ?_
  exact xWp.gx rfl rfl trivial rfl (s_reqG_no _ (by rw [hx.2.2.1]; exact h)) (by decide) ⟨rfl, rfl⟩
set_option maxHeartbeats 4000000 in
theorem c_need_0 (hx : cWF x N C Q) {k d : Nat} (hk : k < C) (hd : d < C) (h : ¬ d < k) : xCW sc 20 k_X2_need [.ref 0, .int (nI k), .int (nI d)] (wW x y) (xIs (.inr 0) (wW x y)) := by
  have hC := hx.2.2.2.1
  refine xWp.gc rfl trivial rfl (s_reqG _ hx hk) (by decide) ?_
  refine xWp.gc rfl trivial rfl (s_reqG _ hx hd) (by decide) ?_
  refine xWp.gb rfl trivial rfl (fun h9 => ?_) (fun _ => ?_)
  · rw [lt_nI (by omega) (by omega)] at h9
    exact absurd h9 h
  · exact xWp.gf rfl trivial rfl (by decide) ⟨rfl, rfl⟩
set_option maxHeartbeats 4000000 in
theorem c_need_1 (hx : cWF x N C Q) {k d : Nat} (hk : k < C) (hd : d < k) (h : ¬ x.2 10 k = nI 0 ∨ bt (x.2 8 k) d = true) : xCW sc 20 k_X2_need [.ref 0, .int (nI k), .int (nI d)] (wW x y) (xIs (.inr 1) (wW x y)) := by
  have hC := hx.2.2.2.1
  refine xWp.gc rfl trivial rfl (s_reqG _ hx hk) (by decide) ?_
  refine xWp.gc rfl trivial rfl (s_reqG _ hx (k := d) (by omega)) (by decide) ?_
  refine xWp.gb rfl trivial rfl (fun _ => ?_) (fun h9 => absurd ((lt_nI (by omega) (by omega)).mpr hd) h9)
  refine xWp.gc rfl trivial rfl (s_stateOf _ hx hk) (by decide) ?_
  refine xWp.gb rfl trivial rfl (fun h0 => ?_) (fun _ => ?_)
  · refine xWp.gc rfl trivial rfl (s_needsOf _ hx hk) (by decide) ?_
    refine xWp.gc rfl trivial rfl (s_contains _ _ _ (by omega)) (by decide) ?_
    rw [h.elim (fun z => absurd h0 z) id]
    refine xWp.gb rfl trivial rfl (fun h => absurd h (by decide)) (fun _ => ?_)
    exact xWp.gf rfl trivial rfl (by decide) ⟨rfl, rfl⟩
  · exact xWp.gf rfl trivial rfl (by decide) ⟨rfl, rfl⟩
def cNeed (x : xX) (k d : Nat) : xX := sA x 8 k (wth (x.2 8 k) d true)
set_option maxHeartbeats 4000000 in
theorem c_need (hx : cWF x N C Q) {k d : Nat} (hk : k < C) (hd : d < k) (h0 : x.2 10 k = nI 0) (h1 : bt (x.2 8 k) d = false) : xCW sc 20 k_X2_need [.ref 0, .int (nI k), .int (nI d)] (wW x y) (xIs (.inl (some (.int (nI (fb_ct (bt (wth (x.2 8 k) d true)) 32))))) (wW (cNeed x k d) y)) := by
  have hC := hx.2.2.2.1
  refine xWp.gc rfl trivial rfl (s_reqG _ hx hk) (by decide) ?_
  refine xWp.gc rfl trivial rfl (s_reqG _ hx (k := d) (by omega)) (by decide) ?_
  refine xWp.gb rfl trivial rfl (fun _ => ?_) (fun h9 => absurd ((lt_nI (by omega) (by omega)).mpr hd) h9)
  refine xWp.gc rfl trivial rfl (s_stateOf _ hx hk) (by decide) ?_
  refine xWp.gb rfl trivial rfl (fun _ => ?_) (fun h9 => absurd h0 h9)
  refine xWp.gc rfl trivial rfl (s_needsOf _ hx hk) (by decide) ?_
  refine xWp.gc rfl trivial rfl (s_contains _ _ _ (by omega)) (by decide) ?_
  rw [h1]
  refine xWp.gb rfl trivial rfl (fun _ => ?_) (fun h => absurd (by decide) h)
  refine xWp.gc rfl trivial rfl (s_addNeed _ hx hk d) (by decide) ?_
  have hx1 : cWF (cNeed x k d) N C Q := hx
  refine xWp.gc rfl trivial rfl (s_needsOf _ hx1 hk) (by decide) ?_
  refine xWp.gc rfl trivial rfl (s_bitCount _ _ _) (by decide) ?_
  refine xWp.gf rfl trivial rfl (Or.inl rfl) ⟨?_, rfl⟩
  have e : (cNeed x k d).2 8 k = wth (x.2 8 k) d true := pk_us
  rw [e]
end FA
