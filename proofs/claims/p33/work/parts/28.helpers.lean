/-! the class's own helpers: what its arguments must be; whether a card can move; from column to column -/
section CA0
variable {I : List (List xI)} {bm : Nat} {scr : xT} {cl : Nat → List Value → xW → (xR → xW → Prop) → Prop} {Q : xR → xW → Prop} {s : xS}
/-- a call that throws what this method does not catch -/
theorem xWp.gx (ht : scr.2 = none) {s' : xS} {g g2 : Prop} {k nx u : Nat} {as st : List Value} {L : xL} {w : xW} (h : xgo I bm scr 9999 60 s = some (g, s')) (hg : g) (h2 : xo I bm scr s' = some (.inr (.inr (.inr (.inl (g2, (k, as, nx, L, st, w, u))))))) {e : Nat} {w' : xW} (hc : cl k as w (xIs (.inr e) w')) (hg2 : g2) (kk : Q (.inr e) w') : xWp I bm scr [] cl Q s :=
  xWp.go 9999 h hg (xWp.call h2 hg2 _ hc (fun r w9 h9 => by obtain ⟨rfl, rfl⟩ := h9; exact ⟨rfl, ht, kk⟩))
end CA0
section CA
variable {sc : Option (Nat × (Nat → Int32))} {x : xX} {y : xW} {N C Q : Nat} {w : xW}
def inB (c n : Int32) : Bool := decide (¬ c < 0 ∧ ¬ n ≤ c)
set_option maxHeartbeats 4000000 in
theorem s_reqC (n : Nat) (hx : cWF x N C Q) {k : Nat} (hk : k < N) : xCW sc (n + 2) k_X2_requireCard [.ref 0, .int (nI k)] (wW x y) (xIs (.inl none) (wW x y)) := by
  refine xWp.gc rfl trivial rfl (s_has n hx hk) (by decide) ?_
  refine xWp.gb rfl trivial rfl (fun h => absurd h (by decide)) (fun _ => ?_)
  exact xWp.gf rfl trivial rfl trivial ⟨rfl, rfl⟩
set_option maxHeartbeats 4000000 in
theorem s_reqC_no (n : Nat) {c : Int32} (h : inB c (x.1 1) = false) : xCW sc (n + 2) k_X2_requireCard [.ref 0, .int c] (wW x y) (xIs (.inr 2) (wW x y)) := by
  refine xWp.gc rfl trivial rfl (s_hasI n c) (by decide) ?_
  refine xWp.gb rfl trivial rfl (fun _ => ?_) (fun h2 => absurd (bI_0.mpr h) h2)
  exact xWp.gf rfl trivial rfl (by decide) ⟨rfl, rfl⟩
set_option maxHeartbeats 4000000 in
theorem s_reqG (n : Nat) (hx : cWF x N C Q) {k : Nat} (hk : k < C) : xCW sc (n + 2) k_X2_requireChange [.ref 0, .int (nI k)] (wW x y) (xIs (.inl none) (wW x y)) := by
  refine xWp.gc rfl trivial rfl (s_ghas n hx hk) (by decide) ?_
  refine xWp.gb rfl trivial rfl (fun h => absurd h (by decide)) (fun _ => ?_)
  exact xWp.gf rfl trivial rfl trivial ⟨rfl, rfl⟩
set_option maxHeartbeats 4000000 in
theorem s_reqG_no (n : Nat) {c : Int32} (h : inB c (x.1 4) = false) : xCW sc (n + 2) k_X2_requireChange [.ref 0, .int c] (wW x y) (xIs (.inr 2) (wW x y)) := by
  refine xWp.gc rfl trivial rfl (s_ghasI n c) (by decide) ?_
  refine xWp.gb rfl trivial rfl (fun _ => ?_) (fun h2 => absurd (bI_0.mpr h) h2)
  exact xWp.gf rfl trivial rfl (by decide) ⟨rfl, rfl⟩
set_option maxHeartbeats 4000000 in
theorem s_reqL (n : Nat) {j : Nat} (hj : j ≤ 4) : xCW sc (n + 1) k_X2_requireColumn [.int (nI j)] w (xIs (.inl none) w) := by
  refine xWp.gb rfl trivial rfl (fun h => absurd h (n0_nI (by omega))) (fun _ => ?_)
  refine xWp.gb rfl trivial rfl (fun _ => ?_) (fun h => absurd ((le_nI (a := j) (b := 4) (by omega) (by omega)).mpr hj) h)
  exact xWp.gf rfl trivial rfl trivial ⟨rfl, rfl⟩
set_option maxHeartbeats 4000000 in
theorem s_reqL_no (n : Nat) {c : Int32} (h : c < 0 ∨ ¬ c ≤ nI 4) : xCW sc (n + 1) k_X2_requireColumn [.int c] w (xIs (.inr 2) w) := by
  refine xWp.gb rfl trivial rfl (fun _ => ?_) (fun h1 => ?_)
  · exact xWp.gf rfl trivial rfl (by decide) ⟨rfl, rfl⟩
  · refine xWp.gb rfl trivial rfl (fun h2 => h.elim (fun z => absurd z h1) (fun z => absurd h2 z)) (fun _ => ?_)
    exact xWp.gf rfl trivial rfl (by decide) ⟨rfl, rfl⟩
set_option maxHeartbeats 4000000 in
theorem s_rng (n : Nat) {v lo hi : Int32} (h1 : ¬ v < lo) (h2 : v ≤ hi) : xCW sc (n + 1) k_X2_requireRange [.int v, .int lo, .int hi] w (xIs (.inl none) w) := by
  refine xWp.gb rfl trivial rfl (fun h => absurd h h1) (fun _ => ?_)
  refine xWp.gb rfl trivial rfl (fun _ => ?_) (fun h => absurd h2 h)
  exact xWp.gf rfl trivial rfl trivial ⟨rfl, rfl⟩
set_option maxHeartbeats 4000000 in
theorem s_rng_no (n : Nat) {v lo hi : Int32} (h : v < lo ∨ ¬ v ≤ hi) : xCW sc (n + 1) k_X2_requireRange [.int v, .int lo, .int hi] w (xIs (.inr 0) w) := by
  refine xWp.gb rfl trivial rfl (fun _ => ?_) (fun h1 => ?_)
  · exact xWp.gf rfl trivial rfl (by decide) ⟨rfl, rfl⟩
  · refine xWp.gb rfl trivial rfl (fun h2 => h.elim (fun z => absurd z h1) (fun z => absurd h2 z)) (fun _ => ?_)
    exact xWp.gf rfl trivial rfl (by decide) ⟨rfl, rfl⟩
set_option maxHeartbeats 4000000 in
theorem s_reqR (n : Nat) {v : Int32} (h1 : ¬ v < nI 1) (h8 : v ≤ nI 8) (hq : v ≤ x.1 5) : xCW sc (n + 2) k_X2_requireRow [.ref 0, .int v] (wW x y) (xIs (.inl none) (wW x y)) := by
  refine xWp.gc rfl trivial rfl (s_rng n h1 h8) (by decide) ?_
  refine xWp.gb rfl trivial rfl (fun _ => ?_) (fun h => absurd hq h)
  exact xWp.gf rfl trivial rfl trivial ⟨rfl, rfl⟩
set_option maxHeartbeats 4000000 in
theorem s_reqR_no0 (n : Nat) {v : Int32} (h : v < nI 1 ∨ ¬ v ≤ nI 8) : xCW sc (n + 2) k_X2_requireRow [.ref 0, .int v] (wW x y) (xIs (.inr 0) (wW x y)) :=
  xWp.gx rfl rfl trivial rfl (s_rng_no n h) (by decide) ⟨rfl, rfl⟩
set_option maxHeartbeats 4000000 in
theorem s_reqR_no1 (n : Nat) {v : Int32} (h1 : ¬ v < nI 1) (h8 : v ≤ nI 8) (hq : ¬ v ≤ x.1 5) : xCW sc (n + 2) k_X2_requireRow [.ref 0, .int v] (wW x y) (xIs (.inr 1) (wW x y)) := by
  refine xWp.gc rfl trivial rfl (s_rng n h1 h8) (by decide) ?_
  refine xWp.gb rfl trivial rfl (fun h => absurd h hq) (fun _ => ?_)
  exact xWp.gf rfl trivial rfl (by decide) ⟨rfl, rfl⟩
theorem s_isAtLimitJ (n : Nat) (hx : cWF x N C Q) {c : Int32} {j : Nat} (e : c = nI j) : xCW sc (n + 2) k_X0_isAtLimit [.ref 1, .int c] (wW x y) (xIs (.inl (some (.int (bI (cAt x N (nI j)))))) (wW x y)) := by
  rw [e]; exact s_isAtLimit n hx _
def cCol (x : xX) (k : Nat) : Nat := (x.2 1 k).toNatClampNeg
def cMovJ (x : xX) (N C k : Nat) : Nat → Bool
  | 0 => !(cAt x N (nI 1))
  | 1 => !(cAt x N (nI 2)) && decide (¬ x.2 3 k = 0)
  | 2 => !(cAt x N (nI 3)) && cRdy x C (x.2 3 k)
  | _ => false
def cMov (x : xX) (N C k : Nat) : Bool := cMovJ x N C k (cCol x k)
theorem cCol_of {k j : Nat} (h : x.2 1 k = nI j) (hj : j ≤ 4) : cCol x k = j := by unfold cCol; rw [h]; exact cl_nI (by omega)
set_option maxHeartbeats 8000000 in
theorem s_isMovable (n : Nat) (hx : cWF x N C Q) {k j : Nat} (hk : k < N) (hc : x.2 1 k = nI j) (hj : j ≤ 4) : xCW sc (n + 4) k_X2_isMovable [.ref 0, .int (nI k)] (wW x y) (xIs (.inl (some (.int (bI (cMov x N C k))))) (wW x y)) := by
  have e0 := cCol_of hc hj
  have e : cMov x N C k = cMovJ x N C k j := by unfold cMov; rw [e0]
  have hw := s_whereIs (n + 1) hx hk (sc := sc) (y := y)
  rw [hc] at hw
  rw [e]
  refine xWp.gc rfl trivial rfl hw (by decide) ?_
  refine xWp.gb rfl trivial rfl (fun h => absurd h (n0_nI (by omega))) (fun _ => ?_)
  match j, hj with
  | 0, _ =>
    refine xWp.gb rfl trivial rfl (fun h => absurd h (by decide)) (fun _ => ?_)
    refine xWp.gc rfl trivial rfl (s_isAtLimitJ (n + 1) hx (j := 1) (by decide)) (by decide) ?_
    refine xWp.gb rfl trivial rfl (fun h => ?_) (fun h => ?_)
    · rw [bI_0] at h
      refine xWp.gb rfl trivial rfl (fun h => absurd h (by decide)) (fun _ => ?_)
      refine xWp.gb rfl trivial rfl (fun _ => ?_) (fun h => absurd (by decide) h)
      exact xWp.gf rfl trivial rfl (Or.inr (Or.inr rfl)) ⟨by rw [cMovJ, h]; rfl, rfl⟩
    · rw [bI_0, Bool.not_eq_false] at h
      exact xWp.gf rfl trivial rfl (Or.inr (Or.inl rfl)) ⟨by rw [cMovJ, h]; rfl, rfl⟩
  | 1, _ =>
    refine xWp.gb rfl trivial rfl (fun h => absurd h (by decide)) (fun _ => ?_)
    refine xWp.gc rfl trivial rfl (s_isAtLimitJ (n + 1) hx (j := 2) (by decide)) (by decide) ?_
    refine xWp.gb rfl trivial rfl (fun h => ?_) (fun h => ?_)
    · rw [bI_0] at h
      refine xWp.gb rfl trivial rfl (fun _ => ?_) (fun h => absurd (by decide) h)
      refine xWp.gc rfl trivial rfl (s_namesOf (n + 1) hx hk) (by decide) ?_
      refine xWp.gb rfl trivial rfl (fun h2 => ?_) (fun h2 => ?_)
      · exact xWp.gf rfl trivial rfl (Or.inr (Or.inl rfl)) ⟨by rw [cMovJ, h]; simp only [show x.2 3 k = 0 from h2]; rfl, rfl⟩
      · exact xWp.gf rfl trivial rfl (Or.inr (Or.inr rfl)) ⟨by rw [cMovJ, h]; simp only [show ¬ x.2 3 k = 0 from h2]; rfl, rfl⟩
    · rw [bI_0, Bool.not_eq_false] at h
      exact xWp.gf rfl trivial rfl (Or.inr (Or.inl rfl)) ⟨by rw [cMovJ, h]; rfl, rfl⟩
  | 2, _ =>
    refine xWp.gb rfl trivial rfl (fun h => absurd h (by decide)) (fun _ => ?_)
    refine xWp.gc rfl trivial rfl (s_isAtLimitJ (n + 1) hx (j := 3) (by decide)) (by decide) ?_
    refine xWp.gb rfl trivial rfl (fun h => ?_) (fun h => ?_)
    · rw [bI_0] at h
      refine xWp.gb rfl trivial rfl (fun h => absurd h (by decide)) (fun _ => ?_)
      refine xWp.gb rfl trivial rfl (fun h => absurd h (by decide)) (fun _ => ?_)
      refine xWp.gc rfl trivial rfl (s_namesOf (n + 1) hx hk) (by decide) ?_
      refine xWp.gc rfl trivial rfl (s_areReady n hx _) (by decide) ?_
      refine xWp.gb rfl trivial rfl (fun h2 => ?_) (fun h2 => ?_)
      · rw [bI_0] at h2
        exact xWp.gf rfl trivial rfl (Or.inr (Or.inl rfl)) ⟨by rw [cMovJ, h, h2]; rfl, rfl⟩
      · rw [bI_0, Bool.not_eq_false] at h2
        exact xWp.gf rfl trivial rfl (Or.inr (Or.inr rfl)) ⟨by rw [cMovJ, h, h2]; rfl, rfl⟩
    · rw [bI_0, Bool.not_eq_false] at h
      exact xWp.gf rfl trivial rfl (Or.inr (Or.inl rfl)) ⟨by rw [cMovJ, h]; rfl, rfl⟩
  | j + 3, hj =>
    refine xWp.gb rfl trivial rfl (fun _ => ?_) (fun h => ?_)
    · exact xWp.gf rfl trivial rfl (Or.inr (Or.inl rfl)) ⟨rfl, rfl⟩
    · refine absurd ?_ h
      exact (lt_nI (a := 2) (b := j + 3) (by omega) (by omega)).mpr (by omega)
def cQn (x : xX) : Nat := (x.1 5).toNatClampNeg
theorem cQn_of (hx : cWF x N C Q) : cQn x = Q := by
  unfold cQn
  rw [hx.2.2.2.2.1]
  exact cl_nI (by have := hx.2.2.2.2.2; omega)
def cShift (x : xX) (N k : Nat) (col : Int32) : xX := if x.2 1 k = nI 3 ∧ ¬ col = nI 4 then cUnq (cPut x k col) (x.2 3 k &&& (cNI (cPut x k col) N (nI 3) ^^^ -1)) (cQn x) else cPut x k col
theorem cShift_4 (k : Nat) : cShift x N k (nI 4) = cPut x k (nI 4) := if_neg (fun z => z.2 rfl)
set_option maxHeartbeats 8000000 in
theorem s_shift (n : Nat) (hx : cWF x N C Q) (hq : cQF x C Q) {k : Nat} (hk : k < N) (col : Int32) : xCW sc (n + 4) k_X2_shift [.ref 0, .int (nI k), .int col] (wW x y) (xIs (.inl none) (wW (cShift x N k col) y)) := by
  have x1 : cWF (cPut x k col) N C Q := hx
  have q1 : cQF (cPut x k col) C Q := hq
  refine xWp.gc rfl trivial rfl (s_whereIs (n + 1) hx hk) (by decide) ?_
  refine xWp.gb rfl trivial rfl (fun h => ?_) (fun h => ?_)
  · refine xWp.gb rfl trivial rfl (fun h2 => ?_) (fun h2 => ?_)
    · have e : cShift x N k col = cPut x k col := if_neg (fun z => z.2 h2)
      rw [e]
      refine xWp.gc rfl trivial rfl (s_put (n + 1) hx hk col) (by decide) ?_
      refine xWp.gb rfl trivial rfl (fun _ => ?_) (fun h => absurd (by decide) h)
      exact xWp.gf rfl trivial rfl trivial ⟨rfl, rfl⟩
    · have e : cShift x N k col = cUnq (cPut x k col) (x.2 3 k &&& (cNI (cPut x k col) N (nI 3) ^^^ -1)) Q := by
        unfold cShift
        rw [cQn_of hx]
        exact if_pos ⟨h, h2⟩
      rw [e]
      refine xWp.gc rfl trivial rfl (s_put (n + 1) hx hk col) (by decide) ?_
      refine xWp.gb rfl trivial rfl (fun h => absurd h (by decide)) (fun _ => ?_)
      refine xWp.gc rfl trivial rfl (s_namesOf (n + 1) x1 hk) (by decide) ?_
      refine xWp.gc rfl trivial rfl (s_namedIn (n + 2) x1 (nI 3)) (by decide) ?_
      refine xWp.gc rfl trivial rfl (s_unqueue n x1 q1 _) (by decide) ?_
      exact xWp.gf rfl trivial rfl trivial ⟨rfl, rfl⟩
  · have e : cShift x N k col = cPut x k col := if_neg (fun z => h z.1)
    rw [e]
    refine xWp.gc rfl trivial rfl (s_put (n + 1) hx hk col) (by decide) ?_
    refine xWp.gb rfl trivial rfl (fun _ => ?_) (fun h => absurd (by decide) h)
    exact xWp.gf rfl trivial rfl trivial ⟨rfl, rfl⟩
def cAllIn (x : xX) (C k : Nat) : Bool := decide (x.2 3 k &&& (cAll x C (nI 2) ^^^ -1) = 0)
def cOn (x : xX) (C k : Nat) : xX := if x.2 1 k = nI 3 ∧ cAllIn x C k = true then cPut x k (nI 4) else x
set_option maxHeartbeats 8000000 in
theorem s_passOn (n : Nat) (hx : cWF x N C Q) (hq : cQF x C Q) {k : Nat} (hk : k < N) : xCW sc (n + 5) k_X2_passOn [.ref 0, .int (nI k)] (wW x y) (xIs (.inl none) (wW (cOn x C k) y)) := by
  have hs := s_shift n hx hq hk (nI 4) (sc := sc) (y := y)
  rw [cShift_4] at hs
  refine xWp.gc rfl trivial rfl (s_namesOf (n + 2) hx hk) (by decide) ?_
  refine xWp.gc rfl trivial rfl (s_allOf (n + 2) hx _) (by decide) ?_
  refine xWp.gb rfl trivial rfl (fun h => ?_) (fun h => ?_)
  · refine xWp.gc rfl trivial rfl (s_whereIs (n + 2) hx hk) (by decide) ?_
    refine xWp.gb rfl trivial rfl (fun h3 => ?_) (fun h3 => ?_)
    · have e : cOn x C k = cPut x k (nI 4) := if_pos ⟨h3, by unfold cAllIn; simp only [decide_eq_true_eq]; exact h⟩
      rw [e]
      refine xWp.gb rfl trivial rfl (fun h => absurd h (by decide)) (fun _ => ?_)
      refine xWp.gc rfl trivial rfl hs (by decide) ?_
      exact xWp.gf rfl trivial rfl trivial ⟨rfl, rfl⟩
    · have e : cOn x C k = x := if_neg (fun z => h3 z.1)
      rw [e]
      exact xWp.gf rfl trivial rfl trivial ⟨rfl, rfl⟩
  · have e : cOn x C k = x := if_neg (fun z => h (by have := z.2; unfold cAllIn at this; exact of_decide_eq_true this))
    rw [e]
    refine xWp.gc rfl trivial rfl (s_whereIs (n + 2) hx hk) (by decide) ?_
    refine xWp.gb rfl trivial rfl (fun _ => ?_) (fun _ => ?_)
    · refine xWp.gb rfl trivial rfl (fun _ => ?_) (fun h => absurd (by decide) h)
      exact xWp.gf rfl trivial rfl trivial ⟨rfl, rfl⟩
    · exact xWp.gf rfl trivial rfl trivial ⟨rfl, rfl⟩
end CA
