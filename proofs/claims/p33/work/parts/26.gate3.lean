/-! the gate: the queue's changes, foresight -/
section GC
variable {sc : Option (Nat × (Nat → Int32))} {x : xX} {y : xW} {N C Q : Nat}
theorem xWp.loopZ {I : List (List xI)} {bm : Nat} {scr : xT} {hd : List (Nat × Nat × Nat)} {cl : Nat → List Value → xW → (xR → xW → Prop) → Prop} {Q9 : xR → xW → Prop} {Z : Type} (N : Nat) (st : Nat → Z → xS) (hs : ∀ j z, j < N → (∀ z', xWp I bm scr hd cl Q9 (st (j + 1) z')) → xWp I bm scr hd cl Q9 (st j z)) (he : ∀ z, xWp I bm scr hd cl Q9 (st N z)) (z : Z) : xWp I bm scr hd cl Q9 (st 0 z) := by
  have H : ∀ m j z, j + m = N → xWp I bm scr hd cl Q9 (st j z) := by
    intro m
    induction m with
    | zero => intro j z hj; rw [Nat.add_zero] at hj; rw [hj]; exact he z
    | succ m ih => intro j z hj; exact hs j z (by omega) (fun z' => ih (j + 1) z' (by omega))
  exact H N 0 z (by omega)
def cEq1 (z : xX) (c : Nat) : xX := sI (sA (sA z 10 c (nI 1)) 11 (z.1 5).toNatClampNeg (nI c)) 5 (z.1 5 + nI 1)
def cEnq (x : xX) (m : Int32) : Nat → xX
  | 0 => x
  | c + 1 => match bt m c && decide ((cEnq x m c).2 10 c = nI 0) && decide (¬ nI 30 ≤ (cEnq x m c).1 5) with
    | true => cEq1 (cEnq x m c) c
    | false => cEnq x m c
theorem cEnq_wf (hx : cWF x N C Q) (m : Int32) : ∀ c, ∃ q, cWF (cEnq x m c) N C q
  | 0 => ⟨Q, hx⟩
  | c + 1 => by
    obtain ⟨q, h1, h2, h3, h4, h5, h6⟩ := cEnq_wf hx m c
    rw [cEnq]
    split
    · rename_i hc
      simp only [Bool.and_eq_true, decide_eq_true_eq] at hc
      rw [h5, le_nI (by omega) (by omega)] at hc
      refine ⟨q + 1, h1, h2, h3, h4, ?_, by omega⟩
      show (cEnq x m c).1 5 + nI 1 = nI (q + 1)
      rw [h5, nI_s q]
      rfl
    · exact ⟨q, h1, h2, h3, h4, h5, h6⟩
set_option maxHeartbeats 8000000 in
theorem s_enqueue (n : Nat) (hx : cWF x N C Q) (m : Int32) : xCW sc (n + 3) k_X1_enqueue [.ref 9, .int m] (wW x y) (xIs (.inl none) (wW (cEnq x m C) y)) := by
  have hC : C ≤ 30 := hx.2.2.2.1
  refine xWp.go 2 rfl trivial ?_
  refine xWp.loopZ C (fun j z => (2, [some (.ref 9), some (.int m), some (.int (nI j)), z], [], wW (cEnq x m j) y, 0)) (fun j z hj ih => ?_) (fun z => ?_) none
  · obtain ⟨q, hq⟩ := cEnq_wf hx m j
    obtain ⟨-, -, hN, -, hQ, hQ2⟩ := id hq
    refine xWp.gb rfl trivial rfl (fun h => ?_) (fun _ => ?_)
    · rw [hN, le_nI (by omega) (by omega)] at h; omega
    · refine xWp.gc rfl trivial rfl (s_contains n _ _ (by omega)) (by decide) ?_
      have no : ∀ b, b = false → (bt m j && decide ((cEnq x m j).2 10 j = nI 0)) = b → xWp (m_i k_X1_enqueue) (m_b k_X1_enqueue) (sc, m_t k_X1_enqueue) (m_hd k_X1_enqueue) (xCW sc (n + 2)) (xIs (.inl none) (wW (cEnq x m C) y)) (76, [some (.ref 9), some (.int m), some (.int (nI j)), some (.int (bI b))], [], wW (cEnq x m j) y, 0) := by
        intro b hb hb2
        refine xWp.go 2 rfl trivial ?_
        have := ih (some (.int (bI b)))
        rw [cEnq, hb2, hb, nI_s] at this
        rw [hb]
        exact this
      refine xWp.gb rfl trivial rfl (fun h => ?_) (fun h => ?_)
      · rw [bI_0] at h
        refine xWp.gb rfl trivial rfl (fun _ => ?_) (fun h => absurd (by decide) h)
        exact no false rfl (by rw [h]; rfl)
      · have hb : bt m j = true := by
          rw [bI_0] at h
          simpa using h
        refine xWp.gb rfl ⟨in_nI (by omega) (by omega), trivial⟩ rfl (fun h2 => ?_) (fun h2 => ?_)
        · rw [cl_nI (by omega)] at h2
          refine xWp.gb rfl trivial rfl (fun h => absurd h (by decide)) (fun _ => ?_)
          refine xWp.gb rfl trivial rfl (fun h3 => ?_) (fun h3 => ?_)
          · refine xWp.go 2 rfl trivial ?_
            have := ih (some (.int (nI 1)))
            have e : decide (¬ nI 30 ≤ (cEnq x m j).1 5) = false := by
              simp only [decide_eq_false_iff_not]
              exact fun z => z h3
            rw [cEnq, e, Bool.and_false, nI_s j] at this
            exact this
          · have h3' : ¬ nI 30 ≤ nI q := by rw [← hQ]; exact h3
            rw [le_nI (by omega) (by omega)] at h3'
            refine xWp.go 2 rfl ⟨in_nI (by omega) (by omega), by rw [hQ]; exact in_nI (by omega) (by omega), trivial⟩ ?_
            have := ih (some (.int (nI 1)))
            have e : decide (¬ nI 30 ≤ (cEnq x m j).1 5) = true := by
              simp only [decide_eq_true_eq]
              exact h3
            have e2 : decide ((cEnq x m j).2 10 j = nI 0) = true := by
              simp only [decide_eq_true_eq]
              exact h2
            rw [cEnq, e, hb, e2, nI_s j] at this
            rw [cl_nI (by omega)]
            exact this
        · rw [cl_nI (by omega)] at h2
          refine xWp.gb rfl trivial rfl (fun _ => ?_) (fun h => absurd (by decide) h)
          exact no false rfl (by rw [hb]; simp only [Bool.true_and, decide_eq_false_iff_not]; exact h2)
  · obtain ⟨q, hq⟩ := cEnq_wf hx m C
    refine xWp.gb rfl trivial rfl (fun _ => ?_) (fun h => ?_)
    · exact xWp.gf rfl trivial rfl trivial ⟨rfl, rfl⟩
    · rw [hq.2.2.1, le_nI (by omega) (by omega)] at h; omega
/-- the queue is gone through: how many are kept, the state -/
def cGo (x : xX) (d : Nat → Option Int32) : Nat → Nat × xX
  | 0 => (0, x)
  | p + 1 => match d p with
    | some v => ((cGo x d p).1, sA (cGo x d p).2 10 (cq x p) v)
    | none => ((cGo x d p).1 + 1, sA (cGo x d p).2 11 (cGo x d p).1 (nI (cq x p)))
theorem cGo_inv (hx : cWF x N C Q) (d : Nat → Option Int32) : ∀ p, (cGo x d p).1 ≤ p ∧ cWF (cGo x d p).2 N C Q ∧ (cGo x d p).2.1 = x.1 ∧ ∀ i, p ≤ i → (cGo x d p).2.2 11 i = x.2 11 i
  | 0 => ⟨Nat.le_refl _, hx, rfl, fun _ _ => rfl⟩
  | p + 1 => by
    obtain ⟨h1, h2, h3, h4⟩ := cGo_inv hx d p
    rw [cGo]
    split
    · refine ⟨by omega, h2, h3, fun i hi => ?_⟩
      exact h4 i (by omega)
    · refine ⟨by show (cGo x d p).1 + 1 ≤ p + 1; omega, h2, h3, fun i hi => ?_⟩
      show upd ((cGo x d p).2.2 11) (cGo x d p).1 (nI (cq x p)) i = x.2 11 i
      rw [pk_un (by omega)]
      exact h4 i (by omega)
def cUnq (x : xX) (m : Int32) (Q : Nat) : xX := sI (cGo x (fun p => if bt m (cq x p) then some (nI 0) else none) Q).2 5 (nI (cGo x (fun p => if bt m (cq x p) then some (nI 0) else none) Q).1)
set_option maxHeartbeats 8000000 in
theorem s_unqueue (n : Nat) (hx : cWF x N C Q) (hq : cQF x C Q) (m : Int32) : xCW sc (n + 3) k_X1_unqueue [.ref 9, .int m] (wW x y) (xIs (.inl none) (wW (cUnq x m Q) y)) := by
  have hQ2 : Q ≤ 30 := hx.2.2.2.2.2
  have hC2 : C ≤ 30 := hx.2.2.2.1
  obtain ⟨d, hd⟩ : ∃ d : Nat → Option Int32, d = fun p => if bt m (cq x p) then some (nI 0) else none := ⟨_, rfl⟩
  have hU : cUnq x m Q = sI (cGo x d Q).2 5 (nI (cGo x d Q).1) := by rw [hd]; rfl
  rw [hU]
  refine xWp.go 4 rfl trivial ?_
  refine xWp.loopZ Q (fun j z => (4, [some (.ref 9), some (.int m), some (.int (nI (cGo x d j).1)), some (.int (nI j)), z], [], wW (cGo x d j).2 y, 0)) (fun j z hj ih => ?_) (fun z => ?_) none
  · obtain ⟨hk, hw, -, hr⟩ := cGo_inv hx d j
    obtain ⟨-, -, -, -, hQ, -⟩ := id hw
    obtain ⟨hq1, hq2⟩ := hq j hj
    refine xWp.gb rfl trivial rfl (fun h => ?_) (fun _ => ?_)
    · rw [hQ, le_nI (by omega) (by omega)] at h; omega
    refine xWp.gb rfl trivial rfl (fun h => ?_) (fun _ => ?_)
    · have h' : nI 30 ≤ nI j := h
      rw [le_nI (by omega) (by omega)] at h'; omega
    refine xWp.go 28 rfl ⟨in_nI (by omega) (by omega), trivial⟩ ?_
    rw [cl_nI (by omega), hr j (Nat.le_refl _), hq1]
    refine xWp.gc rfl trivial rfl (s_contains n _ _ (by omega)) (by decide) ?_
    refine xWp.gb rfl trivial rfl (fun h => ?_) (fun h => ?_)
    · rw [bI_0] at h
      refine xWp.go 4 rfl ⟨in_nI (by omega) (by omega), trivial⟩ ?_
      have := ih (some (.int (nI (cq x j))))
      have e : d j = none := by rw [hd]; simp [h]
      rw [cGo, e] at this
      dsimp only at this
      rw [nI_s, nI_s] at this
      rw [cl_nI (by omega)]
      exact this
    · rw [bI_0] at h
      refine xWp.gc rfl trivial rfl (s_setState n hw hq2 (nI 0)) (by decide) ?_
      refine xWp.go 4 rfl trivial ?_
      have := ih (some (.int (nI (cq x j))))
      have e : d j = some (nI 0) := by rw [hd]; simp [h]
      rw [cGo, e] at this
      dsimp only at this
      rw [nI_s] at this
      exact this
  · obtain ⟨hk, hw, -, hr⟩ := cGo_inv hx d Q
    obtain ⟨-, -, -, -, hQ, -⟩ := id hw
    refine xWp.gb rfl trivial rfl (fun _ => ?_) (fun h => ?_)
    · exact xWp.gf rfl trivial rfl trivial ⟨rfl, rfl⟩
    · rw [hQ, le_nI (by omega) (by omega)] at h; omega
def cStl (x : xX) (l Q : Nat) : xX := sI (cGo x (fun p => if p < l then some (if bt (x.1 6) (cq x p) then nI 2 else nI 3) else none) Q).2 5 (nI (cGo x (fun p => if p < l then some (if bt (x.1 6) (cq x p) then nI 2 else nI 3) else none) Q).1)
set_option maxHeartbeats 8000000 in
theorem s_settle (n : Nat) (hx : cWF x N C Q) (hq : cQF x C Q) {l : Nat} (hl : l ≤ Q) : xCW sc (n + 3) k_X1_settle [.ref 9, .int (nI l)] (wW x y) (xIs (.inl none) (wW (cStl x l Q) y)) := by
  have hQ2 : Q ≤ 30 := hx.2.2.2.2.2
  have hC2 : C ≤ 30 := hx.2.2.2.1
  obtain ⟨d, hd⟩ : ∃ d : Nat → Option Int32, d = fun p => if p < l then some (if bt (x.1 6) (cq x p) then nI 2 else nI 3) else none := ⟨_, rfl⟩
  have hU : cStl x l Q = sI (cGo x d Q).2 5 (nI (cGo x d Q).1) := by rw [hd]; rfl
  rw [hU]
  refine xWp.go 4 rfl trivial ?_
  refine xWp.loopZ Q (fun j z => (4, [some (.ref 9), some (.int (nI l)), some (.int (nI (cGo x d j).1)), some (.int (nI j)), z], [], wW (cGo x d j).2 y, 0)) (fun j z hj ih => ?_) (fun z => ?_) none
  · obtain ⟨hk, hw, h6, hr⟩ := cGo_inv hx d j
    obtain ⟨-, -, -, -, hQ, -⟩ := id hw
    obtain ⟨hq1, hq2⟩ := hq j hj
    refine xWp.gb rfl trivial rfl (fun h => ?_) (fun _ => ?_)
    · rw [hQ, le_nI (by omega) (by omega)] at h; omega
    refine xWp.gb rfl trivial rfl (fun h => ?_) (fun _ => ?_)
    · have h' : nI 30 ≤ nI j := h
      rw [le_nI (by omega) (by omega)] at h'; omega
    refine xWp.go 29 rfl ⟨in_nI (by omega) (by omega), trivial⟩ ?_
    rw [cl_nI (by omega), hr j (Nat.le_refl _), hq1]
    refine xWp.gb rfl trivial rfl (fun h => ?_) (fun h => ?_)
    · rw [le_nI (by omega) (by omega)] at h
      refine xWp.go 4 rfl ⟨in_nI (by omega) (by omega), trivial⟩ ?_
      have := ih (some (.int (nI (cq x j))))
      have e : d j = none := by rw [hd]; simp [h]
      rw [cGo, e] at this
      dsimp only at this
      rw [nI_s, nI_s] at this
      rw [cl_nI (by omega)]
      exact this
    · rw [le_nI (by omega) (by omega)] at h
      refine xWp.gc rfl trivial rfl (s_contains n _ _ (by omega)) (by decide) ?_
      have h6' : (cGo x d j).2.1 6 = x.1 6 := by rw [h6]
      refine xWp.gb rfl trivial rfl (fun h2 => ?_) (fun h2 => ?_)
      · rw [bI_0, h6'] at h2
        refine xWp.gc rfl trivial rfl (s_setState n hw hq2 (nI 3)) (by decide) ?_
        refine xWp.go 4 rfl trivial ?_
        have := ih (some (.int (nI (cq x j))))
        have e : d j = some (nI 3) := by rw [hd]; simp [Nat.not_le.mp h, h2]
        rw [cGo, e] at this
        dsimp only at this
        rw [nI_s j] at this
        exact this
      · rw [bI_0, h6'] at h2
        refine xWp.gc rfl trivial rfl (s_setState n hw hq2 (nI 2)) (by decide) ?_
        refine xWp.go 4 rfl trivial ?_
        have := ih (some (.int (nI (cq x j))))
        have e : d j = some (nI 2) := by rw [hd]; simp [Nat.not_le.mp h, h2]
        rw [cGo, e] at this
        dsimp only at this
        rw [nI_s j] at this
        exact this
  · obtain ⟨hk, hw, -, hr⟩ := cGo_inv hx d Q
    obtain ⟨-, -, -, -, hQ, -⟩ := id hw
    refine xWp.gb rfl trivial rfl (fun _ => ?_) (fun h => ?_)
    · exact xWp.gf rfl trivial rfl trivial ⟨rfl, rfl⟩
    · rw [hQ, le_nI (by omega) (by omega)] at h; omega
def cT0 (x : xX) (C : Nat) : Int32 × Int32 × Int32 := (cAll x C (nI 2), nI 0, nI 0)
theorem s_startTrial (n : Nat) (hx : cWF x N C Q) : xCW sc (n + 3) k_X1_startTrial [.ref 9] (wW x y) (xIs (.inl none) (wW (cTr x (cT0 x C)) y)) := by
  refine xWp.gc rfl trivial rfl (s_allOf n hx _) (by decide) ?_
  exact xWp.gf rfl trivial rfl trivial ⟨rfl, rfl⟩
def cFR (x : xX) (C l : Nat) : Int32 × Int32 × Int32 := cTry x 4 (cT0 x C) 0 l
set_option maxHeartbeats 4000000 in
theorem s_foreseeRow (n : Nat) (hx : cWF x N C Q) (hq : cQF x C Q) {l : Nat} (h1 : 1 ≤ l) (h8 : l ≤ 8) (hl : l ≤ Q) : xCW sc (n + 12) k_X1_foreseeRow [.ref 9, .int (nI l)] (wW x y) (xIs (.inl none) (wW (cTr x (cFR x C l)) y)) := by
  refine xWp.gc rfl trivial rfl (s_startTrial (n + 8) hx) (by decide) ?_
  refine xWp.gc rfl trivial rfl (s_try hx hq 3 n (cT0 x C) 0 l h1 h8 (by omega) (by omega)) (by decide) ?_
  exact xWp.gf rfl trivial rfl trivial ⟨rfl, rfl⟩
def cFO (x : xX) (C : Nat) : Nat → Int32 × Int32 × Int32
  | 0 => cT0 x C
  | p + 1 => cTry x 1 (cFO x C p) p 1
set_option maxHeartbeats 4000000 in
theorem s_foreseeOneByOne (n : Nat) (hx : cWF x N C Q) (hq : cQF x C Q) {l : Nat} (hl : l ≤ Q) : xCW sc (n + 6) k_X1_foreseeOneByOne [.ref 9, .int (nI l)] (wW x y) (xIs (.inl none) (wW (cTr x (cFO x C l)) y)) := by
  have hQ : x.1 5 = nI Q := hx.2.2.2.2.1
  have hQ2 : Q ≤ 30 := hx.2.2.2.2.2
  refine xWp.gc rfl trivial rfl (s_startTrial (n + 2) hx) (by decide) ?_
  refine xWp.go 6 rfl trivial ?_
  refine xWp.loop l (fun j => (6, [some (.ref 9), some (.int (nI l)), some (.int (nI j))], [], wW (cTr x (cFO x C j)) y, 0)) (fun j hj ih => ?_) ?_
  · refine xWp.gb rfl trivial rfl (fun h => ?_) (fun _ => ?_)
    · rw [le_nI (by omega) (by omega)] at h; omega
    refine xWp.gb rfl trivial rfl (fun h => ?_) (fun _ => ?_)
    · have h' : nI Q ≤ nI j := by rw [← hQ]; exact h
      rw [le_nI (by omega) (by omega)] at h'; omega
    refine xWp.gc rfl trivial rfl (s_try hx hq 0 n (cFO x C j) j 1 (by omega) (by omega) (by omega) (by omega)) (by decide) ?_
    refine xWp.go 6 rfl trivial ?_
    rw [nI_s] at ih
    exact ih
  · refine xWp.gb rfl trivial rfl (fun _ => ?_) (fun h => ?_)
    · exact xWp.gf rfl trivial rfl trivial ⟨rfl, rfl⟩
    · rw [le_nI (by omega) (by omega)] at h; omega
def cPP (x : xX) (S : Int32) (l : Nat) : Int32 := orIf (fun p => bt S (cq x p)) bitI l
set_option maxHeartbeats 4000000 in
theorem s_passedPlaces (n : Nat) (hx : cWF x N C Q) (hq : cQF x C Q) {l : Nat} (hl : l ≤ Q) : xCW sc (n + 3) k_X1_passedPlaces [.ref 9, .int (nI l)] (wW x y) (xIs (.inl (some (.int (cPP x (x.1 6) l)))) (wW x y)) := by
  have hQ : x.1 5 = nI Q := hx.2.2.2.2.1
  have hQ2 : Q ≤ 30 := hx.2.2.2.2.2
  have hC2 : C ≤ 30 := hx.2.2.2.1
  refine xWp.go 4 rfl trivial ?_
  refine xWp.loop l (fun j => (4, [some (.ref 9), some (.int (nI l)), some (.int (cPP x (x.1 6) j)), some (.int (nI j))], [], wW x y, 0)) (fun j hj ih => ?_) ?_
  · refine xWp.gb rfl trivial rfl (fun h => ?_) (fun _ => ?_)
    · rw [le_nI (by omega) (by omega)] at h; omega
    refine xWp.gb rfl trivial rfl (fun h => ?_) (fun _ => ?_)
    · have h' : nI Q ≤ nI j := by rw [← hQ]; exact h
      rw [le_nI (by omega) (by omega)] at h'; omega
    refine xWp.gc rfl trivial rfl (s_changeAt (n + 1) hx hq (by omega)) (by decide) ?_
    refine xWp.gc rfl trivial rfl (s_contains n _ _ (by have := (hq j (by omega)).2; omega)) (by decide) ?_
    refine xWp.gb rfl trivial rfl (fun h => ?_) (fun h => ?_)
    · rw [bI_0] at h
      refine xWp.go 4 rfl trivial ?_
      have e : cPP x (x.1 6) (j + 1) = cPP x (x.1 6) j := orIf_f h
      rw [e, nI_s] at ih
      exact ih
    · rw [bI_0] at h
      refine xWp.go 4 rfl trivial ?_
      have e : cPP x (x.1 6) (j + 1) = cPP x (x.1 6) j ||| bitI j := orIf_t (by simpa using h)
      rw [e, nI_s] at ih
      exact ih
  · refine xWp.gb rfl trivial rfl (fun _ => ?_) (fun h => ?_)
    · exact xWp.gf rfl trivial rfl (Or.inl rfl) ⟨rfl, rfl⟩
    · rw [le_nI (by omega) (by omega)] at h; omega
end GC
