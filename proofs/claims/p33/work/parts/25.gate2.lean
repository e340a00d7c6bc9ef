/-! the gate: readiness, queue, trials -/
section GB
variable {sc : Option (Nat × (Nat → Int32))} {x : xX} {y : xW} {N C Q : Nat}
def cMis (x : xX) (C : Nat) (m : Int32) : Int32 := (cAll x C (nI 0) ||| cAll x C (nI 3)) &&& (m ^^^ -1)
def cBar (x : xX) (C : Nat) (m : Int32) (j : Nat) : Bool := bt m j && decide (¬ x.2 8 j &&& cMis x C m = 0)
def cRdy (x : xX) (C : Nat) (m : Int32) : Bool := !(anyB (cBar x C m) C) && decide (m &&& cAll x C (nI 3) = 0)
set_option maxHeartbeats 4000000 in
theorem s_areReady (n : Nat) (hx : cWF x N C Q) (m : Int32) : xCW sc (n + 3) k_X1_areReady [.ref 9, .int m] (wW x y) (xIs (.inl (some (.int (bI (cRdy x C m))))) (wW x y)) := by
  have hx0 := hx
  obtain ⟨-, -, hN, hN2, -⟩ := hx
  refine xWp.gc rfl trivial rfl (s_allOf n hx0 _) (by decide) ?_
  refine xWp.gc rfl trivial rfl (s_allOf n hx0 _) (by decide) ?_
  refine xWp.go 21 rfl trivial ?_
  refine xWp.loopA C (cBar x C m) (fun j => (21, [some (.ref 9), some (.int m), some (.int (cAll x C (nI 3))), some (.int (cMis x C m)), some (.int (nI j))], [], wW x y, 0)) (fun j hj hp ih => ?_) (fun j hj hp ha => ?_) (fun ha => ?_)
  · refine xWp.gb rfl trivial rfl (fun h => ?_) (fun _ => ?_)
    · rw [hN, le_nI (by omega) (by omega)] at h; omega
    · rw [nI_s j] at ih
      refine xWp.gc rfl trivial rfl (s_contains n _ _ (by omega)) (by decide) ?_
      refine xWp.gb rfl trivial rfl (fun h => ?_) (fun h => ?_)
      · exact xWp.go 21 rfl trivial ih
      · rw [bI_0] at h
        refine xWp.gb rfl ⟨in_nI (by omega) (by omega), trivial⟩ rfl (fun h2 => ?_) (fun h2 => ?_)
        · exact xWp.go 21 rfl trivial ih
        · exfalso
          rw [cl_nI (by omega)] at h2
          unfold cBar at hp
          simp only [Bool.and_eq_false_iff, decide_eq_false_iff_not] at hp
          exact hp.elim h (fun z => z h2)
  · unfold cBar at hp
    simp only [Bool.and_eq_true, decide_eq_true_eq] at hp
    refine xWp.gb rfl trivial rfl (fun h => ?_) (fun _ => ?_)
    · rw [hN, le_nI (by omega) (by omega)] at h; omega
    · refine xWp.gc rfl trivial rfl (s_contains n _ _ (by omega)) (by decide) ?_
      rw [hp.1]
      refine xWp.gb rfl trivial rfl (fun h => absurd h (by decide)) (fun _ => ?_)
      refine xWp.gb rfl ⟨in_nI (by omega) (by omega), trivial⟩ rfl (fun h2 => ?_) (fun h2 => ?_)
      · rw [cl_nI (by omega)] at h2
        exact absurd h2 hp.2
      · exact xWp.gf rfl trivial rfl (Or.inr (Or.inl rfl)) ⟨by rw [bI_f (by unfold cRdy; rw [ha]; rfl)]; rfl, rfl⟩
  · refine xWp.gb rfl trivial rfl (fun _ => ?_) (fun h => ?_)
    · refine xWp.gb rfl trivial rfl (fun h => ?_) (fun h => ?_)
      · exact xWp.gf rfl trivial rfl (Or.inr (Or.inr rfl)) ⟨by rw [bI_t (by unfold cRdy; rw [ha]; simp [h])]; rfl, rfl⟩
      · exact xWp.gf rfl trivial rfl (Or.inr (Or.inl rfl)) ⟨by rw [bI_f (by unfold cRdy; rw [ha]; simp [h])]; rfl, rfl⟩
    · rw [hN, le_nI (by omega) (by omega)] at h; omega
set_option maxHeartbeats 4000000 in
theorem s_changeAt (n : Nat) (hx : cWF x N C Q) (hq : cQF x C Q) {i : Nat} (hi : i < Q) : xCW sc (n + 1) k_X1_changeAt [.ref 9, .int (nI i)] (wW x y) (xIs (.inl (some (.int (nI (cq x i))))) (wW x y)) := by
  obtain ⟨-, -, -, -, hQ, hQ2⟩ := hx
  refine xWp.gb rfl trivial rfl (fun h => absurd h (n0_nI (by omega))) (fun _ => ?_)
  refine xWp.gb rfl trivial rfl (fun h => ?_) (fun _ => ?_)
  · rw [hQ, le_nI (by omega) (by omega)] at h; omega
  · refine xWp.gb rfl trivial rfl (fun h => ?_) (fun _ => ?_)
    · have h' : nI 30 ≤ nI i := h
      rw [le_nI (by omega) (by omega)] at h'; omega
    · refine xWp.gf rfl ⟨in_nI (by omega) (by omega), trivial⟩ rfl (Or.inl rfl) ⟨?_, rfl⟩
      rw [cl_nI (by omega), ← (hq i hi).1]
/-- the set of a row, its weight -/
def cRow (x : xX) (f l : Nat) : Int32 := orIf (fun _ => true) (fun k => bitI (cq x (f + k))) l
def smI (g : Nat → Int32) : Nat → Int32
  | 0 => nI 0
  | l + 1 => smI g l + g l
def cWt (x : xX) (f l : Nat) : Int32 := smI (fun k => x.2 7 (cq x (f + k))) l
set_option maxHeartbeats 4000000 in
theorem s_setOfRow (n : Nat) (hx : cWF x N C Q) (hq : cQF x C Q) {f l : Nat} (hl : f + l ≤ Q) : xCW sc (n + 2) k_X1_setOfRow [.ref 9, .int (nI f), .int (nI l)] (wW x y) (xIs (.inl (some (.int (cRow x f l)))) (wW x y)) := by
  have hx0 := hx
  obtain ⟨-, -, -, -, hQ, hQ2⟩ := hx
  refine xWp.go 5 rfl trivial ?_
  refine xWp.loop l (fun j => (5, [some (.ref 9), some (.int (nI f)), some (.int (nI l)), some (.int (cRow x f j)), some (.int (nI j))], [], wW x y, 0)) (fun j hj ih => ?_) ?_
  · refine xWp.gb rfl trivial rfl (fun h => ?_) (fun _ => ?_)
    · rw [le_nI (by omega) (by omega)] at h; omega
    · have hc := s_changeAt n hx0 hq (sc := sc) (y := y) (i := f + j) (by omega)
      rw [← nI_add] at hc
      refine xWp.gc rfl trivial rfl hc (by decide) ?_
      refine xWp.gc rfl trivial rfl (s_bit n _ _) (by decide) ?_
      refine xWp.go 5 rfl trivial ?_
      have e : cRow x f (j + 1) = cRow x f j ||| bitI (cq x (f + j)) := orIf_t rfl
      rw [e, nI_s] at ih
      exact ih
  · refine xWp.gb rfl trivial rfl (fun _ => ?_) (fun h => ?_)
    · exact xWp.gf rfl trivial rfl (Or.inl rfl) ⟨rfl, rfl⟩
    · rw [le_nI (by omega) (by omega)] at h; omega
set_option maxHeartbeats 4000000 in
theorem s_weightOfRow (n : Nat) (hx : cWF x N C Q) (hq : cQF x C Q) {f l : Nat} (hl : f + l ≤ Q) : xCW sc (n + 3) k_X1_weightOfRow [.ref 9, .int (nI f), .int (nI l)] (wW x y) (xIs (.inl (some (.int (cWt x f l)))) (wW x y)) := by
  have hx0 := hx
  obtain ⟨-, -, -, -, hQ, hQ2⟩ := hx
  refine xWp.go 5 rfl trivial ?_
  refine xWp.loop l (fun j => (5, [some (.ref 9), some (.int (nI f)), some (.int (nI l)), some (.int (cWt x f j)), some (.int (nI j))], [], wW x y, 0)) (fun j hj ih => ?_) ?_
  · refine xWp.gb rfl trivial rfl (fun h => ?_) (fun _ => ?_)
    · rw [le_nI (by omega) (by omega)] at h; omega
    · have hc := s_changeAt (n + 1) hx0 hq (sc := sc) (y := y) (i := f + j) (by omega)
      rw [← nI_add] at hc
      refine xWp.gc rfl trivial rfl hc (by decide) ?_
      refine xWp.gc rfl trivial rfl (s_weightOf n hx0 (hq _ (by omega)).2) (by decide) ?_
      refine xWp.go 5 rfl trivial ?_
      have e : cWt x f (j + 1) = cWt x f j + x.2 7 (cq x (f + j)) := rfl
      rw [e, nI_s] at ih
      exact ih
  · refine xWp.gb rfl trivial rfl (fun _ => ?_) (fun h => ?_)
    · exact xWp.gf rfl trivial rfl (Or.inl rfl) ⟨rfl, rfl⟩
    · rw [le_nI (by omega) (by omega)] at h; omega
def cHolds (x : xX) (S : Int32) (c : Nat) (oth : Int32) : Bool := !(bt (x.1 3) c) && (decide (x.2 8 c &&& ((S ||| oth) ^^^ -1) = 0) && decide (x.2 9 c &&& (S ||| oth) = 0))
set_option maxHeartbeats 4000000 in
theorem s_holdsBehind (n : Nat) (hx : cWF x N C Q) {c : Nat} (hc : c < C) (oth : Int32) : xCW sc (n + 3) k_X1_holdsBehind [.ref 9, .int (nI c), .int oth] (wW x y) (xIs (.inl (some (.int (bI (cHolds x (x.1 6) c oth))))) (wW x y)) := by
  have hx0 := hx
  obtain ⟨-, -, hN, hN2, -⟩ := hx
  refine xWp.gc rfl trivial rfl (s_ghas (n + 1) hx0 hc) (by decide) ?_
  refine xWp.gb rfl trivial rfl (fun h => absurd h (by decide)) (fun _ => ?_)
  refine xWp.gc rfl trivial rfl (s_contains n _ _ (by omega)) (by decide) ?_
  refine xWp.gb rfl trivial rfl (fun h => ?_) (fun h => ?_)
  · rw [bI_0] at h
    refine xWp.gb rfl ⟨in_nI (by omega) (by omega), trivial⟩ rfl (fun h2 => ?_) (fun h2 => ?_)
    · rw [cl_nI (by omega)] at h2
      refine xWp.gb rfl ⟨in_nI (by omega) (by omega), trivial⟩ rfl (fun h3 => ?_) (fun h3 => ?_)
      · rw [cl_nI (by omega)] at h3
        exact xWp.gf rfl trivial rfl (Or.inr (Or.inr rfl)) ⟨by rw [bI_t (by unfold cHolds; rw [h]; simp only [Bool.not_false, Bool.true_and, Bool.and_eq_true, decide_eq_true_eq]; exact ⟨h2, h3⟩)]; rfl, rfl⟩
      · rw [cl_nI (by omega)] at h3
        exact xWp.gf rfl trivial rfl (Or.inr (Or.inl rfl)) ⟨by rw [bI_f (by unfold cHolds; simp only [Bool.and_eq_false_iff, decide_eq_false_iff_not]; exact Or.inr (Or.inr h3))]; rfl, rfl⟩
    · rw [cl_nI (by omega)] at h2
      exact xWp.gf rfl trivial rfl (Or.inr (Or.inl rfl)) ⟨by rw [bI_f (by unfold cHolds; simp only [Bool.and_eq_false_iff, decide_eq_false_iff_not]; exact Or.inr (Or.inl h2))]; rfl, rfl⟩
  · rw [bI_0] at h
    exact xWp.gf rfl trivial rfl (Or.inr (Or.inl rfl)) ⟨by rw [bI_f (by unfold cHolds; simp only [Bool.and_eq_false_iff, Bool.not_eq_false']; exact Or.inl (by simpa using h))]; rfl, rfl⟩
def cPass (x : xX) (S : Int32) (f : Nat) (l : Nat) : Bool := !(anyB (fun k => !(cHolds x S (cq x (f + k)) (cRow x f k))) l)
set_option maxHeartbeats 4000000 in
theorem s_passes (n : Nat) (hx : cWF x N C Q) (hq : cQF x C Q) {f l : Nat} (hl : f + l ≤ Q) : xCW sc (n + 4) k_X1_passes [.ref 9, .int (nI f), .int (nI l)] (wW x y) (xIs (.inl (some (.int (bI (cPass x (x.1 6) f l))))) (wW x y)) := by
  have hx0 := hx
  obtain ⟨-, -, -, -, hQ, hQ2⟩ := hx
  refine xWp.go 2 rfl trivial ?_
  refine xWp.loopA l (fun k => !(cHolds x (x.1 6) (cq x (f + k)) (cRow x f k))) (fun j => (2, [some (.ref 9), some (.int (nI f)), some (.int (nI l)), some (.int (nI j))], [], wW x y, 0)) (fun j hj hp ih => ?_) (fun j hj hp ha => ?_) (fun ha => ?_)
  · refine xWp.gb rfl trivial rfl (fun h => ?_) (fun _ => ?_)
    · rw [le_nI (by omega) (by omega)] at h; omega
    · have hc := s_changeAt (n + 2) hx0 hq (sc := sc) (y := y) (i := f + j) (by omega)
      rw [← nI_add] at hc
      refine xWp.gc rfl trivial rfl hc (by decide) ?_
      refine xWp.gc rfl trivial rfl (s_setOfRow (n + 1) hx0 hq (by omega)) (by decide) ?_
      refine xWp.gc rfl trivial rfl (s_holdsBehind n hx0 (hq _ (by omega)).2 _) (by decide) ?_
      have hp' : cHolds x (x.1 6) (cq x (f + j)) (cRow x f j) = true := by simpa using hp
      rw [hp']
      refine xWp.gb rfl trivial rfl (fun h => absurd h (by decide)) (fun _ => ?_)
      rw [nI_s] at ih
      exact xWp.go 2 rfl trivial ih
  · refine xWp.gb rfl trivial rfl (fun h => ?_) (fun _ => ?_)
    · rw [le_nI (by omega) (by omega)] at h; omega
    · have hc := s_changeAt (n + 2) hx0 hq (sc := sc) (y := y) (i := f + j) (by omega)
      rw [← nI_add] at hc
      refine xWp.gc rfl trivial rfl hc (by decide) ?_
      refine xWp.gc rfl trivial rfl (s_setOfRow (n + 1) hx0 hq (by omega)) (by decide) ?_
      refine xWp.gc rfl trivial rfl (s_holdsBehind n hx0 (hq _ (by omega)).2 _) (by decide) ?_
      have hp' : cHolds x (x.1 6) (cq x (f + j)) (cRow x f j) = false := by simpa using hp
      rw [hp']
      refine xWp.gb rfl trivial rfl (fun _ => ?_) (fun h => absurd (by decide) h)
      exact xWp.gf rfl trivial rfl (Or.inr (Or.inl rfl)) ⟨by rw [bI_f (show cPass x (x.1 6) f l = false by unfold cPass; rw [ha]; rfl)]; rfl, rfl⟩
  · refine xWp.gb rfl trivial rfl (fun _ => ?_) (fun h => ?_)
    · exact xWp.gf rfl trivial rfl (Or.inr (Or.inr rfl)) ⟨by rw [bI_t (show cPass x (x.1 6) f l = true by unfold cPass; rw [ha]; rfl)]; rfl, rfl⟩
    · rw [le_nI (by omega) (by omega)] at h; omega
/-- the trial: what is in, tries, hours -/
def cTr (x : xX) (s : Int32 × Int32 × Int32) : xX := sI (sI (sI x 6 s.1) 7 s.2.1) 8 s.2.2
def cTry (x : xX) : Nat → Int32 × Int32 × Int32 → Nat → Nat → Int32 × Int32 × Int32
  | 0, s, _, _ => s
  | lv + 1, s, f, l => match cPass x s.1 f l with
    | true => (s.1 ||| cRow x f l, s.2.1 + nI 1, s.2.2 + (nI 5 + cWt x f l))
    | false => match decide (1 < l) with
      | true => cTry x lv (cTry x lv (s.1, s.2.1 + nI 1, s.2.2 + (nI 5 + cWt x f l)) f ((l + 1) / 2)) (f + (l + 1) / 2) (l - (l + 1) / 2)
      | false => (s.1, s.2.1 + nI 1, s.2.2 + (nI 5 + cWt x f l))
theorem cTry_two {x : xX} {lv f l : Nat} {s : Int32 × Int32 × Int32} (hp : cPass x s.1 f l = false) (hl : 1 < l) : cTry x (lv + 1) s f l = cTry x lv (cTry x lv (s.1, s.2.1 + nI 1, s.2.2 + (nI 5 + cWt x f l)) f ((l + 1) / 2)) (f + (l + 1) / 2) (l - (l + 1) / 2) := by
  rw [cTry, hp]
  simp only [show decide (1 < l) = true by simpa using hl]
theorem cTr_wf {s : Int32 × Int32 × Int32} (hx : cWF x N C Q) : cWF (cTr x s) N C Q := hx
theorem cTr_qf {s : Int32 × Int32 × Int32} (hq : cQF x C Q) : cQF (cTr x s) C Q := hq
theorem two_half {l v : Nat} (h : l ≤ 2 * v) : (l + 1) / 2 ≤ v := by omega
set_option maxHeartbeats 16000000 in
theorem s_try (hx : cWF x N C Q) (hq : cQF x C Q) : ∀ (lv n : Nat) (s : Int32 × Int32 × Int32) (f l : Nat), 1 ≤ l → l ≤ 8 → l ≤ 2 ^ lv → f + l ≤ Q → xCW sc (n + 2 * lv + 5) k_X1_tryAndHalve [.ref 9, .int (nI f), .int (nI l)] (wW (cTr x s) y) (xIs (.inl none) (wW (cTr x (cTry x (lv + 1) s f l)) y))
  | lv, n, s, f, l, h1, h8, hlv, hfl => by
    have hQ2 : Q ≤ 30 := hx.2.2.2.2.2
    refine xWp.gb rfl trivial rfl (fun h => ?_) (fun _ => ?_)
    · have h' : nI l < nI 1 := h
      rw [lt_nI (by omega) (by omega)] at h'; omega
    refine xWp.gb rfl trivial rfl (fun _ => ?_) (fun h => absurd (show nI l ≤ nI 8 from (le_nI (by omega) (by omega)).mpr h8) h)
    have x1 : cWF (cTr x (s.1, s.2.1 + nI 1, s.2.2)) N C Q := hx
    have q1 : cQF (cTr x (s.1, s.2.1 + nI 1, s.2.2)) C Q := hq
    refine xWp.gc rfl trivial rfl (s_weightOfRow (x := cTr x (s.1, s.2.1 + nI 1, s.2.2)) (n + 2 * lv + 1) x1 q1 hfl) (by decide) ?_
    have x2 : cWF (cTr x (s.1, s.2.1 + nI 1, s.2.2 + (nI 5 + cWt x f l))) N C Q := hx
    have q2 : cQF (cTr x (s.1, s.2.1 + nI 1, s.2.2 + (nI 5 + cWt x f l))) C Q := hq
    refine xWp.gc rfl trivial rfl (s_passes (x := cTr x (s.1, s.2.1 + nI 1, s.2.2 + (nI 5 + cWt x f l))) (n + 2 * lv) x2 q2 hfl) (by decide) ?_
    have e0 : cPass (cTr x (s.1, s.2.1 + nI 1, s.2.2 + (nI 5 + cWt x f l))) ((cTr x (s.1, s.2.1 + nI 1, s.2.2 + (nI 5 + cWt x f l))).1 6) f l = cPass x s.1 f l := rfl
    rw [e0]
    cases hp : cPass x s.1 f l
    · refine xWp.gb rfl trivial rfl (fun _ => ?_) (fun h => absurd (by decide) h)
      refine xWp.gb rfl trivial rfl (fun h => ?_) (fun h => ?_)
      · have h' : nI l ≤ nI 1 := h
        rw [le_nI (by omega) (by omega)] at h'
        refine xWp.gf rfl trivial rfl trivial ⟨rfl, ?_⟩
        rw [cTry, hp]
        simp only [show decide (1 < l) = false by simp; omega]
      · have h' : ¬ nI l ≤ nI 1 := h
        rw [le_nI (by omega) (by omega)] at h'
        match lv, hlv with
        | 0, hlv => simp at hlv; omega
        | lv + 1, hlv =>
          have hlv' : l ≤ 2 * 2 ^ lv := by rw [Nat.pow_succ] at hlv; omega
          have hh : xCW sc (n + 2 * lv + 6) k_X1_tryHalves [.ref 9, .int (nI f), .int (nI l)] (wW (cTr x (s.1, s.2.1 + nI 1, s.2.2 + (nI 5 + cWt x f l))) y) (xIs (.inl none) (wW (cTr x (cTry x (lv + 2) s f l)) y)) := by
            have t1 := s_try hx hq lv n (s.1, s.2.1 + nI 1, s.2.2 + (nI 5 + cWt x f l)) f ((l + 1) / 2) (by omega) (by omega) (two_half hlv') (by omega)
            have t2 := s_try hx hq lv n (cTry x (lv + 1) (s.1, s.2.1 + nI 1, s.2.2 + (nI 5 + cWt x f l)) f ((l + 1) / 2)) (f + (l + 1) / 2) (l - (l + 1) / 2) (by omega) (by omega) (by have := two_half hlv'; omega) (by omega)
            have d1 : (nI l + xk 1 0) / xk 2 0 = nI ((l + 1) / 2) := by
              rw [← nI_s]
              exact pk_div (by omega) (by omega) (by omega)
            refine xWp.go 4 rfl trivial ?_
            refine xWp.run 1 rfl ⟨by decide, trivial⟩ ?_
            simp only [d1]
            refine xWp.gc rfl trivial rfl t1 (by decide) ?_
            rw [← nI_add, ← pk_sub (by omega)] at t2
            refine xWp.gc rfl trivial rfl t2 (by decide) ?_
            refine xWp.gf rfl trivial rfl trivial ⟨rfl, ?_⟩
            rw [cTry_two (x := x) (lv := lv + 1) (s := s) (f := f) (l := l) hp (by omega)]
          refine xWp.gc rfl trivial rfl (by rw [show n + 2 * (lv + 1) + 4 = n + 2 * lv + 6 by omega]; exact hh) (by decide) ?_
          exact xWp.gf rfl trivial rfl trivial ⟨rfl, rfl⟩
    · refine xWp.gb rfl trivial rfl (fun h => absurd h (by decide)) (fun _ => ?_)
      refine xWp.gc rfl trivial rfl (s_setOfRow (x := cTr x (s.1, s.2.1 + nI 1, s.2.2 + (nI 5 + cWt x f l))) (n + 2 * lv + 2) x2 q2 hfl) (by decide) ?_
      refine xWp.gf rfl trivial rfl trivial ⟨rfl, ?_⟩
      rw [cTry, hp]
      rfl
end GB
