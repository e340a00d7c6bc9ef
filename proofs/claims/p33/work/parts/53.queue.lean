/-! the law holds the queue against the class, and what every row of it would do -/
section LIq
variable {sc : Option (Nat × (Nat → Int32))} {x : xX} {y : lY} {R : xW} {N C : Nat} {q od : List Nat} {t : Nat}
theorem LR.tr (h : LR N C q od t x y) (s : Int32 × Int32 × Int32) : LR N C q od t (cTr x s) y := h
theorem d_wpo (h : LR N C q od t x y) (s : Int32 × Int32 × Int32) {l : Nat} (h1 : 1 ≤ l) (h8 : l ≤ 8) (hl : l ≤ q.length) : xCW sc 20 k_X2_wouldPassOneByOne [.ref 0, .int (nI l)] (wW (cTr x s) R) (xIs (.inl (some (.int (cPP x (cFO x C l).1 l)))) (wW (cTr x (cFO x C l)) R)) := by
  have h9 := c_wouldPassOneByOne (sc := sc) (y := R) (h.tr s).inv.wf (h.tr s).inv.qf h1 h8 hl
  rw [cTr_tr, cFO_tr] at h9
  exact h9
theorem d_wp (h : LR N C q od t x y) (s : Int32 × Int32 × Int32) {l : Nat} (h1 : 1 ≤ l) (h8 : l ≤ 8) (hl : l ≤ q.length) : xCW sc 20 k_X2_wouldPass [.ref 0, .int (nI l)] (wW (cTr x s) R) (xIs (.inl (some (.int (cPP x (cFR x C l).1 l)))) (wW (cTr x (cFR x C l)) R)) := by
  have h9 := c_wouldPass (sc := sc) (y := R) (h.tr s).inv.wf (h.tr s).inv.qf h1 h8 hl
  rw [cTr_tr, cFR_tr] at h9
  exact h9
theorem d_wto (h : LR N C q od t x y) (s : Int32 × Int32 × Int32) {l : Nat} (h1 : 1 ≤ l) (h8 : l ≤ 8) (hl : l ≤ q.length) : xCW sc 20 k_X2_wouldTake [.ref 0, .int (nI l), .int (nI 1)] (wW (cTr x s) R) (xIs (.inl (some (.int (cFO x C l).2.2))) (wW (cTr x (cFO x C l)) R)) := by
  have h9 := c_wouldTake_o (sc := sc) (y := R) (h.tr s).inv.wf (h.tr s).inv.qf (b := nI 1) (by decide) h1 h8 hl
  rw [cTr_tr, cFO_tr] at h9
  exact h9
theorem d_wtr (h : LR N C q od t x y) (s : Int32 × Int32 × Int32) {l : Nat} (h1 : 1 ≤ l) (h8 : l ≤ 8) (hl : l ≤ q.length) : xCW sc 20 k_X2_wouldTake [.ref 0, .int (nI l), .int (nI 0)] (wW (cTr x s) R) (xIs (.inl (some (.int (cFR x C l).2.2))) (wW (cTr x (cFR x C l)) R)) := by
  have h9 := c_wouldTake_r (sc := sc) (y := R) (h.tr s).inv.wf (h.tr s).inv.qf h1 h8 hl
  rw [cTr_tr, cFR_tr] at h9
  exact h9
theorem cBs1_tr (s b : Int32 × Int32 × Int32) (l : Nat) : cBs1 (cTr x s) C b l = cBs1 x C b l := by
  unfold cBs1
  rw [cFR_tr]
  rfl
theorem cBst_tr (s : Int32 × Int32 × Int32) : ∀ l, cBst (cTr x s) C l = cBst x C l
  | 0 => rfl
  | l + 1 => by rw [cBst, cBst, cBst_tr s l, cBs1_tr]
theorem d_best (h : LR N C q od t x y) (s : Int32 × Int32 × Int32) {L : Nat} (h8 : L ≤ 8) (hl : L ≤ q.length) (hL : L = 8 ∨ L = q.length) : ∃ s', xCW sc 20 k_X2_bestLength [.ref 0] (wW (cTr x s) R) (xIs (.inl (some (.int (cBst x C L).1))) (wW (cTr x s') R)) := by
  have h9 := c_bestLength (sc := sc) (y := R) (h.tr s).inv.wf (h.tr s).inv.qf h8 hl hL
  rw [cTr_tr, cBst_tr] at h9
  exact ⟨_, h9⟩
theorem cBst_n : ∀ j, j ≤ 8 → ((cBst x C j).1 = -1 ∨ ∃ l, l ≤ 8 ∧ (cBst x C j).1 = nI l)
  | 0, _ => Or.inl rfl
  | j + 1, hj => by
    rw [cBst, cBs1]
    split
    · exact Or.inr ⟨j + 1, hj, rfl⟩
    · exact cBst_n j (by omega)
def iqL (best most time is a9 a10 a11 : Option Value) : xL := [some (.ref 0), some (.ref 17), some (.ref 18), some (.ref 19), some (.ref 20), best, most, time, is, a9, a10, a11]
/-- what is asked of the queue leaves the trial's numbers alone to change -/
def lIq (x : xX) (y : lY) : xX → lY → xW → Prop := fun x1 y1 r1 => (∃ s, x1 = cTr x s) ∧ y1 = y ∧ r1 = []
set_option maxHeartbeats 16000000 in
theorem l_iqRows (h : LR N C q od t x y) {L : Nat} (h8 : L ≤ 8) (hl : L ≤ q.length) (hL : L = 8 ∨ L = q.length) : ∀ (m j : Nat) (s : Int32 × Int32 × Int32) (F : Nat → Int32) (a10 a11 : Option Value), j + m = L → xAt sc k_L_isQueue 20 (lQ (some (.int (nI 1))) (lIq x y)) (86, iqL (some (.int (cBst x C j).1)) (some (.int (cBst x C j).2.1)) (some (.int (cBst x C j).2.2)) (some (.int (nI 1))) (some (.int (nI (j + 1)))) a10 a11, [], wY (cTr x s) y [.inl (0, 3, .inl F)], 1 + q.length + 14 * j)
  | 0, j, s, F, a10, a11, hj => by
    have hq := h.q12
    have ej : j = L := by omega
    subst ej
    obtain ⟨s', hb⟩ := d_best (sc := sc) (R := wL y ++ [.inl (0, 3, .inl F)]) h s h8 hl hL
    have fin : xAt sc k_L_isQueue 20 (lQ (some (.int (nI 1))) (lIq x y)) (299, iqL (some (.int (cBst x C j).1)) (some (.int (cBst x C j).2.1)) (some (.int (cBst x C j).2.2)) (some (.int (nI 1))) (some (.int (nI (j + 1)))) a10 a11, [], wY (cTr x s) y [.inl (0, 3, .inl F)], 1 + q.length + 14 * j) := by
      refine xWp.gb rfl trivial rfl (fun h9 => absurd h9 (by decide)) (fun _ => ?_)
      refine xWp.gc rfl trivial rfl hb (show 1 + q.length + 14 * j + 0 ≤ 140 by omega) ?_
      refine xWp.gb rfl trivial rfl (fun _ => ?_) (fun h9 => absurd rfl h9)
      exact xWp.gf rfl trivial rfl (Or.inr (Or.inr rfl)) (lQ.mk (x' := cTr x s') (y' := y) (r' := []) ⟨⟨s', rfl⟩, rfl, rfl⟩)
    refine xWp.gb rfl trivial rfl (fun _ => fin) (fun h9 => ?_)
    have h9' : ¬ nI 8 < nI (j + 1) := h9
    rw [lt_nI (by omega) (by omega)] at h9'
    refine xWp.gb rfl ⟨inx (by omega) (by omega), trivial⟩ rfl (fun _ => fin) (fun h7 => ?_)
    have h7' : ¬ y 4 2 < nI (j + 1) := h7
    rw [h.hQ, lt_nI (by omega) (by omega)] at h7'
    omega
  | m + 1, j, s, F, a10, a11, hj => by
    have hq := h.q12
    have l1 : 1 ≤ j + 1 := by omega
    have l8 : j + 1 ≤ 8 := by omega
    have lq : j + 1 ≤ q.length := by omega
    refine xWp.gb rfl trivial rfl (fun h9 => ?_) (fun _ => ?_)
    · have h9' : nI 8 < nI (j + 1) := h9
      rw [lt_nI (by omega) (by omega)] at h9'; omega
    refine xWp.gb rfl ⟨inx (by omega) (by omega), trivial⟩ rfl (fun h9 => ?_) (fun _ => ?_)
    · have h9' : y 4 2 < nI (j + 1) := h9
      rw [h.hQ, lt_nI (by omega) (by omega)] at h9'; omega
    refine xWp.gb rfl trivial rfl (fun h9 => absurd h9 (by decide)) (fun _ => ?_)
    refine xWp.gm rfl trivial rfl (l_work 18 h l1 l8 lq true F) (show 1 + q.length + 14 * j + 3 ≤ 140 by omega) (fun x1 y1 r1 hw => ?_)
    obtain ⟨e1, e2, F1, e3, hF1⟩ := hw
    rw [e1, e2, e3]
    refine xWp.gc rfl trivial rfl (d_wpo h s l1 l8 lq) (show 1 + q.length + 14 * j + 3 + 2 ≤ 140 by omega) ?_
    refine xWp.gc rfl trivial rfl (l_passed 19 h lq hF1) (show 1 + q.length + 14 * j + 3 + 2 + 0 ≤ 140 by omega) ?_
    refine xWp.gb rfl trivial rfl (fun _ => ?_) (fun h9 => absurd rfl h9)
    refine xWp.gc rfl trivial rfl (d_wto h _ l1 l8 lq) (show 1 + q.length + 14 * j + 3 + 2 + 0 + 2 ≤ 140 by omega) ?_
    refine xWp.gb rfl ⟨inx (by omega) (by omega), trivial⟩ rfl (fun _ => ?_) (fun h9 => absurd hF1.2.2.symm h9)
    refine xWp.gm rfl trivial rfl (l_work 18 h l1 l8 lq false F1) (show 1 + q.length + 14 * j + 3 + 2 + 0 + 2 + 3 ≤ 140 by omega) (fun x1 y1 r1 hw => ?_)
    obtain ⟨e1, e2, F2, e3, hF2⟩ := hw
    rw [e1, e2, e3]
    refine xWp.gc rfl trivial rfl (l_passed 19 h lq hF2) (show 1 + q.length + 14 * j + 3 + 2 + 0 + 2 + 3 + 0 ≤ 140 by omega) ?_
    refine xWp.gc rfl trivial rfl (l_ones 19 _ _) (show 1 + q.length + 14 * j + 3 + 2 + 0 + 2 + 3 + 0 + 0 ≤ 140 by omega) ?_
    refine xWp.gb rfl trivial rfl (fun h9 => absurd h9 (by decide)) (fun _ => ?_)
    refine xWp.gc rfl trivial rfl (d_wp h _ l1 l8 lq) (show 1 + q.length + 14 * j + 3 + 2 + 0 + 2 + 3 + 0 + 0 + 2 ≤ 140 by omega) ?_
    refine xWp.gc rfl trivial rfl (l_passed 19 h lq hF2) (show 1 + q.length + 14 * j + 3 + 2 + 0 + 2 + 3 + 0 + 0 + 2 + 0 ≤ 140 by omega) ?_
    refine xWp.gb rfl trivial rfl (fun _ => ?_) (fun h9 => absurd rfl h9)
    refine xWp.gc rfl trivial rfl (d_wtr h _ l1 l8 lq) (show 1 + q.length + 14 * j + 3 + 2 + 0 + 2 + 3 + 0 + 0 + 2 + 0 + 2 ≤ 140 by omega) ?_
    refine xWp.gb rfl ⟨inx (by omega) (by omega), trivial⟩ rfl (fun _ => ?_) (fun h9 => absurd hF2.2.2.symm h9)
    have eF : F2 (xk 2 0).toNatClampNeg = (cFR x C (j + 1)).2.2 := hF2.2.2
    have ih := fun a11 => l_iqRows h h8 hl hL m (j + 1) (cFR x C (j + 1)) F2 (some (.int (nI (fb_ct (bt (cPP x (cFR x C (j + 1)).1 (j + 1))) 32)))) a11 (by omega)
    unfold iqL at ih
    rw [nI_s (j + 1), show 1 + q.length + 14 * (j + 1) = 1 + q.length + 14 * j + 3 + 2 + 0 + 2 + 3 + 0 + 0 + 2 + 0 + 2 by omega] at ih
    have yes : cBst x C (j + 1) = (nI (j + 1), nI (fb_ct (bt (cPP x (cFR x C (j + 1)).1 (j + 1))) 32), (cFR x C (j + 1)).2.2) → xAt sc k_L_isQueue 20 (lQ (some (.int (nI 1))) (lIq x y)) (242, iqL (some (.int (cBst x C j).1)) (some (.int (cBst x C j).2.1)) (some (.int (cBst x C j).2.2)) (some (.int (nI 1))) (some (.int (nI (j + 1)))) (some (.int (nI (fb_ct (bt (cPP x (cFR x C (j + 1)).1 (j + 1))) 32)))) a11, [], wY (cTr x (cFR x C (j + 1))) y [.inl (0, 3, .inl F2)], 1 + q.length + 14 * j + 3 + 2 + 0 + 2 + 3 + 0 + 0 + 2 + 0 + 2) := fun e => by
      have ih := ih (some (.int (nI 1)))
      rw [e] at ih
      dsimp only at ih
      rw [← eF] at ih
      refine xWp.gb rfl trivial rfl (fun h9 => absurd h9 (by decide)) (fun _ => ?_)
      refine xWp.gb rfl trivial rfl (fun h9 => absurd h9 (by decide)) (fun _ => ?_)
      refine xWp.gb rfl trivial rfl (fun h9 => absurd h9 (by decide)) (fun _ => ?_)
      exact xWp.go 86 rfl ⟨inx (by omega) (by omega), trivial⟩ ih
    have no : cBst x C (j + 1) = cBst x C j → xAt sc k_L_isQueue 20 (lQ (some (.int (nI 1))) (lIq x y)) (246, iqL (some (.int (cBst x C j).1)) (some (.int (cBst x C j).2.1)) (some (.int (cBst x C j).2.2)) (some (.int (nI 1))) (some (.int (nI (j + 1)))) (some (.int (nI (fb_ct (bt (cPP x (cFR x C (j + 1)).1 (j + 1))) 32)))) a11, [], wY (cTr x (cFR x C (j + 1))) y [.inl (0, 3, .inl F2)], 1 + q.length + 14 * j + 3 + 2 + 0 + 2 + 3 + 0 + 0 + 2 + 0 + 2) := fun e => by
      have ih := ih (some (.int (nI 0)))
      rw [e] at ih
      refine xWp.gb rfl trivial rfl (fun _ => ?_) (fun h9 => absurd rfl h9)
      refine xWp.gb rfl trivial rfl (fun _ => ?_) (fun h9 => absurd rfl h9)
      refine xWp.gb rfl trivial rfl (fun _ => ?_) (fun h9 => absurd rfl h9)
      exact xWp.go 86 rfl trivial ih
    refine xWp.gb rfl trivial rfl (fun h9 => ?_) (fun h9 => ?_)
    · have h9' : (cBst x C j).1 < 0 := h9
      refine yes (if_pos (Or.inl ?_))
      rcases cBst_n (x := x) (C := C) j (by omega) with e | ⟨l, l9, e⟩
      · exact e
      · rw [e] at h9'; exact absurd h9' (n0_nI (by omega))
    · have h9' : ¬ (cBst x C j).1 < 0 := h9
      have hne : ¬ (cBst x C j).1 = -1 := fun e => by rw [e] at h9'; exact h9' (by decide)
      refine xWp.gb rfl ⟨inx (by omega) (by omega), trivial⟩ rfl (fun h7 => ?_) (fun h7 => ?_)
      · have h7' : nI (fb_ct (bt (cPP x (cFR x C (j + 1)).1 (j + 1))) 32) * (cBst x C j).2.2 ≤ (cBst x C j).2.1 * F2 (xk 2 0).toNatClampNeg := h7
        rw [eF] at h7'
        exact no (if_neg (fun z => z.elim hne (fun z => z h7')))
      · have h7' : ¬ nI (fb_ct (bt (cPP x (cFR x C (j + 1)).1 (j + 1))) 32) * (cBst x C j).2.2 ≤ (cBst x C j).2.1 * F2 (xk 2 0).toNatClampNeg := h7
        rw [eF] at h7'
        exact yes (if_pos (Or.inr h7'))
set_option maxHeartbeats 16000000 in
theorem l_isQueue (h : LR N C q od t x y) : xCW sc 21 k_L_isQueue [.ref 0, .ref 17, .ref 18, .ref 19] (wY x y []) (lQ (some (.int (nI 1))) (lIq x y)) := by
  have hq := h.q12
  have e1 : x.1 5 = y 4 2 := by rw [h.hQ]; exact h.inv.wf.2.2.2.2.1
  have e2 : x.1 0 = y 4 3 := h.hH.symm
  refine xWp.gc rfl ⟨⟨rfl, by decide⟩, trivial⟩ rfl c_queued (by decide) ?_
  refine xWp.gb rfl ⟨inx (by omega) (by omega), trivial⟩ rfl (fun _ => ?_) (fun h9 => absurd e1 h9)
  refine xWp.gc rfl trivial rfl c_hours (by decide) ?_
  refine xWp.gb rfl ⟨inx (by omega) (by omega), trivial⟩ rfl (fun _ => ?_) (fun h9 => absurd e2 h9)
  refine xWp.go 44 rfl trivial ?_
  refine xWp.loop q.length (fun i => (44, iqL (some (.int (-1))) (some (.int (nI 0))) (some (.int (nI 1))) (some (.int (nI 1))) (some (.int (nI i))) none none, [], wY x y [.inl (0, 3, .inl (fun _ => 0))], 1 + i)) (fun i hi ih => ?_) ?_
  · obtain ⟨e3, e4⟩ := h.qc hi
    have e5 : nI (cq x i) = y 3 (nI i).toNatClampNeg := by rw [cl_nI (by omega)]; exact e3.symm
    unfold iqL at ih
    rw [nI_s i] at ih
    refine xWp.gb rfl ⟨inx (by omega) (by omega), trivial⟩ rfl (fun h9 => ?_) (fun _ => ?_)
    · have h' : y 4 2 ≤ nI i := h9
      rw [h.hQ, le_nI (by omega) (by omega)] at h'; omega
    refine xWp.gb rfl trivial rfl (fun h9 => absurd h9 (by decide)) (fun _ => ?_)
    refine xWp.gc rfl trivial rfl (c_queuedAt h.inv.wf h.inv.qf hi) (show 1 + i + 1 ≤ 140 by omega) ?_
    refine xWp.gb rfl ⟨in_nI (by omega) (by omega), trivial⟩ rfl (fun _ => ?_) (fun h9 => absurd e5 h9)
    exact xWp.go 44 rfl trivial ih
  · refine xWp.gb rfl ⟨inx (by omega) (by omega), trivial⟩ rfl (fun _ => ?_) (fun h9 => ?_)
    · refine xWp.go 86 rfl trivial ?_
      have key : ∃ L, L ≤ 8 ∧ L ≤ q.length ∧ (L = 8 ∨ L = q.length) := by
        by_cases h8 : q.length ≤ 8
        · exact ⟨q.length, h8, Nat.le_refl _, Or.inr rfl⟩
        · exact ⟨8, Nat.le_refl _, by omega, Or.inl rfl⟩
      obtain ⟨L, h8, hl, hL⟩ := key
      have k2 := l_iqRows (sc := sc) h h8 hl hL L 0 (x.1 6, x.1 7, x.1 8) (fun _ => 0) none none (by omega)
      rw [cTr_self] at k2
      exact k2
    · have h' : ¬ y 4 2 ≤ nI q.length := h9
      rw [h.hQ, le_nI (by omega) (by omega)] at h'; omega
end LIq
