/-! the law acts: a card, a name, a move back, a limit -/
section LAa
variable {sc : Option (Nat × (Nat → Int32))} {x xc : xX} {y : lY} {N C : Nat} {q od : List Nat} {t : Nat}
abbrev aA (sc : Option (Nat × (Nat → Int32))) (T : Nat) (pc : Nat) (L : xL) (st : List Value) (x : xX) (y : lY) (u : Nat) : Prop := xAt sc k_L_acts 22 (lQ (some (.int (nI 1))) (lAct T)) (pc, L, st, wY x y [], u)
def aL (w zz : Nat) (a8 a9 a10 a11 a12 : Option Value) : xL := [some (.ref 0), some (.ref 15), some (.ref 16), some (.ref 17), some (.ref 18), some (.ref 19), some (.int (nI w)), some (.int (nI zz)), a8, a9, a10, a11, a12]
theorem xCW.up2 {n k : Nat} {as : List Value} {w : xW} {Q : xR → xW → Prop} (h : xCW sc n k as w Q) : xCW sc (n + 2) k as w Q := xCW.up (xCW.up h)
set_option maxHeartbeats 16000000 in
theorem l_aCard (h : LR N C q od t x y) {T : Nat} (hT : t + 1 ≤ T) (hT2 : T ≤ 1000000) (hN10 : N < 10) {zz : Nat} (hz : zz < 2 ^ 31) (w : Nat) : aA sc T 21 (aL w zz none none none none none) [] x y 0 := by
  have hN : y 4 (xk 0 0).toNatClampNeg = nI N := h.hN
  have n10 : ¬ xk 10 0 = 0 := by decide
  have ev : nI zz - nI zz / xk 10 0 * xk 10 0 = nI (zz % 10) := pk_rem hz (by omega) (by omega)
  have g0 : vp_in (xk 5 0 * y 4 (xk 0 0).toNatClampNeg) 50 := by rw [hN]; exact in50 (K := 10) (by omega) (by omega)
  have gN : vp_in (y 4 (xk 0 0).toNatClampNeg) 10 := by rw [hN]; exact in_nI (by omega) (by omega)
  have h2 := rAddL h hN10 (by omega) (p := zz % 10) (by omega)
  obtain ⟨Y2, hY2⟩ : ∃ Y2, Y2 = yS (yS (yS y 1 (5 * N) (nI (zz % 10))) 0 N (nI N)) 4 0 (nI N + nI 1) := ⟨_, rfl⟩
  rw [← hY2] at h2
  have eY : yS (yS (yS y 1 (xk 5 0 * y 4 (xk 0 0).toNatClampNeg).toNatClampNeg (nI zz - nI zz / xk 10 0 * xk 10 0)) 0 (y 4 (xk 0 0).toNatClampNeg).toNatClampNeg (y 4 (xk 0 0).toNatClampNeg)) 4 (xk 0 0).toNatClampNeg (y 4 (xk 0 0).toNatClampNeg + xk 1 0) = Y2 := by
    rw [ev, hN, c50 (by omega), cl_nI (by omega), hY2]; rfl
  have hw0 := xCW.up2 (c_card (sc := sc) (y := wL Y2 ++ []) h.inv.wf (v := nI (zz % 10)) (fun z => by rw [lt_nI (by omega) (by omega)] at z; omega) ((le_nI (a := zz % 10) (b := 9) (by omega) (by omega)).mpr (by omega)) (by omega))
  have hw : xCW sc 22 k_X2_card [.ref 0, .int (nI zz - nI zz / xk 10 0 * xk 10 0)] (wY x Y2 []) (xIs (.inl (some (.int (nI N)))) (wY (cAdd x N (nI (zz % 10))) Y2 [])) := by
    rw [ev]; exact hw0
  have e4 : nI N = Y2 4 (xk 0 0).toNatClampNeg - xk 1 0 := by
    have e : Y2 4 (xk 0 0).toNatClampNeg = nI (N + 1) := by
      show Y2 4 0 = _
      rw [hY2, yS_s, nI_add]
    rw [e]; exact (nI_pre N).symm
  rw [← eY] at hw e4
  refine xWp.gc rfl ⟨inx (by omega) (by omega), n10, g0, inx (by omega) (by omega), inx (by omega) (by omega), gN, inx (by omega) (by omega), inx (by omega) (by omega), n10, trivial⟩ rfl hw (by decide) ?_
  refine xWp.gb rfl ⟨inx (by omega) (by omega), trivial⟩ rfl (fun _ => ?_) (fun h9 => absurd e4 h9)
  rw [eY]
  exact xWp.gf rfl trivial rfl (Or.inr (Or.inr rfl)) (lQ.mk (x' := cAdd x N (nI (zz % 10))) (y' := Y2) (r' := []) (lAct.mk h2 hT))
set_option maxHeartbeats 16000000 in
/-- where a card names a change or not -/
theorem l_aName1 (h : LR N C q od t x y) {T : Nat} (hT : t ≤ T) {w zz k d : Nat} (hk : k < N) (hd : d < C) (b : Bool) : aA sc T 169 (aL w zz (some (.int (nI k))) (some (.int (xk 5 0 * nI k))) (some (.int (nI d))) (some (.int (bI b))) none) [] x y 0 := by
  have hN := h.n
  have hC := h.c
  obtain ⟨j, hj, hcol⟩ := h.col4 k
  have g1 : vp_in (xk 5 0 * nI k + xk 1 0) 50 := in5 (K := 10) (by omega) (by omega) (by omega)
  have g2 : vp_in (xk 5 0 * nI k + xk 2 0) 50 := in5 (K := 10) (by omega) (by omega) (by omega)
  have e1 : y 1 (xk 5 0 * nI k + xk 1 0).toNatClampNeg = nI j := by rw [c5 (by omega) (by omega), h.col (by omega), hcol]
  have ei : (xk 5 0 * nI k + xk 2 0).toNatClampNeg = 5 * k + 2 := c5 (by omega) (by omega)
  have e2 : y 1 (xk 5 0 * nI k + xk 2 0).toNatClampNeg = x.2 3 k := by rw [ei, h.nam (by omega)]
  refine xWp.gb rfl ⟨g1, trivial⟩ rfl (fun h9 => ?_) (fun h9 => ?_)
  · have h9' : nI 2 ≤ y 1 (xk 5 0 * nI k + xk 1 0).toNatClampNeg := h9
    rw [e1, le_nI (by omega) (by omega)] at h9'
    have eY : yS y 1 (xk 5 0 * nI k + xk 2 0).toNatClampNeg (y 1 (xk 5 0 * nI k + xk 2 0).toNatClampNeg) = y := yS_self
    have hw : xCW sc 22 k_L_named [.ref 0, .int (nI k), .int (nI d), .int (bI b)] (wY x (yS y 1 (xk 5 0 * nI k + xk 2 0).toNatClampNeg (y 1 (xk 5 0 * nI k + xk 2 0).toNatClampNeg)) []) (xIs (.inl (some (.int (xk 5 1)))) (wY x y [])) := by
      rw [eY]
      exact xCW.up (w_name_1 (c_name_1 h.inv.wf hk hd (by rw [hcol, eq_nI (by omega) (by omega)]; omega) (by rw [hcol, eq_nI (by omega) (by omega)]; omega)))
    refine xWp.gb rfl trivial rfl (fun _ => ?_) (fun h9 => absurd rfl h9)
    refine xWp.gc rfl ⟨g2, g2, trivial⟩ rfl hw (by decide) ?_
    refine xWp.gb rfl trivial rfl (fun _ => ?_) (fun h9 => absurd rfl h9)
    refine xWp.gb rfl trivial rfl (fun _ => ?_) (fun h9 => absurd rfl h9)
    exact xWp.gf rfl trivial rfl (Or.inr (Or.inr rfl)) (lQ.mk (x' := x) (y' := y) (r' := []) (lAct.mk h hT))
  · have h9' : ¬ nI 2 ≤ y 1 (xk 5 0 * nI k + xk 1 0).toNatClampNeg := h9
    rw [e1, le_nI (by omega) (by omega)] at h9'
    have h01 : x.2 1 k = nI 0 ∨ x.2 1 k = nI 1 := by
      rcases (show j = 0 ∨ j = 1 by omega) with rfl | rfl
      · exact Or.inl hcol
      · exact Or.inr hcol
    have h2 := rNameL h hk hd b
    obtain ⟨Y2, hY2⟩ : ∃ Y2, Y2 = yS y 1 (5 * k + 2) (wth (x.2 3 k) d b) := ⟨_, rfl⟩
    rw [← hY2] at h2
    have hw := xCW.up (w_name (sc := sc) (c_name (sc := sc) (y := wL Y2 ++ []) (b := bI b) h.inv.wf hk hd h01))
    rw [bI_ne] at hw
    have ho : xCW sc 22 k_L_ones [.int (Y2 1 (xk 5 0 * nI k + xk 2 0).toNatClampNeg)] (wY (cName x k d b) Y2 []) (xIs (.inl (some (.int (nI (fb_ct (bt (wth (x.2 3 k) d b)) 32))))) (wY (cName x k d b) Y2 [])) := by
      rw [ei, hY2, yS_s]; exact l_ones 21 _ _
    have fin : ∀ Z, Z = Y2 → aA sc T 238 (aL w zz (some (.int (nI k))) (some (.int (xk 5 0 * nI k))) (some (.int (nI d))) (some (.int (bI b))) (some (.int (nI 1)))) [] x Z 0 := fun Z hZ => by
      rw [hZ]
      refine xWp.gc rfl trivial rfl hw (by decide) ?_
      refine xWp.gb rfl trivial rfl (fun h9 => absurd h9 (by decide)) (fun _ => ?_)
      refine xWp.gc rfl ⟨g2, trivial⟩ rfl ho (by decide) ?_
      refine xWp.gb rfl trivial rfl (fun _ => ?_) (fun h9 => absurd rfl h9)
      exact xWp.gf rfl trivial rfl (Or.inr (Or.inr rfl)) (lQ.mk (x' := cName x k d b) (y' := Y2) (r' := []) (lAct.mk h2 hT))
    refine xWp.gb rfl trivial rfl (fun h9 => absurd h9 (by decide)) (fun _ => ?_)
    cases b
    · refine xWp.gb rfl trivial rfl (fun _ => ?_) (fun h9 => absurd rfl h9)
      have eY : yS y 1 (xk 5 0 * nI k + xk 2 0).toNatClampNeg (y 1 (xk 5 0 * nI k + xk 2 0).toNatClampNeg &&& (xk 1 0 <<< (nI d &&& 31) ^^^ xk 1 1)) = Y2 := by rw [e2, ei, hY2]; rfl
      exact xWp.go 238 rfl ⟨g2, g2, trivial⟩ (fin _ eY)
    · refine xWp.gb rfl trivial rfl (fun h9 => absurd h9 (by decide)) (fun _ => ?_)
      have eY : yS y 1 (xk 5 0 * nI k + xk 2 0).toNatClampNeg (y 1 (xk 5 0 * nI k + xk 2 0).toNatClampNeg ||| xk 1 0 <<< (nI d &&& 31)) = Y2 := by rw [e2, ei, hY2]; rfl
      exact xWp.go 238 rfl ⟨g2, g2, trivial⟩ (fin _ eY)
set_option maxHeartbeats 16000000 in
theorem l_aBack (h : LR N C q od t x y) {T : Nat} (hT : t + 1 ≤ T) (hT2 : T + 2 ≤ 1000000) {zz k : Nat} (hk : k < N) (a10 a11 a12 : Option Value) : aA sc T 480 (aL 18 zz (some (.int (nI k))) (some (.int (xk 5 0 * nI k))) a10 a11 a12) [] x y 0 := by
  have hN := h.n
  obtain ⟨j, hj, hcol⟩ := h.col4 k
  have g1 : vp_in (xk 5 0 * nI k + xk 1 0) 50 := in5 (K := 10) (by omega) (by omega) (by omega)
  have e1 : y 1 (xk 5 0 * nI k + xk 1 0).toNatClampNeg = nI j := by rw [c5 (by omega) (by omega), h.col (by omega), hcol]
  have no : cBk x N j = false → aA sc T 529 (aL 18 zz (some (.int (nI k))) (some (.int (xk 5 0 * nI k))) (some (.int (nI j))) a11 a12) [] x y 0 := fun e => by
    have hw := xCW.up (w_moveBack_1 (sc := sc) (c_moveBack_1 (sc := sc) (y := wL y ++ []) h.inv hk hcol hj e))
    refine xWp.gb rfl trivial rfl (fun _ => ?_) (fun h9 => absurd rfl h9)
    refine xWp.gc rfl trivial rfl hw (by decide) ?_
    refine xWp.gb rfl trivial rfl (fun _ => ?_) (fun h9 => absurd rfl h9)
    refine xWp.gb rfl trivial rfl (fun _ => ?_) (fun h9 => absurd rfl h9)
    exact xWp.gf rfl trivial rfl (Or.inr (Or.inr rfl)) (lQ.mk (x' := x) (y' := y) (r' := []) (lAct.mk h (by omega)))
  have yes : ∀ j', j = j' + 1 → j' ≤ 2 → cAt x N (nI j') = false → aA sc T 525 (aL 18 zz (some (.int (nI k))) (some (.int (xk 5 0 * nI k))) (some (.int (nI j))) a11 a12) [] x y 0 := fun j' ej hj' e => by
    subst ej
    have hc := l_come (sc := sc) (xc := x) (r := []) 21 h hk (j := j') (by omega) (by omega)
    have ep : nI (j' + 1) - xk 1 0 = nI j' := nI_pre j'
    rw [← ep] at hc
    have hr := cShift_1 h.inv hk (j := j') (by omega) (by omega)
    have er : (cShift x N k (nI j')).2 1 k = nI j' := by rw [hr, pk_us]
    refine xWp.gb rfl trivial rfl (fun h9 => absurd h9 (by decide)) (fun _ => ?_)
    refine xWp.gm rfl trivial rfl hc (by decide) (fun x1 y1 r1 h6 => ?_)
    obtain ⟨k1, k2, q', od', k4⟩ := h6
    rw [k1, k2]
    have hw := xCW.up (w_moveBack (sc := sc) (c_moveBack (sc := sc) (y := wL y1 ++ []) h.inv hk hcol hj' e (by omega)))
    rw [er] at hw
    refine xWp.gc rfl trivial rfl hw (by decide) ?_
    refine xWp.gb rfl trivial rfl (fun h9 => absurd h9 (by decide)) (fun _ => ?_)
    refine xWp.gb rfl trivial rfl (fun _ => ?_) (fun h9 => absurd ep.symm h9)
    rw [ep] at k4
    exact xWp.gf rfl trivial rfl (Or.inr (Or.inr rfl)) (lQ.mk (x' := cShift x N k (nI j')) (y' := y1) (r' := []) (lAct.mk k4 hT))
  have k488 : aA sc T 488 (aL 18 zz (some (.int (nI k))) (some (.int (xk 5 0 * nI k))) (some (.int (nI j))) a11 a12) [] x y 0 := by
    refine xWp.gb rfl trivial rfl (fun h9 => ?_) (fun h9 => ?_)
    · have h9' : nI j ≤ nI 0 := h9
      rw [le_nI (by omega) (by omega)] at h9'
      exact no (by unfold cBk; rw [decide_eq_false (by omega)]; rfl)
    have h9' : ¬ nI j ≤ nI 0 := h9
    rw [le_nI (by omega) (by omega)] at h9'
    refine xWp.gb rfl trivial rfl (fun h8 => ?_) (fun h8 => ?_)
    · have h8' : nI 4 ≤ nI j := h8
      rw [le_nI (by omega) (by omega)] at h8'
      have e : decide (j ≤ 3) = false := decide_eq_false (by omega)
      exact no (by unfold cBk; rw [e]; simp)
    have h8' : ¬ nI 4 ≤ nI j := h8
    rw [le_nI (by omega) (by omega)] at h8'
    refine xWp.gb rfl trivial rfl (fun h7 => ?_) (fun h7 => ?_)
    · have h7' : nI j = nI 1 := h7
      rw [eq_nI (by omega) (by omega)] at h7'
      refine yes 0 (by omega) (by omega) ?_
      unfold cAt
      rw [cHL_nI (by omega)]
      rfl
    · have h7' : ¬ nI j = nI 1 := h7
      rw [eq_nI (by omega) (by omega)] at h7'
      obtain ⟨j', rfl⟩ : ∃ j', j = j' + 1 := ⟨j - 1, by omega⟩
      have ep : nI (j' + 1) - xk 1 0 = nI j' := nI_pre j'
      have hc := l_countR (sc := sc) (xc := x) (r := []) 21 h (nI (j' + 1) - xk 1 0)
      rw [ep] at hc
      have hc' : xCW sc 22 k_L_count [.ref 16, .ref 19, .int (nI (j' + 1) - xk 1 0)] (wY x y []) (xIs (.inl (some (.int (nI (cSz x N (nI j')))))) (wY x y [])) := by rw [ep]; exact hc
      have el : y 4 (xk 2 0 + nI (j' + 1)).toNatClampNeg = x.2 6 j' := by rw [xk_nI, cl_nI (by omega), show 2 + (j' + 1) = 3 + j' by omega, h.lim (by omega) (by omega)]
      have ea := cAt_of (x := x) (N := N) (j := j') (by omega) (by omega)
      refine xWp.gc rfl trivial rfl hc' (by decide) ?_
      refine xWp.gb rfl ⟨inA (by omega) (by omega), trivial⟩ rfl (fun h6 => ?_) (fun h6 => ?_)
      · have h6' : y 4 (xk 2 0 + nI (j' + 1)).toNatClampNeg ≤ nI (cSz x N (nI j')) := h6
        rw [el] at h6'
        refine no ?_
        have e : cAt x N (nI j') = true := by
          rw [ea, decide_eq_true_eq, fa_lt]
          rw [fa_le] at h6'
          omega
        unfold cBk
        rw [show j' + 1 - 1 = j' by omega, e]; simp
      · have h6' : ¬ y 4 (xk 2 0 + nI (j' + 1)).toNatClampNeg ≤ nI (cSz x N (nI j')) := h6
        rw [el] at h6'
        refine yes j' rfl (by omega) ?_
        rw [ea, decide_eq_false_iff_not, fa_lt]
        rw [fa_le] at h6'
        omega
  unfold aA aL at k488
  rw [← e1] at k488
  exact xWp.go 488 rfl ⟨g1, trivial⟩ k488
set_option maxHeartbeats 16000000 in
theorem l_aLimLoop {T l a zz : Nat} {had : Int32} (l1 : 1 ≤ l) (hl : l ≤ 9) (ha : a + 1 ≤ 3) (a8 a9 a12 : Option Value) {x9 : xX} (hP : ∀ q od t y, t ≤ T → LR N C q od t x9 y → aA sc T 667 (aL 19 zz a8 a9 (some (.int (nI (a + 1)))) (some (.int had)) a12) [] xc y 0) : ∀ (m : Nat) {x : xX} {y : lY} {q od : List Nat} {t : Nat}, cSz x N (nI (a + 1)) - l = m → LR N C q od t x y → x.2 6 (a + 1) = nI l → t + 4 * m ≤ T → t + 4 * m ≤ 1000000 → cRep N (a + 1) m x = x9 → aA sc T 634 (aL 19 zz a8 a9 (some (.int (nI (a + 1)))) (some (.int had)) a12) [] xc y 0
  | m, x, y, q, od, t, hm, h, h6, ht, ht2, hx9 => by
    have hN := h.n
    have hs1 := cSz_le (x := x) (N := N) (nI (a + 1))
    have hcb := cAb_of h.inv (a := a) (l := l) ha h6 hl
    have el : y 4 (xk 3 0 + nI (a + 1)).toNatClampNeg = nI l := by rw [xk_nI, cl_nI (by omega), h.lim (by omega) (by omega), h6]
    refine xWp.gc rfl trivial rfl (l_countR 21 h (nI (a + 1))) (by decide) ?_
    refine xWp.gb rfl ⟨inA (by omega) (by omega), trivial⟩ rfl (fun h9 => ?_) (fun h9 => ?_)
    · have h9' : nI (cSz x N (nI (a + 1))) ≤ y 4 (xk 3 0 + nI (a + 1)).toNatClampNeg := h9
      rw [el, le_nI (by omega) (by omega)] at h9'
      have em : m = 0 := by omega
      subst em
      have e : x = x9 := hx9
      subst e
      exact hP q od t y (by omega) h
    · have h9' : ¬ nI (cSz x N (nI (a + 1))) ≤ y 4 (xk 3 0 + nI (a + 1)).toNatClampNeg := h9
      rw [el, le_nI (by omega) (by omega)] at h9'
      obtain ⟨m', rfl⟩ : ∃ m', m = m' + 1 := ⟨m - 1, by omega⟩
      have e : cAb x N (nI (a + 1)) = true := by rw [hcb]; simp; omega
      have hs0 : 0 < cSz x N (nI (a + 1)) := by omega
      have ep : cPush N (a + 1) x = cPush N a (cPsh1 N a x) := by rw [cPush, e]
      refine xWp.gm rfl trivial rfl (l_push 20 h (a := a + 1) ha (by omega)) (by decide) (fun x1 y1 r1 h5 => ?_)
      obtain ⟨k1, k2, q2, od2, t2, k3, k4⟩ := h5
      rw [k1, k2]
      rw [ep] at k4
      obtain ⟨q', h2⟩ := iPsh1 (a := a) h.inv (by omega) hs0 (by omega)
      obtain ⟨i1, i2⟩ := sz_push a h2 (by omega) (by omega)
      have s1 := (sz_psh1 h.inv (a := a) (by omega) hs0 (by omega)).1
      have s6 := (psh1_1 h.inv (a := a) (by omega) hs0 (by omega)).2
      refine xWp.go 634 rfl trivial ?_
      refine l_aLimLoop l1 hl ha a8 a9 a12 hP m' (x := cPush N a (cPsh1 N a x)) ?_ k4 (by rw [i2, s6]; exact h6) (by omega) (by omega) ?_
      · rw [i1 (a + 1) (by omega) (by omega)]
        omega
      · rw [← hx9, cRep, ep]
end LAa
