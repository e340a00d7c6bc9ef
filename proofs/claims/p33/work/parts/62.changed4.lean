/-! the law changes a change, whole -/
section LCj
variable {sc : Option (Nat × (Nat → Int32))} {x xc : xX} {y : lY} {N C : Nat} {q od : List Nat} {t : Nat}
set_option maxHeartbeats 16000000 in
theorem l_icTake (h : LR N C q od t x y) {T : Nat} (hT : t + 2 * N ≤ T) (hT2 : T ≤ 1000000) {zz k : Nat} (hk : k < C) (a9 a10 a11 a12 a13 a14 a15 : Option Value) : icA sc T 566 (icG 5 zz k a9 a10 a11 a12 a13 a14 a15) [] x y 0 := by
  have hC := h.c
  have hN := h.n
  have g1 : vp_in (xk 5 0 * nI k + xk 1 0) 60 := in5 (K := 12) (by omega) (by omega) (by omega)
  have e1 : (xk 5 0 * nI k + xk 1 0).toNatClampNeg = 5 * k + 1 := c5 (by omega) (by omega)
  have es : y 2 (xk 5 0 * nI k + xk 1 0).toNatClampNeg = x.2 10 k := by rw [e1, h.sta (by omega)]
  have k780 : ∀ a15, icA sc T 780 (icG 5 zz k a9 (some (.int (xk 5 0 * nI k))) a11 a12 (some (.int (nI 0))) (some (.int (bI (tkOk x C k C)))) a15) [] x y 0 := fun a15 => by
    cases hok : tkOk x C k C
    · have hno : ¬ x.2 10 k = nI 2 ∨ cNeeded x C k = true := by
        unfold tkOk at hok
        rw [Bool.and_eq_false_iff] at hok
        rcases hok with z | z
        · exact Or.inl (of_decide_eq_false z)
        · right
          unfold cNeeded
          simpa using z
      have eY : yS y 2 (xk 5 0 * nI k + xk 1 0).toNatClampNeg (y 2 (xk 5 0 * nI k + xk 1 0).toNatClampNeg) = y := yS_self
      have hw := w_takeOut_1 (sc := sc) (c_takeOut_1 (sc := sc) (y := wL (yS y 2 (xk 5 0 * nI k + xk 1 0).toNatClampNeg (y 2 (xk 5 0 * nI k + xk 1 0).toNatClampNeg)) ++ []) h.inv.wf hk hno)
      have fin : ∀ L, L = icG 5 zz k a9 (some (.int (xk 5 0 * nI k))) a11 a12 (some (.int (nI 0))) (some (.int (bI false))) (some (.int (nI 0))) → icA sc T 868 L [] x (yS y 2 (xk 5 0 * nI k + xk 1 0).toNatClampNeg (y 2 (xk 5 0 * nI k + xk 1 0).toNatClampNeg)) 0 := fun L hL => by
        rw [hL]
        refine xWp.gc rfl trivial rfl hw (by decide) ?_
        refine xWp.gb rfl trivial rfl (fun _ => ?_) (fun h9 => absurd rfl h9)
        refine xWp.gb rfl trivial rfl (fun _ => ?_) (fun h9 => absurd rfl h9)
        refine xWp.gf rfl trivial rfl (Or.inr (Or.inr rfl)) (lQ.mk (x' := x) (y' := yS y 2 (xk 5 0 * nI k + xk 1 0).toNatClampNeg (y 2 (xk 5 0 * nI k + xk 1 0).toNatClampNeg)) (r' := []) ?_)
        rw [eY]
        exact lAct.mk h (by omega)
      refine xWp.gb rfl trivial rfl (fun _ => ?_) (fun h9 => absurd rfl h9)
      refine xWp.gb rfl ⟨g1, g1, inx (by omega) (by omega), trivial⟩ rfl (fun _ => ?_) (fun _ => ?_)
      · exact fin _ rfl
      · refine xWp.gb rfl trivial rfl (fun _ => ?_) (fun h9 => absurd rfl h9)
        exact fin _ rfl
    · have hok2 : x.2 10 k = nI 2 ∧ cNeeded x C k = false := by
        unfold tkOk at hok
        rw [Bool.and_eq_true] at hok
        refine ⟨of_decide_eq_true hok.1, ?_⟩
        unfold cNeeded
        simpa using hok.2
      have h2 := rStateL h hk (s := 0) (by rw [hok2.1]; decide) (by omega) (by omega)
      have eY : yS y 2 (xk 5 0 * nI k + xk 1 0).toNatClampNeg (xk 0 0) = yS y 2 (5 * k + 1) (nI 0) := by rw [e1]; rfl
      have fall := l_icTkFall (sc := sc) (xc := x) h2 (T := T) (zz := zz) (k := k) (by omega) (by omega) a9 (some (.int (xk 5 0 * nI k))) a11 a12 (fun q1 od1 t1 z1 a15 ht1 hz1 => ?_) N 0 q od t _ (by omega) (by omega) h2
      · rw [← eY] at fall
        refine xWp.gb rfl trivial rfl (fun h9 => absurd h9 (by decide)) (fun _ => ?_)
        exact xWp.go 804 rfl ⟨g1, trivial⟩ fall
      · have hw := w_takeOut (sc := sc) (c_takeOut (sc := sc) (y := wL z1 ++ []) h.inv hk hok2.1 hok2.2 (by omega))
        refine xWp.gc rfl trivial rfl hw (by decide) ?_
        refine xWp.gb rfl trivial rfl (fun h9 => absurd h9 (by decide)) (fun _ => ?_)
        refine xWp.gb rfl trivial rfl (fun _ => ?_) (fun h9 => absurd rfl h9)
        exact xWp.gf rfl trivial rfl (Or.inr (Or.inr rfl)) (lQ.mk (x' := (cDrop N (bitI k) true (sA x 10 k (nI 0)) N).1) (y' := z1) (r' := []) (lAct.mk hz1 (by omega)))
  have fin : ∀ b : Bool, b = tkOk x C k 0 → icA sc T 719 (icG 5 zz k a9 (some (.int (xk 5 0 * nI k))) a11 a12 (some (.int (nI 0))) a14 a15) [.int (bI b)] x y 0 := fun b hb => by
    rw [hb]
    exact xWp.go 724 rfl trivial (l_icTkIn h hk a9 a11 a12 (some (.int (nI 0))) k780)
  refine xWp.gb rfl trivial rfl (fun h9 => absurd h9 (by decide)) (fun _ => ?_)
  refine xWp.gb rfl ⟨g1, trivial⟩ rfl (fun h8 => ?_) (fun h8 => ?_)
  · have h8' : y 2 (xk 5 0 * nI k + xk 1 0).toNatClampNeg = nI 2 := h8
    rw [es] at h8'
    exact xWp.go 719 rfl trivial (fin true (by unfold tkOk; rw [decide_eq_true h8']; rfl))
  · have h8' : ¬ y 2 (xk 5 0 * nI k + xk 1 0).toNatClampNeg = nI 2 := h8
    rw [es] at h8'
    exact xWp.go 719 rfl trivial (fin false (by unfold tkOk; rw [decide_eq_false h8']; rfl))
set_option maxHeartbeats 16000000 in
theorem l_icNew (h : LR N C q od t x y) {T : Nat} (hT : t ≤ T) (hC12 : C < 12) {zz : Nat} (hz : zz < 2 ^ 31) (w : Nat) (a8 a9 a10 a11 a12 a13 a14 a15 : Option Value) : icA sc T 21 [some (.ref 0), some (.ref 15), some (.ref 16), some (.ref 17), some (.ref 18), some (.ref 19), some (.int (nI w)), some (.int (nI zz)), a8, a9, a10, a11, a12, a13, a14, a15] [] x y 0 := by
  have hC : y 4 (xk 1 0).toNatClampNeg = nI C := h.hC
  have n9 : ¬ xk 9 0 = 0 := by decide
  have ev : xk 1 0 + (nI zz - nI zz / xk 9 0 * xk 9 0) = nI (1 + zz % 9) := by
    have e : nI zz - nI zz / xk 9 0 * xk 9 0 = nI (zz % 9) := pk_rem hz (by omega) (by omega)
    rw [e, xk_nI]
  have g0 : vp_in (xk 5 0 * y 4 (xk 1 0).toNatClampNeg) 60 := by rw [hC]; exact in50 (K := 12) (by omega) (by omega)
  have h2 := rChgL h hC12 (nI (1 + zz % 9))
  obtain ⟨Y2, hY2⟩ : ∃ Y2, Y2 = yS (yS y 2 (5 * C) (nI (1 + zz % 9))) 4 1 (nI C + nI 1) := ⟨_, rfl⟩
  rw [← hY2] at h2
  have eY : yS (yS y 2 (xk 5 0 * y 4 (xk 1 0).toNatClampNeg).toNatClampNeg (xk 1 0 + (nI zz - nI zz / xk 9 0 * xk 9 0))) 4 (xk 1 0).toNatClampNeg (y 4 (xk 1 0).toNatClampNeg + xk 1 0) = Y2 := by
    rw [ev, hC, c50 (by omega), hY2]; rfl
  have hv : Y2 2 (xk 5 0 * y 4 (xk 1 0).toNatClampNeg).toNatClampNeg = nI (1 + zz % 9) := by rw [hC, c50 (by omega), hY2, yS_a (by decide), yS_s]
  have hw0 := c_change (sc := sc) (y := wL Y2 ++ []) h.inv.wf (v := nI (1 + zz % 9)) (fun z => by rw [lt_nI (by omega) (by omega)] at z; omega) ((le_nI (a := 1 + zz % 9) (b := 9) (by omega) (by omega)).mpr (by omega)) (by omega)
  rw [← hv] at hw0
  have hw : xCW sc 21 k_X2_change [.ref 0, .int (Y2 2 (xk 5 0 * y 4 (xk 1 0).toNatClampNeg).toNatClampNeg)] (wY x Y2 []) (xIs (.inl (some (.int (nI C)))) (wY (cChg x C (nI (1 + zz % 9))) Y2 [])) := by
    rw [hv] at hw0 ⊢
    exact xCW.up hw0
  have e4 : nI C = Y2 4 (xk 1 0).toNatClampNeg - xk 1 0 := by
    have e : Y2 4 (xk 1 0).toNatClampNeg = nI (C + 1) := by
      show Y2 4 1 = _
      rw [hY2, yS_s, nI_add]
    rw [e]; exact (nI_pre C).symm
  rw [← eY] at hw e4
  refine xWp.gc rfl ⟨inx (by omega) (by omega), n9, g0, inx (by omega) (by omega), inx (by omega) (by omega), g0, trivial⟩ rfl hw (by decide) ?_
  refine xWp.gb rfl ⟨inx (by omega) (by omega), trivial⟩ rfl (fun _ => ?_) (fun h9 => absurd e4 h9)
  rw [eY]
  exact xWp.gf rfl trivial rfl (Or.inr (Or.inr rfl)) (lQ.mk (x' := cChg x C (nI (1 + zz % 9))) (y' := Y2) (r' := []) (lAct.mk h2 hT))
set_option maxHeartbeats 16000000 in
theorem l_isChanged (h : LR N C q od t x y) {T : Nat} (hT : t + 2 * N ≤ T) (hT2 : T ≤ 1000000) {w zz : Nat} (hw : w ≤ 5) (hz : zz < 2 ^ 31) : xCW sc 22 k_L_isChanged [.ref 0, .ref 15, .ref 16, .ref 17, .ref 18, .ref 19, .int (nI w), .int (nI zz)] (wY x y []) (lQ (some (.int (nI 1))) (lAct T)) := by
  have hC12 := h.c
  have hC : y 4 (xk 1 0).toNatClampNeg = nI C := h.hC
  have k14 : icA sc T 14 [some (.ref 0), some (.ref 15), some (.ref 16), some (.ref 17), some (.ref 18), some (.ref 19), some (.int (nI w)), some (.int (nI zz)), none, none, none, none, none, none, none, none] [] x y 0 := by
    refine xWp.gb rfl ⟨inx (by omega) (by omega), trivial⟩ rfl (fun h9 => ?_) (fun h9 => ?_)
    · have h9' : y 4 (xk 1 0).toNatClampNeg = nI 0 := h9
      rw [hC, eq_nI (by omega) (by omega)] at h9'
      exact l_icNew h (by omega) (by omega) hz w _ _ _ _ _ _ _ _
    · have h9' : ¬ y 4 (xk 1 0).toNatClampNeg = nI 0 := h9
      rw [hC, eq_nI (by omega) (by omega)] at h9'
      have nz : ¬ y 4 (xk 1 0).toNatClampNeg = 0 := h9
      have n14 : ¬ xk 14 0 = 0 := by decide
      have n200 : ¬ xk 200 0 = 0 := by decide
      have n3 : ¬ xk 3 0 = 0 := by decide
      have hk : zz % C < C := Nat.mod_lt _ (by omega)
      have hd : zz / 14 % C < C := Nat.mod_lt _ (by omega)
      have ek : nI zz - nI zz / y 4 (xk 1 0).toNatClampNeg * y 4 (xk 1 0).toNatClampNeg = nI (zz % C) := by rw [hC]; exact pk_rem hz (by omega) (by omega)
      have ed : nI zz / xk 14 0 - nI zz / xk 14 0 / y 4 (xk 1 0).toNatClampNeg * y 4 (xk 1 0).toNatClampNeg = nI (zz / 14 % C) := by
        have e : nI zz / xk 14 0 = nI (zz / 14) := pk_div hz (by omega) (by omega)
        rw [hC, e]; exact pk_rem (by omega) (by omega) (by omega)
      have es : y 2 (xk 5 0 * nI (zz % C) + xk 1 0).toNatClampNeg = x.2 10 (zz % C) := by rw [c5 (by omega) (by omega), h.sta (by omega)]
      have g1 : vp_in (xk 5 0 * nI (zz % C) + xk 1 0) 60 := in5 (K := 12) (by omega) (by omega) (by omega)
      have key : ∀ b : Bool, icA sc T 124 (icL w zz (zz % C) (zz / 14 % C) (x.2 10 (zz % C)) b none none none) [] x y 0 := fun b => by
        rcases (show w < 2 ∨ w = 2 ∨ w = 3 ∨ (4 ≤ w ∧ w ≤ 5) by omega) with e | rfl | rfl | ⟨e4, e5⟩
        · exact l_icNeed h (by omega) e hk hd _ _ _
        · exact l_icBroken h (by omega) hk _ _ _
        · exact l_icClash h (by omega) hk hd _ _ _
        · refine xWp.gb rfl trivial rfl (fun _ => ?_) (fun h8 => ?_)
          · refine xWp.gb rfl trivial rfl (fun h8 => ?_) (fun _ => ?_)
            · have h8' : nI w = nI 2 := h8
              rw [eq_nI (by omega) (by omega)] at h8'; omega
            refine xWp.gb rfl trivial rfl (fun h8 => ?_) (fun _ => ?_)
            · have h8' : nI w = nI 3 := h8
              rw [eq_nI (by omega) (by omega)] at h8'; omega
            refine xWp.go 518 rfl trivial ?_
            refine l_icFind h e4 e5 _ _ _ _ _ _ (P := id) (fun k a13 hk' => ?_) C 0 (zz % C) (by omega) hk
            rcases (show w = 4 ∨ w = 5 by omega) with rfl | rfl
            · exact l_icMend h (by omega) hk' _ _ _ _ _ _ _
            · exact l_icTake h hT hT2 hk' _ _ _ _ _ _ _
          · have h8' : ¬ nI 2 ≤ nI w := h8
            rw [le_nI (by omega) (by omega)] at h8'; omega
      have g1' : vp_in (xk 5 0 * (nI zz - nI zz / y 4 (xk 1 0).toNatClampNeg * y 4 (xk 1 0).toNatClampNeg) + xk 1 0) 60 := by rw [ek]; exact g1
      refine xWp.gb rfl ⟨inx (by omega) (by omega), nz, n14, inx (by omega) (by omega), nz, g1', n200, n3, trivial⟩ rfl (fun _ => ?_) (fun _ => ?_)
      · refine xWp.go 124 rfl trivial ?_
        have k := key false
        unfold icA icL at k
        rw [← es, ← ek, ← ed] at k
        exact k
      · refine xWp.go 124 rfl trivial ?_
        have k := key true
        unfold icA icL at k
        rw [← es, ← ek, ← ed] at k
        exact k
  refine xWp.gb rfl trivial rfl (fun _ => ?_) (fun _ => ?_)
  · refine xWp.gb rfl ⟨inx (by omega) (by omega), trivial⟩ rfl (fun h9 => ?_) (fun _ => k14)
    have h9' : y 4 (xk 1 0).toNatClampNeg < nI 12 := h9
    rw [hC, lt_nI (by omega) (by omega)] at h9'
    exact l_icNew h (by omega) h9' hz w _ _ _ _ _ _ _ _
  · exact k14
end LCj
