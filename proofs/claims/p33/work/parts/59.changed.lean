/-! the law changes a change: a new one, what it needs, whether it is broken, with what it clashes -/
section LCg
variable {sc : Option (Nat × (Nat → Int32))} {x : xX} {y : lY} {N C : Nat} {q od : List Nat} {t : Nat}
theorem yS_self {y : lY} {a i : Nat} : yS y a i (y a i) = y := funext fun b => by
  unfold yS va_up
  by_cases e : b = a
  · subst e
    rw [if_pos rfl]
    exact funext fun j => by
      by_cases e2 : j = i
      · subst e2; exact pk_us
      · exact pk_un e2
  · rw [if_neg e]
def icL (w zz : Nat) (k d : Nat) (st : Int32) (b : Bool) (a13 a14 a15 : Option Value) : xL := [some (.ref 0), some (.ref 15), some (.ref 16), some (.ref 17), some (.ref 18), some (.ref 19), some (.int (nI w)), some (.int (nI zz)), some (.int (nI k)), some (.int (nI d)), some (.int (xk 5 0 * nI k)), some (.int st), some (.int (bI b)), a13, a14, a15]
abbrev icA (sc : Option (Nat × (Nat → Int32))) (T : Nat) (pc : Nat) (L : xL) (st : List Value) (x : xX) (y : lY) (u : Nat) : Prop := xAt sc k_L_isChanged 21 (lQ (some (.int (nI 1))) (lAct T)) (pc, L, st, wY x y [], u)
theorem lAct.mk (h : LR N C q od t x y) {T : Nat} (hT : t ≤ T) : lAct T x y [] := ⟨rfl, N, C, q, od, t, hT, h⟩
set_option maxHeartbeats 16000000 in
/-- a need that can't be -/
theorem l_icN0 (h : LR N C q od t x y) {T : Nat} (hT : t ≤ T) {w zz k d : Nat} {b : Bool} (hk : k < C) (hd : d < C) (hcan : ¬ x.2 10 k = nI 0 ∨ bt (x.2 8 k) d = true) (a13 a14 a15 : Option Value) : icA sc T 153 (icL w zz k d (x.2 10 k) b a13 a14 a15) [] x y 0 := by
  have hC := h.c
  have g3 : vp_in (xk 5 0 * nI k + xk 3 0) 60 := in5 (K := 12) (by omega) (by omega) (by omega)
  have eY : yS y 2 (xk 5 0 * nI k + xk 3 0).toNatClampNeg (y 2 (xk 5 0 * nI k + xk 3 0).toNatClampNeg ||| xk 0 0) = y := by rw [i32_or0, yS_self]
  refine xWp.gb rfl ⟨g3, trivial⟩ rfl (fun h9 => ?_) (fun h9 => ?_)
  · have h9' : nI k ≤ nI d := h9
    rw [le_nI (by omega) (by omega)] at h9'
    have hw : xCW sc 21 k_L_needed [.ref 0, .int (nI k), .int (nI d)] (wY x (yS y 2 (xk 5 0 * nI k + xk 3 0).toNatClampNeg (y 2 (xk 5 0 * nI k + xk 3 0).toNatClampNeg ||| xk 0 0)) []) (xIs (.inl (some (.int (xk 3 1)))) (wY x y [])) := by
      rw [eY]; exact w_need_0 (c_need_0 h.inv.wf hk hd (by omega))
    refine xWp.gc rfl ⟨g3, trivial⟩ rfl hw (by decide) ?_
    refine xWp.gb rfl trivial rfl (fun h8 => ?_) (fun _ => ?_)
    · have h8' : nI d < nI k := h8
      rw [lt_nI (by omega) (by omega)] at h8'; omega
    refine xWp.gb rfl trivial rfl (fun _ => ?_) (fun h9 => absurd rfl h9)
    exact xWp.gf rfl trivial rfl (Or.inr (Or.inr rfl)) (lQ.mk (x' := x) (y' := y) (r' := []) (lAct.mk h hT))
  · have h9' : ¬ nI k ≤ nI d := h9
    rw [le_nI (by omega) (by omega)] at h9'
    refine xWp.gb rfl trivial rfl (fun _ => ?_) (fun h9 => absurd rfl h9)
    have hw : xCW sc 21 k_L_needed [.ref 0, .int (nI k), .int (nI d)] (wY x (yS y 2 (xk 5 0 * nI k + xk 3 0).toNatClampNeg (y 2 (xk 5 0 * nI k + xk 3 0).toNatClampNeg ||| xk 0 0)) []) (xIs (.inl (some (.int (xk 5 1)))) (wY x y [])) := by
      rw [eY]; exact w_need_1 (c_need_1 h.inv.wf hk (by omega) hcan)
    refine xWp.gc rfl ⟨g3, trivial⟩ rfl hw (by decide) ?_
    refine xWp.gb rfl trivial rfl (fun _ => ?_) (fun h8 => ?_)
    · refine xWp.gb rfl trivial rfl (fun _ => ?_) (fun h9 => absurd rfl h9)
      refine xWp.gb rfl trivial rfl (fun _ => ?_) (fun h9 => absurd rfl h9)
      exact xWp.gf rfl trivial rfl (Or.inr (Or.inr rfl)) (lQ.mk (x' := x) (y' := y) (r' := []) (lAct.mk h hT))
    · have h8' : ¬ nI d < nI k := h8
      rw [lt_nI (by omega) (by omega)] at h8'; omega
set_option maxHeartbeats 16000000 in
/-- a need that can be, of a lower change -/
theorem l_icN1 (h : LR N C q od t x y) {T : Nat} (hT : t ≤ T) {w zz k d : Nat} {b : Bool} (hk : k < C) (hd : d < C) (h0 : x.2 10 k = nI 0) (h1 : bt (x.2 8 k) d = false) (a13 a14 a15 : Option Value) : icA sc T 149 (icL w zz k d (x.2 10 k) b a13 a14 a15) [] x y 0 := by
  have hC := h.c
  have g3 : vp_in (xk 5 0 * nI k + xk 3 0) 60 := in5 (K := 12) (by omega) (by omega) (by omega)
  have en : y 2 (xk 5 0 * nI k + xk 3 0).toNatClampNeg = x.2 8 k := by rw [c5 (by omega) (by omega), h.nee (by omega)]
  have eY : yS y 2 (xk 5 0 * nI k + xk 3 0).toNatClampNeg (y 2 (xk 5 0 * nI k + xk 3 0).toNatClampNeg ||| xk 0 0) = y := by rw [i32_or0, yS_self]
  refine xWp.gb rfl ⟨g3, trivial⟩ rfl (fun h9 => ?_) (fun h9 => ?_)
  · have h9' : nI k ≤ nI d := h9
    rw [le_nI (by omega) (by omega)] at h9'
    have hw : xCW sc 21 k_L_needed [.ref 0, .int (nI k), .int (nI d)] (wY x (yS y 2 (xk 5 0 * nI k + xk 3 0).toNatClampNeg (y 2 (xk 5 0 * nI k + xk 3 0).toNatClampNeg ||| xk 0 0)) []) (xIs (.inl (some (.int (xk 3 1)))) (wY x y [])) := by
      rw [eY]; exact w_need_0 (c_need_0 h.inv.wf hk hd (by omega))
    refine xWp.gc rfl ⟨g3, trivial⟩ rfl hw (by decide) ?_
    refine xWp.gb rfl trivial rfl (fun h8 => ?_) (fun _ => ?_)
    · have h8' : nI d < nI k := h8
      rw [lt_nI (by omega) (by omega)] at h8'; omega
    refine xWp.gb rfl trivial rfl (fun _ => ?_) (fun h9 => absurd rfl h9)
    exact xWp.gf rfl trivial rfl (Or.inr (Or.inr rfl)) (lQ.mk (x' := x) (y' := y) (r' := []) (lAct.mk h hT))
  · have h9' : ¬ nI k ≤ nI d := h9
    rw [le_nI (by omega) (by omega)] at h9'
    have h2 := rNeedL h hk (d := d) (by omega)
    refine xWp.gb rfl trivial rfl (fun h9 => absurd h9 (by decide)) (fun _ => ?_)
    have e2 : yS y 2 (xk 5 0 * nI k + xk 3 0).toNatClampNeg (y 2 (xk 5 0 * nI k + xk 3 0).toNatClampNeg ||| xk 1 0 <<< (nI d &&& 31)) = yS y 2 (5 * k + 3) (wth (x.2 8 k) d true) := by
      rw [en, c5 (by omega) (by omega)]; rfl
    have hw : xCW sc 21 k_L_needed [.ref 0, .int (nI k), .int (nI d)] (wY x (yS y 2 (xk 5 0 * nI k + xk 3 0).toNatClampNeg (y 2 (xk 5 0 * nI k + xk 3 0).toNatClampNeg ||| xk 1 0 <<< (nI d &&& 31))) []) (xIs (.inl (some (.int (nI (fb_ct (bt (wth (x.2 8 k) d true)) 32))))) (wY (cNeed x k d) (yS y 2 (5 * k + 3) (wth (x.2 8 k) d true)) [])) := by
      rw [e2]; exact w_need (c_need h.inv.wf hk (by omega) h0 h1)
    refine xWp.gc rfl ⟨g3, trivial⟩ rfl hw (by decide) ?_
    refine xWp.gb rfl trivial rfl (fun _ => ?_) (fun h8 => ?_)
    · refine xWp.gb rfl trivial rfl (fun h9 => absurd h9 (by decide)) (fun _ => ?_)
      have ho : xCW sc 21 k_L_ones [.int (yS y 2 (5 * k + 3) (wth (x.2 8 k) d true) 2 (xk 5 0 * nI k + xk 3 0).toNatClampNeg)] (wY (cNeed x k d) (yS y 2 (5 * k + 3) (wth (x.2 8 k) d true)) []) (xIs (.inl (some (.int (nI (fb_ct (bt (wth (x.2 8 k) d true)) 32))))) (wY (cNeed x k d) (yS y 2 (5 * k + 3) (wth (x.2 8 k) d true)) [])) := by
        rw [c5 (by omega) (by omega), yS_s]; exact l_ones 20 _ _
      refine xWp.gc rfl ⟨g3, trivial⟩ rfl ho (by decide) ?_
      refine xWp.gb rfl trivial rfl (fun _ => ?_) (fun h9 => absurd rfl h9)
      exact xWp.gf rfl trivial rfl (Or.inr (Or.inr rfl)) (lQ.mk (x' := cNeed x k d) (y' := yS y 2 (5 * k + 3) (wth (x.2 8 k) d true)) (r' := []) (lAct.mk h2 hT))
    · have h8' : ¬ nI d < nI k := h8
      rw [lt_nI (by omega) (by omega)] at h8'; omega
set_option maxHeartbeats 16000000 in
theorem l_icNeed (h : LR N C q od t x y) {T : Nat} (hT : t ≤ T) {w zz k d : Nat} {b : Bool} (hw : w < 2) (hk : k < C) (hd : d < C) (a13 a14 a15 : Option Value) : icA sc T 124 (icL w zz k d (x.2 10 k) b a13 a14 a15) [] x y 0 := by
  have hC := h.c
  have g3 : vp_in (xk 5 0 * nI k + xk 3 0) 60 := in5 (K := 12) (by omega) (by omega) (by omega)
  have en : y 2 (xk 5 0 * nI k + xk 3 0).toNatClampNeg = x.2 8 k := by rw [c5 (by omega) (by omega), h.nee (by omega)]
  refine xWp.gb rfl trivial rfl (fun h9 => ?_) (fun _ => ?_)
  · have h9' : nI 2 ≤ nI w := h9
    rw [le_nI (by omega) (by omega)] at h9'; omega
  refine xWp.gb rfl trivial rfl (fun h8 => ?_) (fun h8 => ?_)
  · have h8' : x.2 10 k = nI 0 := h8
    refine xWp.gb rfl ⟨g3, trivial⟩ rfl (fun h7 => ?_) (fun h7 => ?_)
    · have h7' : y 2 (xk 5 0 * nI k + xk 3 0).toNatClampNeg >>> (nI d &&& 31) &&& nI 1 = 0 := h7
      rw [en, sbit (by omega), bI_0] at h7'
      exact l_icN1 h hT hk hd h8' h7' _ _ _
    · have h7' : ¬ y 2 (xk 5 0 * nI k + xk 3 0).toNatClampNeg >>> (nI d &&& 31) &&& nI 1 = 0 := h7
      rw [en, sbit (by omega), bI_0, Bool.not_eq_false] at h7'
      exact l_icN0 h hT hk hd (Or.inr h7') _ _ _
  · exact l_icN0 h hT hk hd (Or.inl h8) _ _ _
end LCg
