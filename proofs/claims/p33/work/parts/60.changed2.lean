/-! the law breaks a change, and lets two clash -/
section LCh
variable {sc : Option (Nat × (Nat → Int32))} {x x2 : xX} {y : lY} {N C : Nat} {q od : List Nat} {t : Nat}
set_option maxHeartbeats 16000000 in
theorem l_icB3 {T : Nat} {zz k d : Nat} {b : Bool} {st R had : Int32} {y2 : lY} (hl : lAct T x2 y2 []) (hc : (st = nI 2 ∧ R = xk 5 1) ∨ (¬ st = nI 2 ∧ R = had)) (a14 a15 : Option Value) : icA sc T 312 (icL 2 zz k d st b (some (.int had)) a14 a15) [.int R] x2 y2 2 := by
  rcases hc with ⟨h1, h2⟩ | ⟨h1, h2⟩
  · refine xWp.gb rfl trivial rfl (fun _ => ?_) (fun h9 => absurd h1 h9)
    refine xWp.gb rfl trivial rfl (fun _ => ?_) (fun h9 => absurd h2 h9)
    exact xWp.gf rfl trivial rfl (Or.inr (Or.inr rfl)) (lQ.mk (x' := x2) (y' := y2) (r' := []) hl)
  · refine xWp.gb rfl trivial rfl (fun h9 => absurd h9 h1) (fun _ => ?_)
    refine xWp.gb rfl trivial rfl (fun _ => ?_) (fun h9 => absurd h2 h9)
    exact xWp.gf rfl trivial rfl (Or.inr (Or.inr rfl)) (lQ.mk (x' := x2) (y' := y2) (r' := []) hl)
/-- what the script says of being broken -/
def icE (zz : Nat) : Int32 := nI zz / xk 600 0 - nI zz / xk 600 0 / xk 2 0 * xk 2 0
set_option maxHeartbeats 16000000 in
theorem l_icB2 {T : Nat} {zz k d : Nat} {b : Bool} {st R had : Int32} {y2 : lY} (hw : xCW sc 21 k_L_broke [.ref 0, .int (nI k), .int (bI (b && decide (icE zz = 0)))] (wY x y2 []) (xIs (.inl (some (.int R))) (wY x2 y2 []))) (hl : lAct T x2 y2 []) (hc : (st = nI 2 ∧ R = xk 5 1) ∨ (¬ st = nI 2 ∧ R = had)) (a14 a15 : Option Value) : icA sc T 285 (icL 2 zz k d st b (some (.int had)) a14 a15) [] x y2 0 := by
  have n600 : ¬ xk 600 0 = 0 := by decide
  have n2 : ¬ xk 2 0 = 0 := by decide
  cases b
  · refine xWp.gb rfl trivial rfl (fun _ => ?_) (fun h9 => absurd rfl h9)
    refine xWp.gc rfl trivial rfl hw (by decide) ?_
    exact l_icB3 hl hc _ _
  · refine xWp.gb rfl trivial rfl (fun h9 => absurd h9 (by decide)) (fun _ => ?_)
    refine xWp.gb rfl ⟨n600, n2, trivial⟩ rfl (fun h9 => ?_) (fun h9 => ?_)
    · have h9' : icE zz = 0 := h9
      rw [decide_eq_true h9'] at hw
      refine xWp.gc rfl trivial rfl hw (by decide) ?_
      exact l_icB3 hl hc _ _
    · have h9' : ¬ icE zz = 0 := h9
      rw [decide_eq_false h9'] at hw
      refine xWp.gc rfl trivial rfl hw (by decide) ?_
      exact l_icB3 hl hc _ _
set_option maxHeartbeats 16000000 in
theorem l_icBroken (h : LR N C q od t x y) {T : Nat} (hT : t ≤ T) {zz k d : Nat} {b : Bool} (hk : k < C) (a13 a14 a15 : Option Value) : icA sc T 124 (icL 2 zz k d (x.2 10 k) b a13 a14 a15) [] x y 0 := by
  have hC := h.c
  have g2 : vp_in (xk 5 0 * nI k + xk 2 0) 60 := in5 (K := 12) (by omega) (by omega) (by omega)
  have eb : y 2 (xk 5 0 * nI k + xk 2 0).toNatClampNeg = bI (bt (x.1 3) k) := by rw [c5 (by omega) (by omega), h.bro (by omega)]
  have n600 : ¬ xk 600 0 = 0 := by decide
  have n2 : ¬ xk 2 0 = 0 := by decide
  refine xWp.gb rfl trivial rfl (fun _ => ?_) (fun h9 => absurd (show nI 2 ≤ nI 2 by decide) h9)
  refine xWp.gb rfl trivial rfl (fun _ => ?_) (fun h9 => absurd rfl h9)
  refine xWp.gb rfl ⟨g2, trivial⟩ rfl (fun h8 => ?_) (fun h8 => ?_)
  · have h8' : x.2 10 k = nI 2 := h8
    have hw : ∀ v, xCW sc 21 k_L_broke [.ref 0, .int (nI k), .int v] (wY x (yS y 2 (xk 5 0 * nI k + xk 2 0).toNatClampNeg (y 2 (xk 5 0 * nI k + xk 2 0).toNatClampNeg)) []) (xIs (.inl (some (.int (xk 5 1)))) (wY x (yS y 2 (xk 5 0 * nI k + xk 2 0).toNatClampNeg (y 2 (xk 5 0 * nI k + xk 2 0).toNatClampNeg)) [])) := fun v => w_setBroken_1 (c_setBroken_1 h.inv.wf hk h8')
    refine xWp.go 285 rfl ⟨g2, trivial⟩ ?_
    exact l_icB2 (hw _) (by rw [yS_self]; exact lAct.mk h hT) (Or.inl ⟨h8', rfl⟩) _ _
  · have h8' : ¬ x.2 10 k = nI 2 := h8
    have fin : ∀ fb : Bool, fb = (b && decide (icE zz = 0)) → icA sc T 285 (icL 2 zz k d (x.2 10 k) b (some (.int (y 2 (xk 5 0 * nI k + xk 2 0).toNatClampNeg))) a14 a15) [] x (yS y 2 (xk 5 0 * nI k + xk 2 0).toNatClampNeg (bI fb)) 0 := fun fb hfb => by
      have e1 : yS y 2 (xk 5 0 * nI k + xk 2 0).toNatClampNeg (bI fb) = yS y 2 (5 * k + 2) (bI fb) := by rw [c5 (by omega) (by omega)]
      have h1 := rBrkL h hk fb
      have hw := w_setBroken (sc := sc) (c_setBroken (sc := sc) (y := wL (yS y 2 (5 * k + 2) (bI fb)) ++ []) (b := bI fb) h.inv.wf hk h8')
      rw [bI_ne] at hw
      rw [e1, eb]
      refine l_icB2 (x2 := cBrk x k fb) (R := bI (bt (x.1 3) k)) ?_ (lAct.mk h1 hT) (Or.inr ⟨h8', rfl⟩) _ _
      rw [← hfb]
      exact hw
    cases b
    · refine xWp.gb rfl trivial rfl (fun _ => ?_) (fun h9 => absurd rfl h9)
      refine xWp.go 285 rfl ⟨g2, trivial⟩ ?_
      exact fin false rfl
    · refine xWp.gb rfl trivial rfl (fun h9 => absurd h9 (by decide)) (fun _ => ?_)
      refine xWp.gb rfl ⟨n600, n2, trivial⟩ rfl (fun h9 => ?_) (fun h9 => ?_)
      · have h9' : icE zz = 0 := h9
        refine xWp.go 285 rfl ⟨g2, trivial⟩ ?_
        exact fin true (by rw [decide_eq_true h9']; rfl)
      · have h9' : ¬ icE zz = 0 := h9
        refine xWp.go 285 rfl ⟨g2, trivial⟩ ?_
        exact fin false (by rw [decide_eq_false h9']; rfl)
set_option maxHeartbeats 16000000 in
theorem l_icC2 {T : Nat} {zz k d : Nat} {b bo : Bool} {st R had : Int32} {y2 : lY} (hk : k ≤ 100) (hd : d ≤ 100) (hw : xCW sc 21 k_L_clashed [.ref 0, .int (nI k), .int (nI d), .int (bI b)] (wY x y2 []) (xIs (.inl (some (.int R))) (wY x2 y2 []))) (hl : lAct T x2 y2 []) (hc : (k = d ∧ R = xk 3 1) ∨ (k ≠ d ∧ ((bo = true ∧ R = xk 5 1) ∨ (bo = false ∧ R = had)))) (a15 : Option Value) : icA sc T 472 (icL 3 zz k d st b (some (.int had)) (some (.int (bI bo))) a15) [] x y2 0 := by
  refine xWp.gc rfl trivial rfl hw (by decide) ?_
  rcases hc with ⟨h1, h2⟩ | ⟨h1, h2⟩
  · refine xWp.gb rfl trivial rfl (fun _ => ?_) (fun h9 => absurd (by rw [h1]) h9)
    refine xWp.gb rfl trivial rfl (fun _ => ?_) (fun h9 => absurd h2 h9)
    exact xWp.gf rfl trivial rfl (Or.inr (Or.inr rfl)) (lQ.mk (x' := x2) (y' := y2) (r' := []) hl)
  · refine xWp.gb rfl trivial rfl (fun h9 => absurd ((eq_nI (by omega) (by omega)).mp h9) h1) (fun _ => ?_)
    rcases h2 with ⟨h2, h3⟩ | ⟨h2, h3⟩
    · subst h2
      refine xWp.gb rfl trivial rfl (fun h9 => absurd h9 (by decide)) (fun _ => ?_)
      refine xWp.gb rfl trivial rfl (fun _ => ?_) (fun h9 => absurd h3 h9)
      exact xWp.gf rfl trivial rfl (Or.inr (Or.inr rfl)) (lQ.mk (x' := x2) (y' := y2) (r' := []) hl)
    · subst h2
      refine xWp.gb rfl trivial rfl (fun _ => ?_) (fun h9 => absurd rfl h9)
      refine xWp.gb rfl trivial rfl (fun _ => ?_) (fun h9 => absurd h3 h9)
      exact xWp.gf rfl trivial rfl (Or.inr (Or.inr rfl)) (lQ.mk (x' := x2) (y' := y2) (r' := []) hl)
set_option maxHeartbeats 16000000 in
theorem l_icC1 (h : LR N C q od t x y) {T : Nat} (hT : t ≤ T) {zz k d : Nat} {b bo : Bool} (hk : k < C) (hd : d < C) (hbo : bo = true ↔ (x.2 10 k = nI 2 ∧ x.2 10 d = nI 2)) (a15 : Option Value) : icA sc T 378 (icL 3 zz k d (x.2 10 k) b (some (.int (bI (bt (x.2 9 k) d)))) (some (.int (bI bo))) a15) [] x y 0 := by
  have hC := h.c
  have g4 : vp_in (xk 5 0 * nI k + xk 4 0) 60 := in5 (K := 12) (by omega) (by omega) (by omega)
  have g4d : vp_in (xk 5 0 * nI d + xk 4 0) 60 := in5 (K := 12) (by omega) (by omega) (by omega)
  have ek : y 2 (xk 5 0 * nI k + xk 4 0).toNatClampNeg = x.2 9 k := by rw [c5 (by omega) (by omega), h.cla (by omega)]
  have ei : (xk 5 0 * nI k + xk 4 0).toNatClampNeg = 5 * k + 4 := c5 (by omega) (by omega)
  have ej : (xk 5 0 * nI d + xk 4 0).toNatClampNeg = 5 * d + 4 := c5 (by omega) (by omega)
  by_cases e : k = d
  · refine xWp.gb rfl trivial rfl (fun _ => ?_) (fun h9 => absurd (by rw [e]) h9)
    have hw := w_setClash_0 (sc := sc) (c_setClash_0 (sc := sc) (y := wL y ++ []) (b := bI b) h.inv.wf hk)
    refine l_icC2 (x2 := x) (R := xk 3 1) (by omega) (by omega) ?_ (lAct.mk h hT) (Or.inl ⟨e, rfl⟩) _
    rw [← e]; exact hw
  · refine xWp.gb rfl trivial rfl (fun h9 => absurd ((eq_nI (by omega) (by omega)).mp h9) e) (fun _ => ?_)
    cases bo
    · have hno : ¬ (x.2 10 k = nI 2 ∧ x.2 10 d = nI 2) := fun z => by have := hbo.mpr z; cases this
      have hw := w_setClash (sc := sc) (c_setClash (sc := sc) (y := wL (yS (yS y 2 (5 * k + 4) (wth (x.2 9 k) d b)) 2 (5 * d + 4) (wth (x.2 9 d) k b)) ++ []) (b := bI b) h.inv.wf hk hd e hno)
      rw [bI_ne] at hw
      have h1 := rClashL h hk hd e b
      have fin : ∀ st, icA sc T 472 (icL 3 zz k d st b (some (.int (bI (bt (x.2 9 k) d)))) (some (.int (bI false))) a15) [] x (yS (yS y 2 (5 * k + 4) (wth (x.2 9 k) d b)) 2 (5 * d + 4) (wth (x.2 9 d) k b)) 0 := fun st => l_icC2 (x2 := cClash x k d b) (R := bI (bt (x.2 9 k) d)) (by omega) (by omega) hw (lAct.mk h1 hT) (Or.inr ⟨e, Or.inr ⟨rfl, rfl⟩⟩) _
      have ed : ∀ v, yS y 2 (5 * k + 4) v 2 (xk 5 0 * nI d + xk 4 0).toNatClampNeg = x.2 9 d := fun v => by rw [ej, yS_i (by omega), h.cla (by omega)]
      refine xWp.gb rfl trivial rfl (fun _ => ?_) (fun h9 => absurd rfl h9)
      cases b
      · have eY : yS (yS y 2 (xk 5 0 * nI k + xk 4 0).toNatClampNeg (y 2 (xk 5 0 * nI k + xk 4 0).toNatClampNeg &&& (xk 1 0 <<< (nI d &&& 31) ^^^ xk 1 1))) 2 (xk 5 0 * nI d + xk 4 0).toNatClampNeg (yS y 2 (xk 5 0 * nI k + xk 4 0).toNatClampNeg (y 2 (xk 5 0 * nI k + xk 4 0).toNatClampNeg &&& (xk 1 0 <<< (nI d &&& 31) ^^^ xk 1 1)) 2 (xk 5 0 * nI d + xk 4 0).toNatClampNeg &&& (xk 1 0 <<< (nI k &&& 31) ^^^ xk 1 1)) = yS (yS y 2 (5 * k + 4) (wth (x.2 9 k) d false)) 2 (5 * d + 4) (wth (x.2 9 d) k false) := by
          rw [ek, ei, ed, ej]; rfl
        have f := fin (x.2 10 k)
        rw [← eY] at f
        refine xWp.gb rfl trivial rfl (fun _ => ?_) (fun h9 => absurd rfl h9)
        refine xWp.gb rfl ⟨g4, g4, trivial⟩ rfl (fun _ => ?_) (fun h9 => absurd rfl h9)
        exact xWp.go 472 rfl ⟨g4d, g4d, trivial⟩ f
      · have eY : yS (yS y 2 (xk 5 0 * nI k + xk 4 0).toNatClampNeg (y 2 (xk 5 0 * nI k + xk 4 0).toNatClampNeg ||| xk 1 0 <<< (nI d &&& 31))) 2 (xk 5 0 * nI d + xk 4 0).toNatClampNeg (yS y 2 (xk 5 0 * nI k + xk 4 0).toNatClampNeg (y 2 (xk 5 0 * nI k + xk 4 0).toNatClampNeg ||| xk 1 0 <<< (nI d &&& 31)) 2 (xk 5 0 * nI d + xk 4 0).toNatClampNeg ||| xk 1 0 <<< (nI k &&& 31)) = yS (yS y 2 (5 * k + 4) (wth (x.2 9 k) d true)) 2 (5 * d + 4) (wth (x.2 9 d) k true) := by
          rw [ek, ei, ed, ej]; rfl
        have f := fin (x.2 10 k)
        rw [← eY] at f
        refine xWp.gb rfl trivial rfl (fun h9 => absurd h9 (by decide)) (fun _ => ?_)
        refine xWp.gb rfl ⟨g4, g4, trivial⟩ rfl (fun h9 => absurd h9 (by decide)) (fun _ => ?_)
        exact xWp.go 472 rfl ⟨g4d, g4d, trivial⟩ f
    · obtain ⟨hk2, hd2⟩ := hbo.mp rfl
      have hw := w_setClash_1 (sc := sc) (c_setClash_1 (sc := sc) (y := wL y ++ []) (b := bI b) h.inv.wf hk hd e hk2 hd2)
      refine xWp.gb rfl trivial rfl (fun h9 => absurd h9 (by decide)) (fun _ => ?_)
      exact l_icC2 (x2 := x) (R := xk 5 1) (by omega) (by omega) hw (lAct.mk h hT) (Or.inr ⟨e, Or.inl ⟨rfl, rfl⟩⟩) _
set_option maxHeartbeats 16000000 in
theorem l_icClash (h : LR N C q od t x y) {T : Nat} (hT : t ≤ T) {zz k d : Nat} {b : Bool} (hk : k < C) (hd : d < C) (a13 a14 a15 : Option Value) : icA sc T 124 (icL 3 zz k d (x.2 10 k) b a13 a14 a15) [] x y 0 := by
  have hC := h.c
  have g4 : vp_in (xk 5 0 * nI k + xk 4 0) 60 := in5 (K := 12) (by omega) (by omega) (by omega)
  have g1d : vp_in (xk 5 0 * nI d + xk 1 0) 60 := in5 (K := 12) (by omega) (by omega) (by omega)
  have eh : y 2 (xk 5 0 * nI k + xk 4 0).toNatClampNeg >>> (nI d &&& 31) &&& xk 1 0 = bI (bt (x.2 9 k) d) := by
    rw [c5 (by omega) (by omega), h.cla (by omega)]; exact sbit (by omega) _
  have es : y 2 (xk 5 0 * nI d + xk 1 0).toNatClampNeg = x.2 10 d := by rw [c5 (by omega) (by omega), h.sta (by omega)]
  refine xWp.gb rfl trivial rfl (fun _ => ?_) (fun h9 => absurd (show nI 2 ≤ nI 3 by decide) h9)
  refine xWp.gb rfl trivial rfl (fun h9 => absurd h9 (by decide)) (fun _ => ?_)
  refine xWp.gb rfl trivial rfl (fun _ => ?_) (fun h9 => absurd rfl h9)
  have fin : ∀ bo : Bool, (bo = true ↔ (x.2 10 k = nI 2 ∧ x.2 10 d = nI 2)) → icA sc T 378 (icL 3 zz k d (x.2 10 k) b (some (.int (y 2 (xk 5 0 * nI k + xk 4 0).toNatClampNeg >>> (nI d &&& 31) &&& xk 1 0))) (some (.int (bI bo))) a15) [] x y 0 := fun bo hbo => by
    rw [eh]; exact l_icC1 h hT hk hd hbo _
  refine xWp.gb rfl ⟨g4, trivial⟩ rfl (fun h8 => ?_) (fun h8 => ?_)
  · have h8' : x.2 10 k = nI 2 := h8
    refine xWp.gb rfl ⟨g1d, trivial⟩ rfl (fun h7 => ?_) (fun h7 => ?_)
    · have h7' : y 2 (xk 5 0 * nI d + xk 1 0).toNatClampNeg = nI 2 := h7
      rw [es] at h7'
      exact xWp.go 378 rfl trivial (fin true (by simp [h8', h7']))
    · have h7' : ¬ y 2 (xk 5 0 * nI d + xk 1 0).toNatClampNeg = nI 2 := h7
      rw [es] at h7'
      exact xWp.go 378 rfl trivial (fin false (by simp [h7']))
  · have h8' : ¬ x.2 10 k = nI 2 := h8
    exact xWp.go 378 rfl trivial (fin false (by simp [h8']))
end LCh
