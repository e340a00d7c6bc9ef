/-! the law mends a change, and takes one out again -/
section LCi
variable {sc : Option (Nat × (Nat → Int32))} {x xc : xX} {y : lY} {N C : Nat} {q od : List Nat} {t : Nat}
def icG (w zz : Nat) (k : Nat) (a9 a10 a11 a12 a13 a14 a15 : Option Value) : xL := [some (.ref 0), some (.ref 15), some (.ref 16), some (.ref 17), some (.ref 18), some (.ref 19), some (.int (nI w)), some (.int (nI zz)), some (.int (nI k)), a9, a10, a11, a12, a13, a14, a15]
set_option maxHeartbeats 16000000 in
/-- some change is looked for; whichever -/
theorem l_icFind (h : LR N C q od t x y) {w zz : Nat} (hw4 : 4 ≤ w) (hw5 : w ≤ 5) (a9 a10 a11 a12 a14 a15 : Option Value) {P : Prop → Prop} {T : Nat} (hP : ∀ k a13, k < C → icA sc T 566 (icG w zz k a9 a10 a11 a12 a13 a14 a15) [] x y 0) : ∀ (m i k : Nat), i + m = C → k < C → icA sc T 518 (icG w zz k a9 a10 a11 a12 (some (.int (nI i))) a14 a15) [] x y 0
  | 0, i, k, hi, hk => by
    have hC := h.c
    refine xWp.gb rfl ⟨inx (by omega) (by omega), trivial⟩ rfl (fun _ => hP k _ hk) (fun h9 => ?_)
    have h9' : ¬ y 4 1 ≤ nI i := h9
    rw [h.hC, le_nI (by omega) (by omega)] at h9'; omega
  | m + 1, i, k, hi, hk => by
    have hC := h.c
    have g1 : vp_in (xk 5 0 * nI k + xk 1 0) 60 := in5 (K := 12) (by omega) (by omega) (by omega)
    have nz : ¬ y 4 (xk 1 0).toNatClampNeg = 0 := by
      have e : y 4 (xk 1 0).toNatClampNeg = nI C := h.hC
      rw [e]; exact nI_ne0 (by omega) (by omega)
    have er : (nI k + xk 1 0) - (nI k + xk 1 0) / y 4 (xk 1 0).toNatClampNeg * y 4 (xk 1 0).toNatClampNeg = nI ((k + 1) % C) := by
      have e : y 4 (xk 1 0).toNatClampNeg = nI C := h.hC
      rw [e, nI_xk]
      exact pk_rem (by omega) (by omega) (by omega)
    have ih := l_icFind h hw4 hw5 a9 a10 a11 a12 a14 a15 (P := P) hP m (i + 1) ((k + 1) % C) (by omega) (Nat.mod_lt _ (by omega))
    unfold icA icG at ih
    rw [nI_s i, ← er] at ih
    refine xWp.gb rfl ⟨inx (by omega) (by omega), trivial⟩ rfl (fun h9 => ?_) (fun _ => ?_)
    · have h9' : y 4 1 ≤ nI i := h9
      rw [h.hC, le_nI (by omega) (by omega)] at h9'; omega
    refine xWp.gb rfl ⟨g1, trivial⟩ rfl (fun _ => ?_) (fun _ => ?_)
    · refine xWp.gb rfl trivial rfl (fun _ => hP k _ hk) (fun _ => ?_)
      exact xWp.go 518 rfl ⟨inx (by omega) (by omega), nz, trivial⟩ ih
    · refine xWp.gb rfl trivial rfl (fun _ => hP k _ hk) (fun _ => ?_)
      exact xWp.go 518 rfl ⟨inx (by omega) (by omega), nz, trivial⟩ ih
set_option maxHeartbeats 16000000 in
theorem l_icMend (h : LR N C q od t x y) {T : Nat} (hT : t ≤ T) {zz k : Nat} (hk : k < C) (a9 a10 a11 a12 a13 a14 a15 : Option Value) : icA sc T 566 (icG 4 zz k a9 a10 a11 a12 a13 a14 a15) [] x y 0 := by
  have hC := h.c
  have hN := h.n
  have g1 : vp_in (xk 5 0 * nI k + xk 1 0) 60 := in5 (K := 12) (by omega) (by omega) (by omega)
  have g2 : vp_in (xk 5 0 * nI k + xk 2 0) 60 := in5 (K := 12) (by omega) (by omega) (by omega)
  have e1 : (xk 5 0 * nI k + xk 1 0).toNatClampNeg = 5 * k + 1 := c5 (by omega) (by omega)
  have e2 : (xk 5 0 * nI k + xk 2 0).toNatClampNeg = 5 * k + 2 := c5 (by omega) (by omega)
  have es : y 2 (xk 5 0 * nI k + xk 1 0).toNatClampNeg = x.2 10 k := by rw [e1, h.sta (by omega)]
  refine xWp.gb rfl trivial rfl (fun _ => ?_) (fun h9 => absurd rfl h9)
  refine xWp.go 584 rfl trivial ?_
  refine xWp.loop N (fun i => (584, icG 4 zz k a9 (some (.int (xk 5 0 * nI k))) a11 a12 (some (.int (nI (cCN x i k)))) (some (.int (nI i))) a15, [], wY x y [], 0)) (fun i hi ih => ?_) ?_
  · have e3 : nI (cCN x (i + 1) k) = nI (cCN x i k) + (y 1 (xk 5 0 * nI i + xk 2 0).toNatClampNeg >>> (nI k &&& 31) &&& xk 1 0) := by
      have e4 : y 1 (xk 5 0 * nI i + xk 2 0).toNatClampNeg = x.2 3 i := by rw [c5 (by omega) (by omega), h.nam (by omega)]
      rw [e4, ← cCN_s]
      congr 1
      exact (sbit (by omega) _).symm
    unfold icG at ih
    rw [nI_s i, e3] at ih
    refine xWp.gb rfl ⟨inx (by omega) (by omega), trivial⟩ rfl (fun h9 => ?_) (fun _ => ?_)
    · have h9' : y 4 0 ≤ nI i := h9
      rw [h.hN, le_nI (by omega) (by omega)] at h9'; omega
    exact xWp.go 584 rfl ⟨in5 (K := 10) (by omega) (by omega) (by omega), trivial⟩ ih
  · refine xWp.gb rfl ⟨inx (by omega) (by omega), trivial⟩ rfl (fun _ => ?_) (fun h9 => ?_)
    · refine xWp.gb rfl ⟨g1, trivial⟩ rfl (fun h8 => ?_) (fun h8 => ?_)
      · have h8' : y 2 (xk 5 0 * nI k + xk 1 0).toNatClampNeg = nI 3 := h8
        rw [es] at h8'
        have h2 := rMendL h hk h8'
        have eY : yS (yS y 2 (xk 5 0 * nI k + xk 1 0).toNatClampNeg (xk 0 0)) 2 (xk 5 0 * nI k + xk 2 0).toNatClampNeg (xk 0 0) = yS (yS y 2 (5 * k + 1) (nI 0)) 2 (5 * k + 2) (nI 0) := by rw [e1, e2]; rfl
        have hw : xCW sc 21 k_L_did [.ref 0, .int (nI 0), .int (nI k)] (wY x (yS (yS y 2 (xk 5 0 * nI k + xk 1 0).toNatClampNeg (xk 0 0)) 2 (xk 5 0 * nI k + xk 2 0).toNatClampNeg (xk 0 0)) []) (xIs (.inl (some (.int (nI (cCN x N k))))) (wY (cMend x k) (yS (yS y 2 (5 * k + 1) (nI 0)) 2 (5 * k + 2) (nI 0)) [])) := by
          rw [eY]; exact w_mend (c_mend h.inv.wf hk h8')
        refine xWp.gb rfl trivial rfl (fun h9 => absurd h9 (by decide)) (fun _ => ?_)
        refine xWp.gb rfl ⟨g1, trivial⟩ rfl (fun h9 => absurd h9 (by decide)) (fun _ => ?_)
        refine xWp.gc rfl ⟨g2, trivial⟩ rfl hw (by decide) ?_
        refine xWp.gb rfl trivial rfl (fun h9 => absurd h9 (by decide)) (fun _ => ?_)
        refine xWp.gb rfl trivial rfl (fun _ => ?_) (fun h9 => absurd rfl h9)
        exact xWp.gf rfl trivial rfl (Or.inr (Or.inr rfl)) (lQ.mk (x' := cMend x k) (y' := yS (yS y 2 (5 * k + 1) (nI 0)) 2 (5 * k + 2) (nI 0)) (r' := []) (lAct.mk h2 hT))
      · have h8' : ¬ y 2 (xk 5 0 * nI k + xk 1 0).toNatClampNeg = nI 3 := h8
        rw [es] at h8'
        have eY : yS (yS y 2 (xk 5 0 * nI k + xk 1 0).toNatClampNeg (y 2 (xk 5 0 * nI k + xk 1 0).toNatClampNeg)) 2 (xk 5 0 * nI k + xk 2 0).toNatClampNeg (yS y 2 (xk 5 0 * nI k + xk 1 0).toNatClampNeg (y 2 (xk 5 0 * nI k + xk 1 0).toNatClampNeg) 2 (xk 5 0 * nI k + xk 2 0).toNatClampNeg) = y := by rw [yS_self, yS_self]
        have hw : xCW sc 21 k_L_did [.ref 0, .int (nI 0), .int (nI k)] (wY x (yS (yS y 2 (xk 5 0 * nI k + xk 1 0).toNatClampNeg (y 2 (xk 5 0 * nI k + xk 1 0).toNatClampNeg)) 2 (xk 5 0 * nI k + xk 2 0).toNatClampNeg (yS y 2 (xk 5 0 * nI k + xk 1 0).toNatClampNeg (y 2 (xk 5 0 * nI k + xk 1 0).toNatClampNeg) 2 (xk 5 0 * nI k + xk 2 0).toNatClampNeg)) []) (xIs (.inl (some (.int (xk 5 1)))) (wY x y [])) := by
          rw [eY]; exact w_mend_1 (c_mend_1 h.inv.wf hk h8')
        refine xWp.gb rfl trivial rfl (fun _ => ?_) (fun h9 => absurd rfl h9)
        refine xWp.gb rfl ⟨g1, g1, trivial⟩ rfl (fun _ => ?_) (fun h9 => absurd rfl h9)
        refine xWp.gc rfl ⟨g2, g2, trivial⟩ rfl hw (by decide) ?_
        refine xWp.gb rfl trivial rfl (fun _ => ?_) (fun h9 => absurd rfl h9)
        refine xWp.gb rfl trivial rfl (fun _ => ?_) (fun h9 => absurd rfl h9)
        exact xWp.gf rfl trivial rfl (Or.inr (Or.inr rfl)) (lQ.mk (x' := x) (y' := y) (r' := []) (lAct.mk h hT))
    · have h9' : ¬ y 4 0 ≤ nI N := h9
      rw [h.hN, le_nI (by omega) (by omega)] at h9'; omega
/-- what is asked before a change is taken out -/
def tkOk (x : xX) (C k i : Nat) : Bool := decide (x.2 10 k = nI 2) && !(anyB (fun j => decide (x.2 10 j = nI 2) && bt (x.2 8 j) k) i)
theorem tkOk_s {k i : Nat} : tkOk x C k (i + 1) = (tkOk x C k i && !(decide (x.2 10 i = nI 2) && bt (x.2 8 i) k)) := by
  unfold tkOk
  have e : anyB (fun j => decide (x.2 10 j = nI 2) && bt (x.2 8 j) k) (i + 1) = (anyB (fun j => decide (x.2 10 j = nI 2) && bt (x.2 8 j) k) i || (decide (x.2 10 i = nI 2) && bt (x.2 8 i) k)) := rfl
  rw [e, Bool.not_or, Bool.and_assoc]
set_option maxHeartbeats 16000000 in
theorem l_icTkIn (h : LR N C q od t x y) {T : Nat} {zz k : Nat} (hk : k < C) (a9 a11 a12 a13 : Option Value) (hP : ∀ a15, icA sc T 780 (icG 5 zz k a9 (some (.int (xk 5 0 * nI k))) a11 a12 a13 (some (.int (bI (tkOk x C k C)))) a15) [] x y 0) : icA sc T 724 (icG 5 zz k a9 (some (.int (xk 5 0 * nI k))) a11 a12 a13 (some (.int (bI (tkOk x C k 0)))) (some (.int (nI 0)))) [] x y 0 := by
  have hC := h.c
  refine xWp.loop C (fun i => (724, icG 5 zz k a9 (some (.int (xk 5 0 * nI k))) a11 a12 a13 (some (.int (bI (tkOk x C k i)))) (some (.int (nI i))), [], wY x y [], 0)) (fun i hi ih => ?_) ?_
  · have g1 : vp_in (xk 5 0 * nI i + xk 1 0) 60 := in5 (K := 12) (by omega) (by omega) (by omega)
    have g3 : vp_in (xk 5 0 * nI i + xk 3 0) 60 := in5 (K := 12) (by omega) (by omega) (by omega)
    have e1 : y 2 (xk 5 0 * nI i + xk 1 0).toNatClampNeg = x.2 10 i := by rw [c5 (by omega) (by omega), h.sta (by omega)]
    have e3 : y 2 (xk 5 0 * nI i + xk 3 0).toNatClampNeg = x.2 8 i := by rw [c5 (by omega) (by omega), h.nee (by omega)]
    unfold icG at ih
    rw [nI_s i, tkOk_s] at ih
    have no : (tkOk x C k i && !(decide (x.2 10 i = nI 2) && bt (x.2 8 i) k)) = false → icA sc T 771 (icG 5 zz k a9 (some (.int (xk 5 0 * nI k))) a11 a12 a13 (some (.int (bI (tkOk x C k i)))) (some (.int (nI i)))) [] x y 0 := fun e => by
      rw [bI_f e] at ih
      exact xWp.go 724 rfl trivial ih
    have yes : (tkOk x C k i && !(decide (x.2 10 i = nI 2) && bt (x.2 8 i) k)) = true → icA sc T 767 (icG 5 zz k a9 (some (.int (xk 5 0 * nI k))) a11 a12 a13 (some (.int (bI (tkOk x C k i)))) (some (.int (nI i)))) [] x y 0 := fun e => by
      rw [bI_t e] at ih
      exact xWp.go 724 rfl trivial ih
    refine xWp.gb rfl ⟨inx (by omega) (by omega), trivial⟩ rfl (fun h9 => ?_) (fun _ => ?_)
    · have h9' : y 4 1 ≤ nI i := h9
      rw [h.hC, le_nI (by omega) (by omega)] at h9'; omega
    refine xWp.gb rfl trivial rfl (fun h8 => ?_) (fun h8 => ?_)
    · rw [bI_0] at h8
      exact no (by rw [h8]; rfl)
    rw [bI_0, Bool.not_eq_false] at h8
    refine xWp.gb rfl ⟨g1, trivial⟩ rfl (fun h7 => ?_) (fun h7 => ?_)
    · have h7' : y 2 (xk 5 0 * nI i + xk 1 0).toNatClampNeg = nI 2 := h7
      rw [e1] at h7'
      refine xWp.gb rfl ⟨g3, trivial⟩ rfl (fun h6 => ?_) (fun h6 => ?_)
      · have h6' : y 2 (xk 5 0 * nI i + xk 3 0).toNatClampNeg >>> (nI k &&& 31) &&& nI 1 = nI 1 := h6
        rw [e3, sbit (by omega)] at h6'
        have hb : bt (x.2 8 i) k = true := by
          cases e : bt (x.2 8 i) k
          · rw [e] at h6'; exact absurd h6' (by decide)
          · rfl
        exact no (by rw [hb, decide_eq_true h7']; simp)
      · have h6' : ¬ y 2 (xk 5 0 * nI i + xk 3 0).toNatClampNeg >>> (nI k &&& 31) &&& nI 1 = nI 1 := h6
        rw [e3, sbit (by omega)] at h6'
        have hb : bt (x.2 8 i) k = false := by
          cases e : bt (x.2 8 i) k
          · rfl
          · rw [e] at h6'; exact absurd rfl h6'
        exact yes (by rw [hb, h8]; simp)
    · have h7' : ¬ y 2 (xk 5 0 * nI i + xk 1 0).toNatClampNeg = nI 2 := h7
      rw [e1] at h7'
      exact yes (by rw [h8, decide_eq_false h7']; rfl)
  · refine xWp.gb rfl ⟨inx (by omega) (by omega), trivial⟩ rfl (fun _ => ?_) (fun h9 => ?_)
    · exact hP _
    · have h9' : ¬ y 4 1 ≤ nI C := h9
      rw [h.hC, le_nI (by omega) (by omega)] at h9'; omega
set_option maxHeartbeats 16000000 in
theorem l_icTkFall {X0 : xX} {y0 : lY} {q0 od0 : List Nat} {t0 : Nat} (h : LR N C q0 od0 t0 X0 y0) (ht : t0 + 2 * N ≤ 1000000) {T : Nat} {zz k : Nat} (hk : k < 32) (a9 a10 a11 a12 : Option Value)
    (hP : ∀ q od t z a15, t ≤ t0 + 2 * N → LR N C q od t (cDrop N (bitI k) true X0 N).1 z → icA sc T 868 (icG 5 zz k a9 a10 a11 a12 (some (.int (nI (cDrop N (bitI k) true X0 N).2))) (some (.int (nI 1))) a15) [] xc z 0) :
    ∀ (m i : Nat) (q od : List Nat) (t : Nat) (z : lY), i + m = N → t ≤ t0 + 2 * i → LR N C q od t (cDrop N (bitI k) true X0 i).1 z → icA sc T 804 (icG 5 zz k a9 a10 a11 a12 (some (.int (nI (cDrop N (bitI k) true X0 i).2))) (some (.int (nI 1))) (some (.int (nI i)))) [] xc z 0
  | 0, i, q, od, t, z, hi, htt, hz => by
    have hN := h.n
    have ei : i = N := by omega
    subst ei
    refine xWp.gb rfl ⟨inx (by omega) (by omega), trivial⟩ rfl (fun _ => ?_) (fun h9 => ?_)
    · exact hP q od t z _ htt hz
    · have h9' : ¬ z 4 0 ≤ nI i := h9
      rw [hz.hN, le_nI (by omega) (by omega)] at h9'; omega
  | m + 1, i, q, od, t, z, hi, htt, hz => by
    have hN := h.n
    have g1 : vp_in (xk 5 0 * nI i + xk 1 0) 50 := in5 (K := 10) (by omega) (by omega) (by omega)
    have g2 : vp_in (xk 5 0 * nI i + xk 2 0) 50 := in5 (K := 10) (by omega) (by omega) (by omega)
    obtain ⟨j, hj, hcol⟩ := hz.col4 i
    have e1 : z 1 (xk 5 0 * nI i + xk 1 0).toNatClampNeg = nI j := by rw [c5 (by omega) (by omega), hz.col (by omega), hcol]
    have e2 : z 1 (xk 5 0 * nI i + xk 2 0).toNatClampNeg = (cDrop N (bitI k) true X0 i).1.2 3 i := by rw [c5 (by omega) (by omega), hz.nam (by omega)]
    have efl : cFl (cDrop N (bitI k) true X0 i).1 (bitI k) true i = (decide (3 ≤ j) && bt ((cDrop N (bitI k) true X0 i).1.2 3 i) k) := by
      unfold cFl
      rw [hcol]
      have a3 : nI j = nI 3 ↔ j = 3 := eq_nI (by omega) (by omega)
      have a4 : nI j = nI 4 ↔ j = 4 := eq_nI (by omega) (by omega)
      have ab := and_bit hk ((cDrop N (bitI k) true X0 i).1.2 3 i)
      have d3 : decide (nI j = nI 3) = decide (j = 3) := decide_eq_decide.mpr a3
      have d4 : decide (nI j = nI 4) = decide (j = 4) := decide_eq_decide.mpr a4
      rw [d3, d4]
      congr 1
      · rw [Bool.true_and, Bool.eq_iff_iff]; simp; omega
      · cases e : bt ((cDrop N (bitI k) true X0 i).1.2 3 i) k
        · exact decide_eq_false (fun z => z (ab.mpr e))
        · exact decide_eq_true (fun z => by rw [ab.mp z] at e; cases e)
    have skip : cFl (cDrop N (bitI k) true X0 i).1 (bitI k) true i = false → icA sc T 862 (icG 5 zz k a9 a10 a11 a12 (some (.int (nI (cDrop N (bitI k) true X0 i).2))) (some (.int (nI 1))) (some (.int (nI i)))) [] xc z 0 := fun e => by
      have es : cDrop N (bitI k) true X0 (i + 1) = cDrop N (bitI k) true X0 i := by rw [cDrop, cDr1, e]
      have ih := l_icTkFall h ht (T := T) (zz := zz) hk a9 a10 a11 a12 hP m (i + 1) q od t z (by omega) (by omega) (by rw [es]; exact hz)
      unfold icA icG at ih
      rw [nI_s i, es] at ih
      exact xWp.go 804 rfl trivial ih
    refine xWp.gb rfl ⟨inx (by omega) (by omega), trivial⟩ rfl (fun h9 => ?_) (fun _ => ?_)
    · have h9' : z 4 0 ≤ nI i := h9
      rw [hz.hN, le_nI (by omega) (by omega)] at h9'; omega
    refine xWp.gb rfl trivial rfl (fun h9 => absurd h9 (by decide)) (fun _ => ?_)
    refine xWp.gb rfl ⟨g1, trivial⟩ rfl (fun h8 => ?_) (fun h8 => ?_)
    · have h8' : z 1 (xk 5 0 * nI i + xk 1 0).toNatClampNeg ≤ nI 2 := h8
      rw [e1, le_nI (by omega) (by omega)] at h8'
      exact skip (by rw [efl, decide_eq_false (by omega)]; rfl)
    · have h8' : ¬ z 1 (xk 5 0 * nI i + xk 1 0).toNatClampNeg ≤ nI 2 := h8
      rw [e1, le_nI (by omega) (by omega)] at h8'
      refine xWp.gb rfl ⟨g2, trivial⟩ rfl (fun h7 => ?_) (fun h7 => ?_)
      · have h7' : z 1 (xk 5 0 * nI i + xk 2 0).toNatClampNeg >>> (nI k &&& 31) &&& nI 1 = nI 1 := h7
        rw [e2, sbit hk] at h7'
        have hb : bt ((cDrop N (bitI k) true X0 i).1.2 3 i) k = true := by
          cases e : bt ((cDrop N (bitI k) true X0 i).1.2 3 i) k
          · rw [e] at h7'; exact absurd h7' (by decide)
          · rfl
        have e : cFl (cDrop N (bitI k) true X0 i).1 (bitI k) true i = true := by rw [efl, hb, decide_eq_true (by omega)]; rfl
        have es : cDrop N (bitI k) true X0 (i + 1) = (cFall N i (cDrop N (bitI k) true X0 i).1, (cDrop N (bitI k) true X0 i).2 + 1) := by rw [cDrop, cDr1, e]
        refine xWp.gm rfl trivial rfl (l_fall 18 hz (k := i) (by omega) (by omega)) (by decide) (fun x1 y1 r1 h6 => ?_)
        obtain ⟨k1, k2, q', od', t', k3, k4⟩ := h6
        rw [k1, k2]
        have ih := l_icTkFall h ht (T := T) (zz := zz) hk a9 a10 a11 a12 hP m (i + 1) q' od' t' y1 (by omega) (by omega) (by rw [es]; exact k4)
        unfold icA icG at ih
        rw [nI_s i, es] at ih
        dsimp only at ih
        rw [nI_s (cDrop N (bitI k) true X0 i).2] at ih
        exact xWp.go 804 rfl trivial ih
      · have h7' : ¬ z 1 (xk 5 0 * nI i + xk 2 0).toNatClampNeg >>> (nI k &&& 31) &&& nI 1 = nI 1 := h7
        rw [e2, sbit hk] at h7'
        have hb : bt ((cDrop N (bitI k) true X0 i).1.2 3 i) k = false := by
          cases e : bt ((cDrop N (bitI k) true X0 i).1.2 3 i) k
          · rfl
          · rw [e] at h7'; exact absurd rfl h7'
        exact skip (by rw [efl, hb, Bool.and_false])
end LCi
