/-! the law pushes back, and lets fall, whole -/
section LPx
variable {sc : Option (Nat × (Nat → Int32))} {x xc : xX} {y : lY} {r : xW} {N C : Nat} {q od : List Nat} {t : Nat}
theorem lSg.up {T T' : Nat} {x' : xX} (hT : T ≤ T') : ∀ {x1 : xX} {y1 : lY} {r1 : xW}, lSg N C T xc x' r x1 y1 r1 → lSg N C T' xc x' r x1 y1 r1 := fun ⟨h1, h2, q', od', t', h3, h4⟩ => ⟨h1, h2, q', od', t', Nat.le_trans h3 hT, h4⟩
set_option maxHeartbeats 16000000 in
theorem l_pushLoop (n : Nat) (a0 : Int32) : ∀ (a : Nat) {x : xX} {y : lY} {q od : List Nat} {t : Nat} (z7 z8 : Option Value) {P : xX → lY → xW → Prop}, LR N C q od t x y → a ≤ 3 → t + a ≤ 1000000 → (∀ x1 y1 r1, lSg N C (t + a) xc (cPush N a x) r x1 y1 r1 → P x1 y1 r1) → xAt sc k_L_push (n + 1) (lQ none P) (4, [some (.ref 15), some (.ref 16), some (.ref 17), some (.ref 18), some (.ref 19), some (.int a0), some (.int (nI a)), z7, z8], [], wY xc y r, 0)
  | 0, x, y, q, od, t, z7, z8, P, h, _, _, hP => by
    refine xWp.gb rfl trivial rfl (fun _ => ?_) (fun h9 => absurd (by decide) h9)
    exact xWp.gf rfl trivial rfl trivial (lQ.mk (hP _ _ _ ⟨rfl, rfl, q, od, t, by omega, h⟩))
  | a + 1, x, y, q, od, t, z7, z8, P, h, ha, ht, hP => by
    have hN := h.n
    refine xWp.gb rfl trivial rfl (fun h9 => ?_) (fun _ => ?_)
    · have h9' : nI (a + 1) ≤ nI 0 := h9
      rw [le_nI (by omega) (by omega)] at h9'
      omega
    obtain ⟨l, l1, l9, hl⟩ := h.inv.lim (j := a + 1) (by omega) (by omega)
    have hab := cAb_of h.inv (a := a) (l := l) (by omega) hl l9
    have hs := cSz_le (x := x) (N := N) (nI (a + 1))
    have el : y 4 (xk 3 0 + nI (a + 1)).toNatClampNeg = nI l := by rw [xk_nI, cl_nI (by omega), h.lim (by omega) (by omega), hl]
    refine xWp.gc rfl trivial rfl (l_countR n h (nI (a + 1))) (by decide) ?_
    rw [cPush] at hP
    refine xWp.gb rfl ⟨inA (by omega) (by omega), trivial⟩ rfl (fun h8 => ?_) (fun h8 => ?_)
    · have h8' : nI (cSz x N (nI (a + 1))) ≤ y 4 (xk 3 0 + nI (a + 1)).toNatClampNeg := h8
      rw [el, le_nI (by omega) (by omega)] at h8'
      have e : cAb x N (nI (a + 1)) = false := by rw [hab]; simp; omega
      rw [e] at hP
      exact xWp.gf rfl trivial rfl trivial (lQ.mk (hP _ _ _ ⟨rfl, rfl, q, od, t, by omega, h⟩))
    · have h8' : ¬ nI (cSz x N (nI (a + 1))) ≤ y 4 (xk 3 0 + nI (a + 1)).toNatClampNeg := h8
      rw [el, le_nI (by omega) (by omega)] at h8'
      have e : cAb x N (nI (a + 1)) = true := by rw [hab]; simp; omega
      rw [e] at hP
      obtain ⟨k1, k2, k3, k4⟩ := h.inv.low (col := nI (a + 1)) (by omega)
      refine xWp.go 33 rfl trivial ?_
      refine l_lowLoop (n + 1) h a0 (a + 1) (fun v z8 hv => ?_) N 0 (xk 1 1) (by omega) (Or.inl ⟨rfl, fun b hb => by simp at hb⟩)
      rw [lLow_end h (by omega) hv]
      have e4 : (xk 5 0 * nI (cLow x N (nI (a + 1))) + xk 4 0).toNatClampNeg = 5 * cLow x N (nI (a + 1)) + 4 := c5 (by omega) (by omega)
      have hp : y 1 (xk 5 0 * nI (cLow x N (nI (a + 1))) + xk 4 0).toNatClampNeg + xk 1 0 = x.2 5 (cLow x N (nI (a + 1))) + nI 1 := by rw [e4, h.pus (by omega)]; rfl
      have h' : cInv N C q t (sA x 5 (cLow x N (nI (a + 1))) (x.2 5 (cLow x N (nI (a + 1))) + nI 1)) := h.inv
      have h2 := h.setCard (k := cLow x N (nI (a + 1))) (i := 4) (ro := 5) (Or.inr (Or.inl ⟨rfl, rfl⟩)) _ h'
      have hc := l_come (sc := sc) (r := r) (xc := xc) n h2 k1 (j := a) (by omega) (by omega)
      rw [← e4, ← hp] at hc
      have hpre := nI_pre a
      have hc' : xCW sc (n + 1) k_L_come [.ref 15, .ref 16, .ref 17, .ref 18, .ref 19, .int (nI (cLow x N (nI (a + 1)))), .int (nI (a + 1) - xk 1 0)] (wY xc (yS y 1 (xk 5 0 * nI (cLow x N (nI (a + 1))) + xk 4 0).toNatClampNeg (y 1 (xk 5 0 * nI (cLow x N (nI (a + 1))) + xk 4 0).toNatClampNeg + xk 1 0)) r) (lQ none (lSh N C (t + 1) xc (cPsh1 N a x) r)) := by
        rw [hpre]
        unfold cPsh1
        rw [← hp]
        exact hc
      have gk : vp_in (xk 5 0 * nI (cLow x N (nI (a + 1))) + xk 4 0) 50 := in5 (K := 10) (by omega) (by omega) (by omega)
      refine xWp.gm rfl ⟨gk, gk, trivial⟩ rfl hc' (by decide) (fun x1 y1 r1 h3 => ?_)
      obtain ⟨e1, e2, q1, od1, h4⟩ := h3
      rw [e1, e2]
      refine xWp.go 4 rfl trivial ?_
      rw [nI_dec]
      exact l_pushLoop n a0 a _ _ h4 (by omega) (by omega) (fun x2 y2 r2 h5 => hP x2 y2 r2 (lSg.up (by omega) h5))
theorem l_push (n : Nat) (h : LR N C q od t x y) {a : Nat} (ha : a ≤ 3) (ht : t + a ≤ 1000000) : xCW sc (n + 2) k_L_push [.ref 15, .ref 16, .ref 17, .ref 18, .ref 19, .int (nI a)] (wY xc y r) (lQ none (lSg N C (t + a) xc (cPush N a x) r)) := by
  refine xWp.go 4 rfl trivial ?_
  exact l_pushLoop n _ a _ _ h ha ht (fun _ _ _ h => h)
set_option maxHeartbeats 16000000 in
theorem l_fall (n : Nat) (h : LR N C q od t x y) {k : Nat} (hk : k < N) (ht : t + 2 ≤ 1000000) : xCW sc (n + 3) k_L_fall [.ref 15, .ref 16, .ref 17, .ref 18, .ref 19, .int (nI k)] (wY xc y r) (lQ none (lSg N C (t + 2) xc (cFall N k x) r)) := by
  have hN := h.n
  have e4 : (xk 5 0 * nI k + xk 3 0).toNatClampNeg = 5 * k + 3 := c5 (by omega) (by omega)
  have hp : y 1 (xk 5 0 * nI k + xk 3 0).toNatClampNeg + xk 1 0 = x.2 4 k + nI 1 := by rw [e4, h.fal (by omega)]; rfl
  have h' : cInv N C q t (sA x 4 k (x.2 4 k + nI 1)) := h.inv
  have h2 := h.setCard (k := k) (i := 3) (ro := 4) (Or.inl ⟨rfl, rfl⟩) _ h'
  have hc := l_come (sc := sc) (r := r) (xc := xc) (n + 1) h2 hk (j := 1) (by omega) (by omega)
  rw [← e4] at hc
  have hc' : xCW sc (n + 2) k_L_come [.ref 15, .ref 16, .ref 17, .ref 18, .ref 19, .int (nI k), .int (xk 1 0)] (wY xc (yS y 1 (xk 5 0 * nI k + xk 3 0).toNatClampNeg (y 1 (xk 5 0 * nI k + xk 3 0).toNatClampNeg + xk 1 0)) r) (lQ none (lSh N C (t + 1) xc (cShift (sA x 4 k (x.2 4 k + nI 1)) N k (nI 1)) r)) := by
    rw [hp]
    exact hc
  have gk : vp_in (xk 5 0 * nI k + xk 3 0) 50 := in5 (K := 10) (by omega) (by omega) (by omega)
  refine xWp.gm rfl ⟨gk, gk, trivial⟩ rfl hc' (by decide) (fun x1 y1 r1 h3 => ?_)
  obtain ⟨rfl, rfl, q1, od1, h4⟩ := h3
  refine xWp.gm rfl trivial rfl (l_push n h4 (a := 1) (by omega) (by omega)) (by decide) (fun x2 y2 r2 h5 => ?_)
  exact xWp.gf rfl trivial rfl trivial (lQ.mk h5)
end LPx
