/-! the law merges, whole -/
section LMh
variable {sc : Option (Nat × (Nat → Int32))} {x xc : xX} {y : lY} {N C : Nat} {q od : List Nat} {t : Nat}
set_option maxHeartbeats 16000000 in
/-- cards fall that name what is refused -/
theorem l_imDrop {X0 : xX} {y0 : lY} {q0 od0 : List Nat} {t0 : Nat} (h : LR N C q0 od0 t0 X0 y0) (ht : t0 + 2 * N ≤ 1000000) (z9 len a10 : Option Value) (M : Int32) (F : Nat → Int32) {Pq : xR → xW → Prop}
    (hP : ∀ q od t z, t ≤ t0 + 2 * N → LR N C q od t (cDrop N M false X0 N).1 z → xAt sc k_L_isMerged 21 Pq (273, imL z9 len (some (.int M)) a10 (some (.int (nI N))), [], wF xc z F, 4)) :
    ∀ (m i : Nat) (q od : List Nat) (t : Nat) (z : lY), i + m = N → t ≤ t0 + 2 * i → LR N C q od t (cDrop N M false X0 i).1 z → xAt sc k_L_isMerged 21 Pq (220, imL z9 len (some (.int M)) a10 (some (.int (nI i))), [], wF xc z F, 4)
  | 0, i, q, od, t, z, hi, htt, hz => by
    have hN := h.n
    have ei : i = N := by omega
    subst ei
    refine xWp.gb rfl ⟨inx (by omega) (by omega), trivial⟩ rfl (fun _ => ?_) (fun h9 => ?_)
    · exact hP q od t z htt hz
    · have h9' : ¬ z 4 0 ≤ nI i := h9
      rw [hz.hN, le_nI (by omega) (by omega)] at h9'; omega
  | m + 1, i, q, od, t, z, hi, htt, hz => by
    have hN := h.n
    have e1 : z 1 (xk 5 0 * nI i + xk 1 0).toNatClampNeg = (cDrop N M false X0 i).1.2 1 i := by rw [c5 (by omega) (by omega), hz.col (by omega)]
    have e2 : z 1 (xk 5 0 * nI i + xk 2 0).toNatClampNeg = (cDrop N M false X0 i).1.2 3 i := by rw [c5 (by omega) (by omega), hz.nam (by omega)]
    have g1 : vp_in (xk 5 0 * nI i + xk 1 0) 50 := in5 (K := 10) (by omega) (by omega) (by omega)
    have g2 : vp_in (xk 5 0 * nI i + xk 2 0) 50 := in5 (K := 10) (by omega) (by omega) (by omega)
    have es : (cDrop N M false X0 (i + 1)).1 = match cFl (cDrop N M false X0 i).1 M false i with
        | true => cFall N i (cDrop N M false X0 i).1
        | false => (cDrop N M false X0 i).1 := by
      rw [cDrop, cDr1]
      cases cFl (cDrop N M false X0 i).1 M false i <;> rfl
    have skip : cFl (cDrop N M false X0 i).1 M false i = false → xAt sc k_L_isMerged 21 Pq (267, imL z9 len (some (.int M)) a10 (some (.int (nI i))), [], wF xc z F, 4) := fun e => by
      rw [e] at es
      have ih := l_imDrop h ht z9 len a10 M F hP m (i + 1) q od t z (by omega) (by omega) (by rw [es]; exact hz)
      unfold imL at ih
      rw [nI_s i] at ih
      exact xWp.go 220 rfl trivial ih
    refine xWp.gb rfl ⟨inx (by omega) (by omega), trivial⟩ rfl (fun h9 => ?_) (fun _ => ?_)
    · have h9' : z 4 0 ≤ nI i := h9
      rw [hz.hN, le_nI (by omega) (by omega)] at h9'; omega
    refine xWp.gb rfl ⟨g1, trivial⟩ rfl (fun h8 => ?_) (fun h8 => ?_)
    · have h8' : z 1 (xk 5 0 * nI i + xk 1 0).toNatClampNeg = nI 3 := h8
      rw [e1] at h8'
      refine xWp.gb rfl ⟨g2, trivial⟩ rfl (fun h7 => ?_) (fun h7 => ?_)
      · have h7' : z 1 (xk 5 0 * nI i + xk 2 0).toNatClampNeg &&& M = 0 := h7
        rw [e2] at h7'
        have e9 : decide (¬ (cDrop N M false X0 i).1.2 3 i &&& M = 0) = false := decide_eq_false (fun z => z h7')
        refine skip ?_
        unfold cFl
        rw [e9, Bool.and_false]
      · have h7' : ¬ z 1 (xk 5 0 * nI i + xk 2 0).toNatClampNeg &&& M = 0 := h7
        rw [e2] at h7'
        have e : cFl (cDrop N M false X0 i).1 M false i = true := by
          unfold cFl
          rw [decide_eq_true h7', decide_eq_true h8']; rfl
        rw [e] at es
        refine xWp.gm rfl trivial rfl (l_fall 18 hz (k := i) (by omega) (by omega)) (by decide) (fun x1 y1 r1 h6 => ?_)
        obtain ⟨k1, k2, q', od', t', k3, k4⟩ := h6
        rw [k1, k2]
        have ih := l_imDrop h ht z9 len a10 M F hP m (i + 1) q' od' t' y1 (by omega) (by omega) (by rw [es]; exact k4)
        unfold imL at ih
        rw [nI_s i] at ih
        exact xWp.go 220 rfl trivial ih
    · have h8' : ¬ z 1 (xk 5 0 * nI i + xk 1 0).toNatClampNeg = nI 3 := h8
      rw [e1] at h8'
      refine skip ?_
      unfold cFl
      rw [decide_eq_false h8']; rfl
set_option maxHeartbeats 16000000 in
/-- cards move on of which all is in -/
theorem l_imOn {X1 : xX} {t0 : Nat} (hN : N ≤ 10) (ht : t0 + N ≤ 1000000) (z9 len : Option Value) (M : Int32) (F : Nat → Int32) {Pq : xR → xW → Prop}
    (hP : ∀ q od t z, t ≤ t0 + N → LR N C q od t (cOns X1 C N) z → xAt sc k_L_isMerged 21 Pq (332, imL z9 len (some (.int M)) (some (.int (cAll X1 C (nI 2)))) (some (.int (nI N))), [], wF xc z F, 4)) :
    ∀ (m i : Nat) (q od : List Nat) (t : Nat) (z : lY), i + m = N → t ≤ t0 + i → LR N C q od t (cOns X1 C i) z → xAt sc k_L_isMerged 21 Pq (276, imL z9 len (some (.int M)) (some (.int (cAll X1 C (nI 2)))) (some (.int (nI i))), [], wF xc z F, 4)
  | 0, i, q, od, t, z, hi, htt, hz => by
    have ei : i = N := by omega
    subst ei
    refine xWp.gb rfl ⟨inx (by omega) (by omega), trivial⟩ rfl (fun _ => ?_) (fun h9 => ?_)
    · exact hP q od t z htt hz
    · have h9' : ¬ z 4 0 ≤ nI i := h9
      rw [hz.hN, le_nI (by omega) (by omega)] at h9'; omega
  | m + 1, i, q, od, t, z, hi, htt, hz => by
    have e1 : z 1 (xk 5 0 * nI i + xk 1 0).toNatClampNeg = (cOns X1 C i).2 1 i := by rw [c5 (by omega) (by omega), hz.col (by omega)]
    have e2 : z 1 (xk 5 0 * nI i + xk 2 0).toNatClampNeg = (cOns X1 C i).2 3 i := by rw [c5 (by omega) (by omega), hz.nam (by omega)]
    have g1 : vp_in (xk 5 0 * nI i + xk 1 0) 50 := in5 (K := 10) (by omega) (by omega) (by omega)
    have g2 : vp_in (xk 5 0 * nI i + xk 2 0) 50 := in5 (K := 10) (by omega) (by omega) (by omega)
    have ea : cAll (cOns X1 C i) C (nI 2) = cAll X1 C (nI 2) := st2_all (st2_ons i)
    have es : cOns X1 C (i + 1) = cOn (cOns X1 C i) C i := rfl
    have skip : cOn (cOns X1 C i) C i = cOns X1 C i → xAt sc k_L_isMerged 21 Pq (326, imL z9 len (some (.int M)) (some (.int (cAll X1 C (nI 2)))) (some (.int (nI i))), [], wF xc z F, 4) := fun e => by
      have ih := l_imOn hN ht z9 len M F hP m (i + 1) q od t z (by omega) (by omega) (by rw [es, e]; exact hz)
      unfold imL at ih
      rw [nI_s i] at ih
      exact xWp.go 276 rfl trivial ih
    refine xWp.gb rfl ⟨inx (by omega) (by omega), trivial⟩ rfl (fun h9 => ?_) (fun _ => ?_)
    · have h9' : z 4 0 ≤ nI i := h9
      rw [hz.hN, le_nI (by omega) (by omega)] at h9'; omega
    refine xWp.gb rfl ⟨g1, trivial⟩ rfl (fun h8 => ?_) (fun h8 => ?_)
    · have h8' : z 1 (xk 5 0 * nI i + xk 1 0).toNatClampNeg = nI 3 := h8
      rw [e1] at h8'
      refine xWp.gb rfl ⟨g2, trivial⟩ rfl (fun h7 => ?_) (fun h7 => ?_)
      · have h7' : z 1 (xk 5 0 * nI i + xk 2 0).toNatClampNeg &&& (cAll X1 C (nI 2) ^^^ -1) = 0 := h7
        rw [e2] at h7'
        have e : cOn (cOns X1 C i) C i = cPut (cOns X1 C i) i (nI 4) := if_pos ⟨h8', by unfold cAllIn; rw [ea]; exact decide_eq_true h7'⟩
        have hc := l_come (sc := sc) (xc := xc) (r := [.inl (0, 3, .inl F)]) 20 hz (k := i) (j := 4) (by omega) (by omega) (by omega)
        rw [cShift_4, ← e] at hc
        refine xWp.gm rfl trivial rfl hc (by decide) (fun x1 y1 r1 h6 => ?_)
        obtain ⟨k1, k2, q', od', k4⟩ := h6
        rw [k1, k2]
        have ih := l_imOn hN ht z9 len M F hP m (i + 1) q' od' (t + 1) y1 (by omega) (by omega) k4
        unfold imL at ih
        rw [nI_s i] at ih
        exact xWp.go 276 rfl trivial ih
      · have h7' : ¬ z 1 (xk 5 0 * nI i + xk 2 0).toNatClampNeg &&& (cAll X1 C (nI 2) ^^^ -1) = 0 := h7
        rw [e2] at h7'
        exact skip (if_neg (fun z => h7' (by have := z.2; unfold cAllIn at this; rw [ea] at this; exact of_decide_eq_true this)))
    · have h8' : ¬ z 1 (xk 5 0 * nI i + xk 1 0).toNatClampNeg = nI 3 := h8
      rw [e1] at h8'
      exact skip (if_neg (fun z => h8' z.1))
theorem cMg_7 (h : cInv N C q t x) {l : Nat} (hl : l ≤ q.length) (ht : t + 3 * N ≤ 1000000) : (cMg x N C q.length l).1 7 = (cFR x C l).2.1 := by
  have hi : cInv N C q t (cTr x (cFR x C l)) := h
  obtain ⟨u1, u2, u3, u4⟩ := cStl_fl hi hl
  have hi2 := iStl hi hl
  have h0 : cInv N C (q.drop l) t (cMg0 x C q.length l) := hi2
  have e0 : (cMg0 x C q.length l).1 7 = (cFR x C l).2.1 := by
    show (cStl (cTr x (cFR x C l)) l q.length).1 7 = _
    rw [u1]; rfl
  have k1 := kp_drop h0 (cAll (cMg0 x C q.length l) C (nI 3)) false (by omega) N (Nat.le_refl _) 7 (by decide) (by decide)
  have k2 := kp_ons (x := cMg1 x N C q.length l) (C := C) N 7 (by decide) (by decide)
  have e : (cMg x N C q.length l).1 7 = (cMg1 x N C q.length l).1 7 := k2
  rw [e]
  exact k1.trans e0
end LMh
