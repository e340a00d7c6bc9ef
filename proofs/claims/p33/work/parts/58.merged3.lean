/-! the law merges, whole: the end -/
section LMi
variable {sc : Option (Nat × (Nat → Int32))} {x xc : xX} {y : lY} {N C : Nat} {q od : List Nat} {t : Nat}
set_option maxHeartbeats 16000000 in
theorem l_imGo (h : LR N C q od t x y) (ht : t + 3 * N ≤ 1000000) {l : Nat} (h1 : 1 ≤ l) (h8 : l ≤ 8) (z9 : Option Value) (F0 : Nat → Int32) (a9 a10 a11 : Option Value) : xAt sc k_L_isMerged 21 (lQ (some (.int (nI 1))) (lAct (t + 3 * N))) (60, imL z9 (some (.int (nI l))) a9 a10 a11, [], wF x y F0, 1) := by
  have hN := h.n
  have hq := h.q12
  have ex5 : x.1 5 = nI q.length := h.inv.wf.2.2.2.2.1
  refine xWp.gb rfl ⟨inx (by omega) (by omega), trivial⟩ rfl (fun h9 => ?_) (fun h9 => ?_)
  · have h9' : nI l ≤ y 4 2 := h9
    rw [h.hQ, le_nI (by omega) (by omega)] at h9'
    refine xWp.gm rfl trivial rfl (l_work 19 h h1 h8 h9' false F0) (by decide) (fun x1 y1 r1 hw => ?_)
    obtain ⟨e1, e2, F, e3, hF⟩ := hw
    rw [e1, e2, e3]
    obtain ⟨Y1, hY1⟩ : ∃ Y1 : lY, Y1 = yS y 4 3 (y 4 3 + F 2) := ⟨_, rfl⟩
    have hY3 : Y1 3 = y 3 := by rw [hY1]; exact yS_a (by decide)
    have hY2 : Y1 2 = y 2 := by rw [hY1]; exact yS_a (by decide)
    have hs := l_imSet (sc := sc) (xc := x) h h9' h8 z9 a10 a11 F hF.1 (Pq := lQ (some (.int (nI 1))) (lAct (t + 3 * N))) hY3 hY2 (fun z za zs zg => ?_) l 0 Y1 (by omega) (fun _ _ => rfl) (fun c hc => by rw [hY2]; simp; exact h.sta hc) (fun c i _ _ _ => by rw [hY2])
    · rw [hY1] at hs
      exact xWp.go 113 rfl ⟨inx (by omega) (by omega), inx (by omega) (by omega), inx (by omega) (by omega), trivial⟩ hs
    · refine xWp.go 162 rfl trivial ?_
      refine l_imMove (sc := sc) (xc := x) h h9' h8 z9 a10 a11 F (Z0 := z) (by rw [za 4 (by decide), hY1, yS_i (by decide)]) (fun w wa wd => ?_) (q.length - l) l z (by omega) (Nat.le_refl _) (fun _ _ => rfl) (fun i v hi _ => by omega) (fun i v hi hv => by rw [za 3 (by decide), hY3]; exact h.qu hv)
      have hQ4 : w 4 2 = nI q.length := by rw [wa 4 (by decide), za 4 (by decide), hY1, yS_i (by decide), h.hQ]
      have hX : LR N C (q.drop l) od t (cMg0 x C q.length l) (yS w 4 2 (nI (q.length - l))) := by
        refine rMg0L h h9' ?_ ?_ (fun i i2 i3 => ?_) ?_ ?_ (fun c hc => ?_) (fun c i hc hi h1 => ?_) (fun i v hv => ?_)
        · rw [yS_a (by decide), wa 0 (by decide), za 0 (by decide), hY1, yS_a (by decide)]
        · rw [yS_a (by decide), wa 1 (by decide), za 1 (by decide), hY1, yS_a (by decide)]
        · rw [yS_i i2, wa 4 (by decide), za 4 (by decide), hY1, yS_i i3]
        · rw [yS_s]
        · rw [yS_i (by decide), wa 4 (by decide), za 4 (by decide), hY1, yS_s, hF.2.2]
        · rw [yS_a (by decide), wa 2 (by decide)]; exact zs c hc
        · rw [yS_a (by decide), wa 2 (by decide)]; exact zg c i hc hi h1
        · rw [yS_a (by decide)]; exact wd i v hv
      have es : w 4 2 - nI l = nI (q.length - l) := by rw [hQ4]; exact pk_sub h9'
      have hX' : LR N C (q.drop l) od t (cMg0 x C q.length l) (yS w 4 (xk 2 0).toNatClampNeg (w 4 (xk 2 0).toNatClampNeg - nI l)) := by
        have e : w 4 (xk 2 0).toNatClampNeg - nI l = nI (q.length - l) := es
        rw [e]; exact hX
      refine xWp.gc rfl ⟨inx (by omega) (by omega), inx (by omega) (by omega), trivial⟩ rfl (l_withStateR (xc := x) (r := [.inl (0, 3, .inl F)]) 20 hX' (nI 3)) (by decide) ?_
      refine xWp.gc rfl trivial rfl (l_withStateR (xc := x) (r := [.inl (0, 3, .inl F)]) 20 hX' (nI 2)) (by decide) ?_
      refine xWp.go 220 rfl trivial ?_
      refine l_imDrop (xc := x) hX' (by omega) z9 (some (.int (nI l))) (some (.int (cAll (cMg0 x C q.length l) C (nI 2)))) (cAll (cMg0 x C q.length l) C (nI 3)) F (fun q1 od1 t1 z1 ht1 hz1 => ?_) N 0 _ _ t _ (by omega) (by omega) hX'
      have e1 : (cDrop N (cAll (cMg0 x C q.length l) C (nI 3)) false (cMg0 x C q.length l) N).1 = cMg1 x N C q.length l := rfl
      rw [e1] at hz1
      have ea : cAll (cMg0 x C q.length l) C (nI 2) = cAll (cMg1 x N C q.length l) C (nI 2) := (st2_all (st2_drop hX.inv _ false (by omega) N (Nat.le_refl _))).symm
      rw [ea]
      refine xWp.go 276 rfl trivial ?_
      refine l_imOn (xc := x) (t0 := t + 2 * N) hN (by omega) z9 (some (.int (nI l))) _ F (fun q2 od2 t2 z2 ht2 hz2 => ?_) N 0 q1 od1 t1 z1 (by omega) ht1 hz1
      have hw := w_merge (sc := sc) (c_merge (sc := sc) (y := wL z2 ++ [.inl (0, 3, .inl F)]) h.inv h1 h8 h9' (by omega))
      rw [cMg_7 h.inv h9' (by omega)] at hw
      refine xWp.gc rfl trivial rfl hw (by decide) ?_
      refine xWp.gb rfl ⟨inx (by omega) (by omega), trivial⟩ rfl (fun _ => ?_) (fun h9 => absurd hF.2.1.symm h9)
      exact xWp.gf rfl trivial rfl (Or.inr (Or.inr rfl)) (lQ.mk (x' := cMg x N C q.length l) (y' := z2) (r' := []) ⟨rfl, N, C, q2, od2, t2, by omega, hz2⟩)
  · have h9' : ¬ nI l ≤ y 4 2 := h9
    have hw := w_merge_1 (sc := sc) (c_merge_1 (sc := sc) (x := x) (y := wL y ++ [.inl (0, 3, .inl F0)]) (v := nI l) (fun z => by rw [lt_nI (by omega) (by omega)] at z; omega) (by rw [le_nI (by omega) (by omega)]; exact h8) (by rw [ex5, ← h.hQ]; exact h9'))
    refine xWp.gc rfl trivial rfl hw (by decide) ?_
    refine xWp.gb rfl trivial rfl (fun _ => ?_) (fun h9 => absurd rfl h9)
    exact xWp.gf rfl trivial rfl (Or.inr (Or.inr rfl)) (lQ.mk (x' := x) (y' := y) (r' := []) ⟨rfl, N, C, q, od, t, by omega, h⟩)
set_option maxHeartbeats 16000000 in
theorem l_isMerged (h : LR N C q od t x y) (ht : t + 3 * N ≤ 1000000) {zz : Nat} (hz : zz < 2 ^ 31) : xCW sc 22 k_L_isMerged [.ref 0, .ref 15, .ref 16, .ref 17, .ref 18, .ref 19, .int (nI zz)] (wY x y []) (lQ (some (.int (nI 1))) (lAct (t + 3 * N))) := by
  have hq := h.q12
  have n8 : ¬ xk 8 0 = 0 := by decide
  have n4 : ¬ xk 4 0 = 0 := by decide
  have el : xk 1 0 + (nI zz - nI zz / xk 8 0 * xk 8 0) = nI (1 + zz % 8) := by
    have e : nI zz - nI zz / xk 8 0 * xk 8 0 = nI (zz % 8) := pk_rem hz (by omega) (by omega)
    rw [e, xk_nI]
  have go : ∀ L, L = nI (1 + zz % 8) → xAt sc k_L_isMerged 21 (lQ (some (.int (nI 1))) (lAct (t + 3 * N))) (60, imL (some (.int (nI zz))) (some (.int L)) none none none, [], wF x y (fun _ => 0), 1) := fun L e => by
    rw [e]; exact l_imGo h ht (by omega) (by omega) _ _ _ _ _
  refine xWp.gb rfl ⟨⟨rfl, by decide⟩, n8, inx (by omega) (by omega), trivial⟩ rfl (fun _ => ?_) (fun _ => ?_)
  · exact go _ el
  · refine xWp.gb rfl ⟨n8, n4, trivial⟩ rfl (fun _ => ?_) (fun _ => ?_)
    · exact go _ el
    · refine xWp.gb rfl ⟨inx (by omega) (by omega), trivial⟩ rfl (fun _ => ?_) (fun h7 => ?_)
      · exact go _ el
      · have h7' : ¬ y 4 2 ≤ nI 0 := h7
        rw [h.hQ, le_nI (by omega) (by omega)] at h7'
        have hQ' : y 4 (xk 2 0).toNatClampNeg = nI q.length := h.hQ
        refine xWp.gb rfl ⟨inx (by omega) (by omega), trivial⟩ rfl (fun h6 => ?_) (fun _ => ?_)
        · have h6' : y 4 2 ≤ nI 8 := h6
          rw [h.hQ, le_nI (by omega) (by omega)] at h6'
          have hg := l_imGo (sc := sc) h ht (l := q.length) (by omega) h6' (some (.int (nI zz))) (fun _ => 0) none none none
          rw [← hQ'] at hg
          exact xWp.go 60 rfl ⟨inx (by omega) (by omega), trivial⟩ hg
        · have hg := l_imGo (sc := sc) h ht (l := 8) (by omega) (by omega) (some (.int (nI zz))) (fun _ => 0) none none none
          exact xWp.go 60 rfl trivial hg
end LMi
