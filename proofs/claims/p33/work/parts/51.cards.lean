/-! the law holds every card and every change against the class -/
section LAc
variable {sc : Option (Nat × (Nat → Int32))} {x : xX} {y : lY} {N C : Nat} {q od : List Nat} {t : Nat}
def acL (z is a7 a8 a9 a10 : Option Value) : xL := [some (.ref 0), some (.ref 15), some (.ref 16), some (.ref 17), some (.ref 19), z, is, a7, a8, a9, a10]
set_option maxHeartbeats 16000000 in
theorem l_acCards (n : Nat) (h : LR N C q od t x y) (z : Option Value) {Pq : xR → xW → Prop} (hP : ∀ a7 a8 a9 a10, xAt sc k_L_areCards 20 Pq (156, acL z (some (.int (nI 1))) a7 a8 a9 a10, [], wY x y [], 5 * N)) : ∀ a8, xAt sc k_L_areCards 20 Pq (32, acL z (some (.int (nI 1))) (some (.int (nI 0))) a8 none none, [], wY x y [], 5 * 0) := by
  have hN := h.n
  have hN1 := h.hN
  intro a8
  refine xWp.loopZ N (fun i a8 => (32, acL z (some (.int (nI 1))) (some (.int (nI i))) a8 none none, [], wY x y [], 5 * i)) (fun i a8 hi ih => ?_) (fun a8 => ?_) a8
  · have ih := ih (some (.int (xk 5 0 * nI i)))
    unfold acL at ih
    rw [nI_s i, show 5 * (i + 1) = 5 * i + 1 + 1 + 1 + 1 + 1 by omega] at ih
    have e1 : y 1 (xk 5 0 * nI i + xk 1 0).toNatClampNeg = x.2 1 i := by rw [c5 (by omega) (by omega), h.col (by omega)]
    have e2 : y 1 (xk 5 0 * nI i + xk 2 0).toNatClampNeg = x.2 3 i := by rw [c5 (by omega) (by omega), h.nam (by omega)]
    have e3 : y 1 (xk 5 0 * nI i + xk 3 0).toNatClampNeg = x.2 4 i := by rw [c5 (by omega) (by omega), h.fal (by omega)]
    have e4 : y 1 (xk 5 0 * nI i + xk 4 0).toNatClampNeg = x.2 5 i := by rw [c5 (by omega) (by omega), h.pus (by omega)]
    have g1 : vp_in (xk 5 0 * nI i + xk 1 0) 50 := in5 (K := 10) (by omega) (by omega) (by omega)
    have g2 : vp_in (xk 5 0 * nI i + xk 2 0) 50 := in5 (K := 10) (by omega) (by omega) (by omega)
    have g3 : vp_in (xk 5 0 * nI i + xk 3 0) 50 := in5 (K := 10) (by omega) (by omega) (by omega)
    have g4 : vp_in (xk 5 0 * nI i + xk 4 0) 50 := in5 (K := 10) (by omega) (by omega) (by omega)
    refine xWp.gb rfl ⟨inx (by omega) (by omega), trivial⟩ rfl (fun h9 => ?_) (fun _ => ?_)
    · have h' : y 4 0 ≤ nI i := h9
      rw [hN1, le_nI (by omega) (by omega)] at h'; omega
    refine xWp.gb rfl trivial rfl (fun h9 => absurd h9 (by decide)) (fun _ => ?_)
    refine xWp.gc rfl trivial rfl (c_columnOf h.inv.wf hi) (show 5 * i + 1 ≤ 110 by omega) ?_
    refine xWp.gb rfl ⟨g1, trivial⟩ rfl (fun _ => ?_) (fun h9 => absurd e1.symm h9)
    refine xWp.gc rfl trivial rfl (c_canMove h.inv hi) (show 5 * i + 1 + 1 ≤ 110 by omega) ?_
    refine xWp.gc rfl trivial rfl (l_canMove 18 h hi) (show 5 * i + 1 + 1 + 0 ≤ 110 by omega) ?_
    refine xWp.gb rfl trivial rfl (fun _ => ?_) (fun h9 => absurd rfl h9)
    refine xWp.gc rfl trivial rfl (c_lacks h.inv.wf hi) (show 5 * i + 1 + 1 + 0 + 1 ≤ 110 by omega) ?_
    refine xWp.gc rfl ⟨g2, trivial⟩ rfl (l_withStateR 19 h (nI 2)) (show 5 * i + 1 + 1 + 0 + 1 + 0 ≤ 110 by omega) ?_
    have ho : xCW sc 20 k_L_ones [.int (y 1 (xk 5 0 * nI i + xk 2 0).toNatClampNeg &&& (cAll x C (nI 2) ^^^ -1))] (wY x y []) (xIs (.inl (some (.int (nI (fb_ct (bt (x.2 3 i &&& (cAll x C (nI 2) ^^^ -1))) 32))))) (wY x y [])) := by
      rw [e2]; exact l_ones 19 _ _
    refine xWp.gc rfl trivial rfl ho (show 5 * i + 1 + 1 + 0 + 1 + 0 + 0 ≤ 110 by omega) ?_
    refine xWp.gb rfl trivial rfl (fun _ => ?_) (fun h9 => absurd rfl h9)
    refine xWp.gc rfl trivial rfl (c_falls h.inv.wf hi) (show 5 * i + 1 + 1 + 0 + 1 + 0 + 0 + 1 ≤ 110 by omega) ?_
    refine xWp.gb rfl ⟨g3, trivial⟩ rfl (fun _ => ?_) (fun h9 => absurd e3.symm h9)
    refine xWp.gc rfl trivial rfl (c_pushes h.inv.wf hi) (show 5 * i + 1 + 1 + 0 + 1 + 0 + 0 + 1 + 1 ≤ 110 by omega) ?_
    refine xWp.gb rfl ⟨g4, trivial⟩ rfl (fun _ => ?_) (fun h9 => absurd e4.symm h9)
    exact xWp.go 32 rfl trivial ih
  · refine xWp.gb rfl ⟨inx (by omega) (by omega), trivial⟩ rfl (fun _ => ?_) (fun h9 => ?_)
    · exact hP _ _ _ _
    · have h' : ¬ y 4 0 ≤ nI N := h9
      rw [hN1, le_nI (by omega) (by omega)] at h'; omega
theorem cCN_s {i j : Nat} : nI (cCN x j i) + bI (bt (x.2 3 j) i) = nI (cCN x (j + 1) i) := by
  have e : cCN x (j + 1) i = cCN x j i + (if bt (x.2 3 j) i then 1 else 0) := rfl
  rw [e]
  cases bt (x.2 3 j) i
  · exact nI_z _
  · exact (nI_succ _).symm
set_option maxHeartbeats 16000000 in
theorem l_acChanges (n : Nat) (h : LR N C q od t x y) (z : Option Value) {Pq : xR → xW → Prop} (hP : ∀ a7 a8 a9 a10, xAt sc k_L_areCards 20 Pq (253, acL z (some (.int (nI 1))) a7 a8 a9 a10, [], wY x y [], 5 * N + 2 * C)) : ∀ a8 a9 a10, xAt sc k_L_areCards 20 Pq (159, acL z (some (.int (nI 1))) (some (.int (nI 0))) a8 a9 a10, [], wY x y [], 5 * N + 2 * 0) := by
  have hN := h.n
  have hN1 := h.hN
  have hC := h.c
  have hC1 := h.hC
  intro a8 a9 a10
  refine xWp.loopZ C (fun i (a : Option Value × Option Value) => (159, acL z (some (.int (nI 1))) (some (.int (nI i))) a.1 a.2 a10, [], wY x y [], 5 * N + 2 * i)) (fun i a hi ih => ?_) (fun a => ?_) (a8, a9)
  · have e1 : y 2 (xk 5 0 * nI i + xk 1 0).toNatClampNeg = x.2 10 i := by rw [c5 (by omega) (by omega), h.sta (by omega)]
    have g1 : vp_in (xk 5 0 * nI i + xk 1 0) 60 := in5 (K := 12) (by omega) (by omega) (by omega)
    have ih := ih (some (.int (nI (cCN x N i))), some (.int (nI N)))
    unfold acL at ih
    rw [nI_s i, show 5 * N + 2 * (i + 1) = 5 * N + 2 * i + 1 + 1 by omega] at ih
    refine xWp.gb rfl ⟨inx (by omega) (by omega), trivial⟩ rfl (fun h9 => ?_) (fun _ => ?_)
    · have h' : y 4 1 ≤ nI i := h9
      rw [hC1, le_nI (by omega) (by omega)] at h'; omega
    refine xWp.gb rfl trivial rfl (fun h9 => absurd h9 (by decide)) (fun _ => ?_)
    refine xWp.go 179 rfl trivial ?_
    refine xWp.loop N (fun j => (179, acL z (some (.int (nI 1))) (some (.int (nI i))) (some (.int (nI (cCN x j i)))) (some (.int (nI j))) a10, [], wY x y [], 5 * N + 2 * i)) (fun j hj ih2 => ?_) ?_
    · have e2 : y 1 (xk 5 0 * nI j + xk 2 0).toNatClampNeg = x.2 3 j := by rw [c5 (by omega) (by omega), h.nam (by omega)]
      have e3 : nI (cCN x (j + 1) i) = nI (cCN x j i) + (y 1 (xk 5 0 * nI j + xk 2 0).toNatClampNeg >>> (nI i &&& 31) &&& xk 1 0) := by
        rw [e2, ← cCN_s]
        congr 1
        exact (sbit (by omega) _).symm
      unfold acL at ih2
      rw [nI_s j, e3] at ih2
      refine xWp.gb rfl ⟨inx (by omega) (by omega), trivial⟩ rfl (fun h9 => ?_) (fun _ => ?_)
      · have h' : y 4 0 ≤ nI j := h9
        rw [hN1, le_nI (by omega) (by omega)] at h'; omega
      exact xWp.go 179 rfl ⟨in5 (K := 10) (by omega) (by omega) (by omega), trivial⟩ ih2
    · refine xWp.gb rfl ⟨inx (by omega) (by omega), trivial⟩ rfl (fun _ => ?_) (fun h9 => ?_)
      · refine xWp.gc rfl trivial rfl (c_state h.inv.wf hi) (show 5 * N + 2 * i + 1 ≤ 110 by omega) ?_
        refine xWp.gb rfl ⟨g1, trivial⟩ rfl (fun _ => ?_) (fun h9 => absurd e1.symm h9)
        refine xWp.gc rfl trivial rfl (c_namedBy h.inv.wf hi) (show 5 * N + 2 * i + 1 + 1 ≤ 110 by omega) ?_
        refine xWp.gb rfl trivial rfl (fun _ => ?_) (fun h9 => absurd rfl h9)
        exact xWp.go 159 rfl trivial ih
      · have h' : ¬ y 4 0 ≤ nI N := h9
        rw [hN1, le_nI (by omega) (by omega)] at h'; omega
  · refine xWp.gb rfl ⟨inx (by omega) (by omega), trivial⟩ rfl (fun _ => ?_) (fun h9 => ?_)
    · exact hP _ _ _ _
    · have h' : ¬ y 4 1 ≤ nI C := h9
      rw [hC1, le_nI (by omega) (by omega)] at h'; omega
end LAc
