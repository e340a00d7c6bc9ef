/-! the law merges a row on a copy -/
section LK
variable {sc : Option (Nat × (Nat → Int32))} {x xc : xX} {y : lY} {N C : Nat} {q od : List Nat} {t : Nat}
abbrev wK (xc : xX) (y : lY) (F p : Nat → Int32) : xW := wY xc y [.inl (0, 3, .inl F), .inl (0, 16, .inl p)]
theorem LR.qc (h : LR N C q od t x y) {i : Nat} (hi : i < q.length) : y 3 i = nI (cq x i) ∧ cq x i < C := by
  have e := List.getElem?_eq_getElem hi
  rw [h.inv.cqv i _ e]
  exact ⟨h.qu e, h.inv.lt (List.getElem_mem hi)⟩
def wkL (len sg left fi ma inn pa i at9 : Option Value) : xL := [some (.ref 17), some (.ref 18), some (.ref 19), some (.ref 20), len, sg, some (.ref 21), left, fi, ma, inn, pa, i, at9]
def F3 (F : Nat → Int32) (s : Int32 × Int32 × Int32) : Prop := F 0 = s.1 ∧ F 1 = s.2.1 ∧ F 2 = s.2.2
theorem cPass_s {S : Int32} {f j : Nat} : (!(anyB (fun k => !(cHolds x S (cq x (f + k)) (cRow x f k))) (j + 1))) = (!(anyB (fun k => !(cHolds x S (cq x (f + k)) (cRow x f k))) j) && cHolds x S (cq x (f + j)) (cRow x f j)) := by
  have e : anyB (fun k => !(cHolds x S (cq x (f + k)) (cRow x f k))) (j + 1) = (anyB (fun k => !(cHolds x S (cq x (f + k)) (cRow x f k))) j || !(cHolds x S (cq x (f + j)) (cRow x f j))) := rfl
  rw [e, Bool.not_or, Bool.not_not]
set_option maxHeartbeats 16000000 in
theorem l_workIn (n : Nat) (h : LR N C q od t x y) {f l : Nat} (hl : f + l ≤ q.length) (S T H5 : Int32) (len sg left : Option Value) (p : Nat → Int32) {Pq : xR → xW → Prop}
    (hP : ∀ F at9, F 0 = S → F 1 = T → F 2 = H5 + cWt x f l → xAt sc k_L_work n Pq (247, wkL len sg left (some (.int (nI f))) (some (.int (nI l))) (some (.int (S ||| cRow x f l))) (some (.int (bI (cPass x S f l)))) (some (.int (nI (f + l)))) at9, [], wK xc y F p, 3)) :
    ∀ (m j : Nat) (F : Nat → Int32) (at9 : Option Value), j + m = l → F 0 = S → F 1 = T → F 2 = H5 + smI (fun k => x.2 7 (cq x (f + k))) j → xAt sc k_L_work n Pq (155, wkL len sg left (some (.int (nI f))) (some (.int (nI l))) (some (.int (S ||| cRow x f j))) (some (.int (bI (!(anyB (fun k => !(cHolds x S (cq x (f + k)) (cRow x f k))) j))))) (some (.int (nI (f + j)))) at9, [], wK xc y F p, 3)
  | 0, j, F, at9, hj, F0, F1, F2 => by
    have hq := h.q12
    have e : j = l := by omega
    subst e
    refine xWp.gb rfl trivial rfl (fun _ => ?_) (fun h9 => ?_)
    · exact hP F at9 F0 F1 F2
    · have h' : ¬ nI f + nI j ≤ nI (f + j) := h9
      rw [nI_add, le_nI (by omega) (by omega)] at h'; omega
  | m + 1, j, F, at9, hj, F0, F1, F2 => by
    have hq := h.q12
    have hC := h.c
    obtain ⟨eq1, eq2⟩ := h.qc (i := f + j) (by omega)
    obtain ⟨c, hc⟩ : ∃ c, c = cq x (f + j) := ⟨_, rfl⟩
    rw [← hc] at eq1 eq2
    have ez : y 3 (nI (f + j)).toNatClampNeg = nI c := by rw [cl_nI (by omega)]; exact eq1
    have g0 : vp_in (xk 5 0 * y 3 (nI (f + j)).toNatClampNeg) 60 := by rw [ez]; exact in50 (K := 12) (by omega) (by omega)
    have g2 : vp_in (xk 5 0 * y 3 (nI (f + j)).toNatClampNeg + xk 2 0) 60 := by rw [ez]; exact in5 (K := 12) (by omega) (by omega) (by omega)
    have g3 : vp_in (xk 5 0 * y 3 (nI (f + j)).toNatClampNeg + xk 3 0) 60 := by rw [ez]; exact in5 (K := 12) (by omega) (by omega) (by omega)
    have g4 : vp_in (xk 5 0 * y 3 (nI (f + j)).toNatClampNeg + xk 4 0) 60 := by rw [ez]; exact in5 (K := 12) (by omega) (by omega) (by omega)
    have e0 : y 2 (xk 5 0 * y 3 (nI (f + j)).toNatClampNeg).toNatClampNeg = x.2 7 c := by rw [ez, c50 (by omega), h.wei (by omega)]
    have e2 : y 2 (xk 5 0 * y 3 (nI (f + j)).toNatClampNeg + xk 2 0).toNatClampNeg = bI (bt (x.1 3) c) := by rw [ez, c5 (by omega) (by omega), h.bro (by omega)]
    have e3 : y 2 (xk 5 0 * y 3 (nI (f + j)).toNatClampNeg + xk 3 0).toNatClampNeg = x.2 8 c := by rw [ez, c5 (by omega) (by omega), h.nee (by omega)]
    have e4 : y 2 (xk 5 0 * y 3 (nI (f + j)).toNatClampNeg + xk 4 0).toNatClampNeg = x.2 9 c := by rw [ez, c5 (by omega) (by omega), h.cla (by omega)]
    refine xWp.gb rfl trivial rfl (fun h9 => ?_) (fun _ => ?_)
    · have h' : nI f + nI l ≤ nI (f + j) := h9
      rw [nI_add, le_nI (by omega) (by omega)] at h'; omega
    have ih := l_workIn n h hl S T H5 len sg left p hP m (j + 1) (upd F 2 (F 2 + y 2 (xk 5 0 * y 3 (nI (f + j)).toNatClampNeg).toNatClampNeg)) (some (.int (xk 5 0 * y 3 (nI (f + j)).toNatClampNeg))) (by omega) (by rw [pk_un (by decide)]; exact F0) (by rw [pk_un (by decide)]; exact F1) (by
      rw [pk_us, e0, F2, smI, hc, Int32.add_assoc])
    have er : S ||| cRow x f (j + 1) = S ||| cRow x f j ||| xk 1 0 <<< (y 3 (nI (f + j)).toNatClampNeg &&& 31) := by
      have e1 : cRow x f (j + 1) = cRow x f j ||| bitI (cq x (f + j)) := orIf_t rfl
      rw [e1, ez, ← hc, Int32.or_assoc]
      rfl
    rw [er, cPass_s, ← hc, show f + (j + 1) = (f + j) + 1 by omega, nI_s (f + j)] at ih
    have no : (!(anyB (fun k => !(cHolds x S (cq x (f + k)) (cRow x f k))) j) && cHolds x S c (cRow x f j)) = false → xAt sc k_L_work n Pq (227, wkL len sg left (some (.int (nI f))) (some (.int (nI l))) (some (.int (S ||| cRow x f j))) (some (.int (bI (!(anyB (fun k => !(cHolds x S (cq x (f + k)) (cRow x f k))) j))))) (some (.int (nI (f + j)))) (some (.int (xk 5 0 * y 3 (nI (f + j)).toNatClampNeg))), [], wK xc y (upd F 2 (F 2 + y 2 (xk 5 0 * y 3 (nI (f + j)).toNatClampNeg).toNatClampNeg)) p, 3) := fun e => by
      rw [bI_f e] at ih
      exact xWp.go 155 rfl ⟨in_nI (by omega) (by omega), trivial⟩ ih
    have yes : (!(anyB (fun k => !(cHolds x S (cq x (f + k)) (cRow x f k))) j) && cHolds x S c (cRow x f j)) = true → xAt sc k_L_work n Pq (223, wkL len sg left (some (.int (nI f))) (some (.int (nI l))) (some (.int (S ||| cRow x f j))) (some (.int (bI (!(anyB (fun k => !(cHolds x S (cq x (f + k)) (cRow x f k))) j))))) (some (.int (nI (f + j)))) (some (.int (xk 5 0 * y 3 (nI (f + j)).toNatClampNeg))), [], wK xc y (upd F 2 (F 2 + y 2 (xk 5 0 * y 3 (nI (f + j)).toNatClampNeg).toNatClampNeg)) p, 3) := fun e => by
      rw [bI_t e] at ih
      exact xWp.go 155 rfl ⟨in_nI (by omega) (by omega), trivial⟩ ih
    refine xWp.gb rfl ⟨in_nI (by omega) (by omega), inx (by omega) (by omega), g0, inx (by omega) (by omega), trivial⟩ rfl (fun h9 => ?_) (fun h9 => ?_)
    · rw [bI_0] at h9
      exact no (by rw [h9]; rfl)
    rw [bI_0, Bool.not_eq_false] at h9
    refine xWp.gb rfl ⟨g2, trivial⟩ rfl (fun h8 => ?_) (fun h8 => ?_)
    · have h8' : y 2 (xk 5 0 * y 3 (nI (f + j)).toNatClampNeg + xk 2 0).toNatClampNeg = 0 := h8
      rw [e2, bI_0] at h8'
      refine xWp.gb rfl ⟨g3, trivial⟩ rfl (fun h7 => ?_) (fun h7 => ?_)
      · have h7' : y 2 (xk 5 0 * y 3 (nI (f + j)).toNatClampNeg + xk 3 0).toNatClampNeg &&& ((S ||| cRow x f j) ^^^ -1) = 0 := h7
        rw [e3] at h7'
        refine xWp.gb rfl ⟨g4, trivial⟩ rfl (fun h6 => ?_) (fun h6 => ?_)
        · have h6' : y 2 (xk 5 0 * y 3 (nI (f + j)).toNatClampNeg + xk 4 0).toNatClampNeg &&& (S ||| cRow x f j) = 0 := h6
          rw [e4] at h6'
          exact yes (by rw [h9]; unfold cHolds; rw [h8', h7', h6']; rfl)
        · have h6' : ¬ y 2 (xk 5 0 * y 3 (nI (f + j)).toNatClampNeg + xk 4 0).toNatClampNeg &&& (S ||| cRow x f j) = 0 := h6
          rw [e4] at h6'
          exact no (by unfold cHolds; simp [h6'])
      · have h7' : ¬ y 2 (xk 5 0 * y 3 (nI (f + j)).toNatClampNeg + xk 3 0).toNatClampNeg &&& ((S ||| cRow x f j) ^^^ -1) = 0 := h7
        rw [e3] at h7'
        exact no (by rw [h9, Bool.true_and]; unfold cHolds; rw [decide_eq_false h7', Bool.false_and, Bool.and_false])
    · have h8' : ¬ y 2 (xk 5 0 * y 3 (nI (f + j)).toNatClampNeg + xk 2 0).toNatClampNeg = 0 := h8
      rw [e2, bI_0, Bool.not_eq_false] at h8'
      exact no (by unfold cHolds; simp [h8'])
end LK
