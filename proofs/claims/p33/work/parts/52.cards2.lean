/-! the law holds the order of a column against the class -/
section LAo
variable {sc : Option (Nat × (Nat → Int32))} {x : xX} {y : lY} {N C : Nat} {q od : List Nat} {t : Nat}
def rkN (x : xX) (k : Nat) : Nat := (x.2 0 k).toNatClampNeg
theorem LR.rkn (h : LR N C q od t x y) (k : Nat) : x.2 0 k = nI (rkN x k) ∧ rkN x k ≤ 9 := by
  obtain ⟨p, h1, h2⟩ := h.rk k
  have e : rkN x k = p := by unfold rkN; rw [h2]; exact cl_nI (by omega)
  rw [e]
  exact ⟨h2, h1⟩
/-- how many of the column come ahead of the one of rank c - 1 that came i-th -/
def lPl (x : xX) (od : List Nat) (col : Int32) (N c i : Nat) : Nat := fb_ct (fun k => decide (x.2 1 k = col) && (decide (c ≤ rkN x k) || (decide (rkN x k + 1 = c) && decide (k ∈ od.take i)))) N
theorem lPl_le {col : Int32} {c i : Nat} : lPl x od col N c i ≤ N := fb_ct_le _ _
theorem lPl_top (h : LR N C q od t x y) (col : Int32) : lPl x od col N 10 0 = 0 := fb_ct_zero.mpr (fun k hk => by
  have := (h.rkn k).2
  have h1 : ¬ 10 ≤ rkN x k := by omega
  simp [h1])
theorem lPl_next (h : LR N C q od t x y) (col : Int32) (c : Nat) : lPl x od col N (c + 1) N = lPl x od col N c 0 := fb_ct_cong (fun k hk => by
  have h1 : k ∈ od.take N := by
    rw [List.take_of_length_le (by rw [h.ol]; exact Nat.le_refl _)]
    exact (h.oin k).mpr hk
  by_cases h2 : c ≤ rkN x k
  · by_cases h3 : rkN x k + 1 = c + 1
    · simp [h1, h2, h3]
    · have : c + 1 ≤ rkN x k := by omega
      simp [h2, this]
  · have h3 : ¬ c + 1 ≤ rkN x k := by omega
    have h4 : ¬ rkN x k + 1 = c + 1 := by omega
    have h5 : ¬ rkN x k = c := by omega
    simp [h2, h3, h5])
theorem lPl_end (col : Int32) : lPl x od col N 0 0 = cSz x N col := fb_ct_cong (fun k hk => by simp)
theorem lPl_step (h : LR N C q od t x y) {col : Int32} {c i : Nat} (hi : i < od.length) : lPl x od col N c (i + 1) = lPl x od col N c i + (if decide (x.2 1 od[i] = col) && decide (rkN x od[i] + 1 = c) then 1 else 0) := by
  have hdN : od[i] < N := (h.oin _).mp (List.getElem_mem hi)
  have et : od.take (i + 1) = od.take i ++ [od[i]] := List.take_succ_eq_append_getElem hi
  have hnt : od[i] ∉ od.take i := fun z => by
    have := (nd_take h.ond hi).mp z
    omega
  have hm : ∀ k, k ≠ od[i] → decide (k ∈ od.take (i + 1)) = decide (k ∈ od.take i) := fun k e => decide_eq_decide.mpr (by rw [et, List.mem_append, List.mem_singleton]; exact ⟨fun z => z.resolve_right e, Or.inl⟩)
  have hm2 : decide (od[i] ∈ od.take (i + 1)) = true := decide_eq_true (by rw [et]; exact List.mem_append_right _ (List.mem_singleton.mpr rfl))
  have hm3 : decide (od[i] ∈ od.take i) = false := decide_eq_false hnt
  unfold lPl
  by_cases hc : x.2 1 od[i] = col ∧ rkN x od[i] + 1 = c
  · rw [if_pos (by simp [hc.1, hc.2])]
    have key : fb_ct (fun k => (decide (x.2 1 k = col) && (decide (c ≤ rkN x k) || (decide (rkN x k + 1 = c) && decide (k ∈ od.take i)))) || decide (k = od[i])) N = fb_ct (fun k => decide (x.2 1 k = col) && (decide (c ≤ rkN x k) || (decide (rkN x k + 1 = c) && decide (k ∈ od.take i)))) N + 1 := by
      rw [fb_ct_or (fun k _ hz => by
        obtain ⟨h1, h2⟩ := hz
        have e : k = od[i] := by simpa using h2
        rw [e, hm3] at h1
        have h3 : ¬ c ≤ rkN x od[i] := by omega
        simp [h3] at h1), ct_one hdN]
    rw [← key]
    refine fb_ct_cong (fun k hk => ?_)
    by_cases e : k = od[i]
    · rw [e, hm2, decide_eq_true hc.1, decide_eq_true hc.2]; simp
    · rw [hm k e, decide_eq_false e, Bool.or_false]
  · rw [if_neg (by simpa using hc), Nat.add_zero]
    refine fb_ct_cong (fun k hk => ?_)
    by_cases e : k = od[i]
    · rw [e, hm2, hm3]
      by_cases h1 : x.2 1 od[i] = col
      · have h2 : ¬ rkN x od[i] + 1 = c := fun z => hc ⟨h1, z⟩
        rw [decide_eq_false h2]; simp
      · rw [decide_eq_false h1]; simp
    · rw [hm k e]
theorem lPl_at (h : LR N C q od t x y) {col : Int32} {i : Nat} (hi : i < od.length) (hc : x.2 1 od[i] = col) : cAh x N od[i] = lPl x od col N (rkN x od[i] + 1) i := by
  have hso := h.oso
  rw [List.pairwise_iff_getElem] at hso
  refine fb_ct_cong (fun j hj => ?_)
  rw [hc]
  have hjm := (h.oin j).mpr hj
  obtain ⟨p, hp, ej⟩ := List.getElem_of_mem hjm
  have har : x.2 2 j < x.2 2 od[i] ↔ j ∈ od.take i := by
    rw [← ej, nd_take h.ond hp]
    constructor
    · intro h1
      rcases Nat.lt_trichotomy p i with z | z | z
      · exact z
      · subst z
        exact absurd h1 (fun z => by rw [fa_lt] at z; omega)
      · have h2 := hso i p hi hp z
        rw [fa_lt] at h1 h2
        omega
    · exact fun z => hso p i hp hi z
  have e1 := (h.rkn j).1
  have e2 := (h.rkn od[i]).1
  have b1 := (h.rkn j).2
  have b2 := (h.rkn od[i]).2
  unfold cLs
  rw [e1, e2, decide_eq_decide.mpr har]
  have r1 : nI (rkN x od[i]) < nI (rkN x j) ↔ rkN x od[i] + 1 ≤ rkN x j := lt_nI (by omega) (by omega)
  have r2 : nI (rkN x j) = nI (rkN x od[i]) ↔ rkN x j + 1 = rkN x od[i] + 1 := by rw [eq_nI (by omega) (by omega)]; omega
  rw [decide_eq_decide.mpr r1, decide_eq_decide.mpr r2]
set_option maxHeartbeats 16000000 in
theorem l_acIn (h : LR N C q od t x y) (z : Option Value) {cj c B : Nat} (hc9 : c ≤ 900) (hcj : cj ≤ 4) (hB : B + 20 ≤ 100) {Pq : xR → xW → Prop} (hP : ∀ a10, xAt sc k_L_areCards 20 Pq (352, acL z (some (.int (nI 1))) (some (.int (nI cj))) (some (.int (nI (lPl x od (nI cj) N (c + 1) N)))) (some (.int (nI c))) a10, [], wY x y [], B + 2 * lPl x od (nI cj) N (c + 1) N)) : xAt sc k_L_areCards 20 Pq (279, acL z (some (.int (nI 1))) (some (.int (nI cj))) (some (.int (nI (lPl x od (nI cj) N (c + 1) 0)))) (some (.int (nI c))) (some (.int (nI 0))), [], wY x y [], B + 2 * lPl x od (nI cj) N (c + 1) 0) := by
  have hN := h.n
  have hN1 := h.hN
  have hl := h.ol
  refine xWp.loop N (fun i => (279, acL z (some (.int (nI 1))) (some (.int (nI cj))) (some (.int (nI (lPl x od (nI cj) N (c + 1) i)))) (some (.int (nI c))) (some (.int (nI i))), [], wY x y [], B + 2 * lPl x od (nI cj) N (c + 1) i)) (fun i hi ih => ?_) ?_
  · have hi2 : i < od.length := by omega
    have hdN : od[i] < N := (h.oin _).mp (List.getElem_mem hi2)
    have hst := lPl_step h (col := nI cj) (c := c + 1) hi2
    have hat := fun hc => lPl_at h (col := nI cj) hi2 hc
    have ed : y 0 (nI i).toNatClampNeg = nI od[i] := by rw [cl_nI (by omega)]; exact h.oi (List.getElem?_eq_getElem hi2)
    have g1 : vp_in (xk 5 0 * y 0 (nI i).toNatClampNeg + xk 1 0) 50 := by rw [ed]; exact in5 (K := 10) (by omega) (by omega) (by omega)
    have g0 : vp_in (xk 5 0 * y 0 (nI i).toNatClampNeg) 50 := by rw [ed]; exact in50 (K := 10) (by omega) (by omega)
    have e1 : y 1 (xk 5 0 * y 0 (nI i).toNatClampNeg + xk 1 0).toNatClampNeg = x.2 1 od[i] := by rw [ed, c5 (by omega) (by omega), h.col (by omega)]
    have e0 : y 1 (xk 5 0 * y 0 (nI i).toNatClampNeg).toNatClampNeg = nI (rkN x od[i]) := by rw [ed, c50 (by omega), h.rank (by omega)]; exact (h.rkn _).1
    have b9 := (h.rkn od[i]).2
    have hle := lPl_le (x := x) (od := od) (N := N) (col := nI cj) (c := c + 1) (i := i)
    unfold acL at ih
    rw [nI_s i] at ih
    have skip : lPl x od (nI cj) N (c + 1) (i + 1) = lPl x od (nI cj) N (c + 1) i → xAt sc k_L_areCards 20 Pq (346, acL z (some (.int (nI 1))) (some (.int (nI cj))) (some (.int (nI (lPl x od (nI cj) N (c + 1) i)))) (some (.int (nI c))) (some (.int (nI i))), [], wY x y [], B + 2 * lPl x od (nI cj) N (c + 1) i) := fun e => by
      rw [e] at ih
      exact xWp.go 279 rfl trivial ih
    refine xWp.gb rfl ⟨inx (by omega) (by omega), trivial⟩ rfl (fun h9 => ?_) (fun _ => ?_)
    · have h' : y 4 0 ≤ nI i := h9
      rw [hN1, le_nI (by omega) (by omega)] at h'; omega
    refine xWp.gb rfl trivial rfl (fun h9 => absurd h9 (by decide)) (fun _ => ?_)
    refine xWp.gb rfl ⟨in_nI (by omega) (by omega), g1, trivial⟩ rfl (fun h8 => ?_) (fun h8 => ?_)
    · have h8' : y 1 (xk 5 0 * y 0 (nI i).toNatClampNeg + xk 1 0).toNatClampNeg = nI cj := h8
      rw [e1] at h8'
      refine xWp.gb rfl ⟨in_nI (by omega) (by omega), g0, trivial⟩ rfl (fun h7 => ?_) (fun h7 => ?_)
      · have h7' : y 1 (xk 5 0 * y 0 (nI i).toNatClampNeg).toNatClampNeg = nI c := h7
        have hrc : rkN x od[i] = c := by
          rw [e0] at h7'
          exact (eq_nI (by omega) hc9).mp h7'
        have hp := hat h8'
        rw [hrc] at hp
        rw [if_pos (by simp [h8', hrc])] at hst
        have hps : lPl x od (nI cj) N (c + 1) i < cSz x N (nI cj) := by
          rw [← hp, cAh_eq h8']
          exact ahd_bd (P := fun j => decide (x.2 1 j = nI cj)) cLs_irr hdN (by simpa using h8')
        rw [hst, nI_s (lPl x od (nI cj) N (c + 1) i), show B + 2 * (lPl x od (nI cj) N (c + 1) i + 1) = B + 2 * lPl x od (nI cj) N (c + 1) i + 2 by omega] at ih
        refine xWp.gc rfl trivial rfl (c_cardAt h.inv hcj hdN h8' hp hps) (show B + 2 * lPl x od (nI cj) N (c + 1) i + 2 ≤ 110 by omega) ?_
        refine xWp.gb rfl ⟨in_nI (by omega) (by omega), trivial⟩ rfl (fun _ => ?_) (fun h9 => absurd ed.symm h9)
        exact xWp.go 279 rfl trivial ih
      · have h7' : ¬ y 1 (xk 5 0 * y 0 (nI i).toNatClampNeg).toNatClampNeg = nI c := h7
        rw [e0] at h7'
        have hne : ¬ rkN x od[i] + 1 = c + 1 := fun z => h7' (by rw [show rkN x od[i] = c by omega])
        refine skip ?_
        rw [hst, if_neg (by simp; intro _ z; exact hne (by omega)), Nat.add_zero]
    · have h8' : ¬ y 1 (xk 5 0 * y 0 (nI i).toNatClampNeg + xk 1 0).toNatClampNeg = nI cj := h8
      rw [e1] at h8'
      refine skip ?_
      rw [hst, if_neg (by simp [h8']), Nat.add_zero]
  · refine xWp.gb rfl ⟨inx (by omega) (by omega), trivial⟩ rfl (fun _ => ?_) (fun h9 => ?_)
    · exact hP _
    · have h' : ¬ y 4 0 ≤ nI N := h9
      rw [hN1, le_nI (by omega) (by omega)] at h'; omega
set_option maxHeartbeats 16000000 in
theorem l_acOut (h : LR N C q od t x y) (z : Option Value) {cj B : Nat} (hcj : cj ≤ 4) (hB : B + 20 ≤ 100) {Pq : xR → xW → Prop} (hP : ∀ a9 a10, xAt sc k_L_areCards 20 Pq (358, acL z (some (.int (nI 1))) (some (.int (nI cj))) (some (.int (nI (cSz x N (nI cj))))) a9 a10, [], wY x y [], B + 2 * cSz x N (nI cj))) : ∀ c, c ≤ 10 → ∀ a10, xAt sc k_L_areCards 20 Pq (266, acL z (some (.int (nI 1))) (some (.int (nI cj))) (some (.int (nI (lPl x od (nI cj) N c 0)))) (some (.int (iiN c))) a10, [], wY x y [], B + 2 * lPl x od (nI cj) N c 0)
  | 0, hc, a10 => by
    refine xWp.gb rfl trivial rfl (fun _ => ?_) (fun h9 => absurd (show xk 1 1 < 0 by decide) h9)
    rw [lPl_end]
    exact hP _ _
  | c + 1, hc, a10 => by
    refine xWp.gb rfl trivial rfl (fun h9 => absurd h9 (n0_nI (a := c) (by omega))) (fun _ => ?_)
    refine xWp.gb rfl trivial rfl (fun h9 => absurd h9 (by decide)) (fun _ => ?_)
    refine xWp.go 279 rfl trivial ?_
    refine l_acIn h z (c := c) (by omega) hcj hB (fun a10 => ?_)
    have ih := l_acOut h z hcj hB hP c (by omega) a10
    rw [← lPl_next h, ← iiN_s c] at ih
    exact xWp.go 266 rfl trivial ih
set_option maxHeartbeats 16000000 in
theorem l_areCards (h : LR N C q od t x y) {zz : Nat} (hz : zz < 2 ^ 31) : xCW sc 21 k_L_areCards [.ref 0, .ref 15, .ref 16, .ref 17, .ref 19, .int (nI zz)] (wY x y []) (xIs (.inl (some (.int (nI 1)))) (wY x y [])) := by
  have hN := h.n
  have hC := h.c
  have e5 : nI zz - nI zz / xk 5 0 * xk 5 0 = nI (zz % 5) := pk_rem hz (by omega) (by omega)
  have n5 : ¬ xk 5 0 = 0 := by decide
  have h29 : xAt sc k_L_areCards 20 (xIs (.inl (some (.int (nI 1)))) (wY x y [])) (32, acL (some (.int (nI zz))) (some (.int (nI 1))) (some (.int (nI 0))) none none none, [], wY x y [], 5 * 0) := by
    refine l_acCards 20 h _ (fun a7 a8 a9 a10 => ?_) none
    refine xWp.go 159 rfl trivial ?_
    refine l_acChanges 20 h _ (fun a7 a8 a9 a10 => ?_) a8 a9 a10
    have out := l_acOut (sc := sc) h (some (.int (nI zz))) (cj := zz % 5) (B := 5 * N + 2 * C) (by omega) (by omega) (Pq := xIs (.inl (some (.int (nI 1)))) (wY x y [])) (fun a9 a10 => ?_) 10 (by omega) a10
    · rw [lPl_top h] at out
      refine xWp.go 266 rfl ⟨n5, trivial⟩ ?_
      rw [e5]
      exact out
    · have hsz := cSz_le (x := x) (N := N) (nI (zz % 5))
      refine xWp.gb rfl trivial rfl (fun h9 => absurd h9 (by decide)) (fun _ => ?_)
      refine xWp.gc rfl trivial rfl (c_cardsIn h.inv.wf (j := zz % 5) (by omega)) (show 5 * N + 2 * C + 2 * cSz x N (nI (zz % 5)) + 1 ≤ 110 by omega) ?_
      refine xWp.gb rfl trivial rfl (fun _ => ?_) (fun h9 => absurd rfl h9)
      exact xWp.gf rfl trivial rfl (Or.inr (Or.inr rfl)) ⟨rfl, rfl⟩
  have e1 : x.1 1 = y 4 0 := by rw [h.hN]; exact h.inv.wf.1
  have e2 : x.1 4 = y 4 1 := by rw [h.hC]; exact h.inv.wf.2.2.1
  refine xWp.gc rfl trivial rfl c_cards (by decide) ?_
  refine xWp.gb rfl ⟨inx (by omega) (by omega), trivial⟩ rfl (fun _ => ?_) (fun h9 => absurd e1 h9)
  refine xWp.gc rfl trivial rfl c_changes (by decide) ?_
  refine xWp.gb rfl ⟨inx (by omega) (by omega), trivial⟩ rfl (fun _ => ?_) (fun h9 => absurd e2 h9)
  exact xWp.go 32 rfl trivial h29
end LAo
