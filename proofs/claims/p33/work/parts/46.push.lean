/-! the law pushes back, and lets fall -/
section LP
variable {sc : Option (Nat × (Nat → Int32))} {x xc : xX} {y : lY} {r : xW} {N C : Nat} {q od : List Nat} {t : Nat}
/-- what moving cards leaves -/
def lSg (N C : Nat) (T : Nat) (xc x' : xX) (r : xW) : xX → lY → xW → Prop := fun x1 y1 r1 => x1 = xc ∧ r1 = r ∧ ∃ q' od' t', t' ≤ T ∧ LR N C q' od' t' x' y1
theorem LR.setCard (h : LR N C q od t x y) {k i ro : Nat} (hp : (i = 3 ∧ ro = 4) ∨ (i = 4 ∧ ro = 5) ∨ (i = 2 ∧ ro = 3)) (v : Int32) (hi : cInv N C q t (sA x ro k v)) : LR N C q od t (sA x ro k v) (yS y 1 (5 * k + i) v) := by
  obtain ⟨⟨hi0, h10, h12⟩, ⟨m0, m1, m2, m3, m4⟩, hc, hg, hq, ho⟩ := h
  have nr : ∀ s, s ≠ ro → (sA x ro k v).2 s = x.2 s := fun s hs => by
    show va_up x.2 ro _ s = x.2 s
    exact if_neg hs
  have yr : (sA x ro k v).2 ro = upd (x.2 ro) k v := by
    show va_up x.2 ro _ ro = _
    exact if_pos rfl
  have ya : ∀ a, a ≠ 1 → yS y 1 (5 * k + i) v a = y a := fun a ha => yS_a ha
  refine ⟨⟨hi, h10, h12.1, by rw [nr 0 (by omega)]; exact h12.2⟩, ⟨by rw [ya 4 (by decide)]; exact m0, by rw [ya 4 (by decide)]; exact m1, by rw [ya 4 (by decide)]; exact m2, by rw [ya 4 (by decide)]; exact m3, fun j h1 h3 => by rw [ya 4 (by decide), nr 6 (by omega)]; exact m4 j h1 h3⟩, fun k' hk' => ?_, fun c hc => by rw [ya 2 (by decide), nr 7 (by omega), nr 8 (by omega), nr 9 (by omega), nr 10 (by omega)]; exact hg c hc, fun i v hv => by rw [ya 3 (by decide)]; exact hq i v hv, by rw [ya 0 (by decide), nr 2 (by omega)]; exact ho⟩
  obtain ⟨g0, g1, g2, g3, g4⟩ := hc k' hk'
  have go : ∀ j s, j ≤ 4 → s ≠ ro → j ≠ i → y 1 (5 * k' + j) = x.2 s k' → yS y 1 (5 * k + i) v 1 (5 * k' + j) = (sA x ro k v).2 s k' := fun j s hj hs hji e => by
    rw [nr s hs, yS_i (by omega)]; exact e
  have gs : y 1 (5 * k' + i) = x.2 ro k' → yS y 1 (5 * k + i) v 1 (5 * k' + i) = (sA x ro k v).2 ro k' := fun e => by
    rw [yr]
    by_cases e2 : k' = k
    · subst e2; rw [yS_s, pk_us]
    · rw [yS_i (by omega), pk_un e2]; exact e
  rcases hp with ⟨rfl, rfl⟩ | ⟨rfl, rfl⟩ | ⟨rfl, rfl⟩
  · exact ⟨go 0 0 (by omega) (by omega) (by omega) g0, go 1 1 (by omega) (by omega) (by omega) g1, go 2 3 (by omega) (by omega) (by omega) g2, gs g3, go 4 5 (by omega) (by omega) (by omega) g4⟩
  · exact ⟨go 0 0 (by omega) (by omega) (by omega) g0, go 1 1 (by omega) (by omega) (by omega) g1, go 2 3 (by omega) (by omega) (by omega) g2, go 3 4 (by omega) (by omega) (by omega) g3, gs g4⟩
  · exact ⟨go 0 0 (by omega) (by omega) (by omega) g0, go 1 1 (by omega) (by omega) (by omega) g1, gs g2, go 3 4 (by omega) (by omega) (by omega) g3, go 4 5 (by omega) (by omega) (by omega) g4⟩
/-- among the first i that came, the latest of the lowest rank in the column -/
def lLow (x : xX) (od : List Nat) (col : Int32) (i : Nat) (v : Int32) : Prop := (v = xk 1 1 ∧ ∀ b ∈ od.take i, ¬ x.2 1 b = col) ∨ (∃ c, v = nI c ∧ c ∈ od.take i ∧ x.2 1 c = col ∧ ∀ b ∈ od.take i, x.2 1 b = col → b ≠ c → cLs x b c = true)
theorem lLow_end (h : LR N C q od t x y) {col : Int32} {v : Int32} (hs : 0 < cSz x N col) (hv : lLow x od col N v) : v = nI (cLow x N col) := by
  have et : od.take N = od := List.take_of_length_le (by rw [h.ol]; exact Nat.le_refl _)
  obtain ⟨l1, l2, l3, l4⟩ := h.inv.low hs
  unfold lLow at hv
  rw [et] at hv
  rcases hv with ⟨-, hv⟩ | ⟨c, rfl, hc, hcol, hall⟩
  · exact absurd l2 (hv _ ((h.oin _).mpr l1))
  · have hcN : c < N := (h.oin c).mp hc
    have h1 : cAh x N c + 1 = cSz x N col := by
      rw [cAh_eq hcol]
      exact ahd_max (P := fun j => decide (x.2 1 j = col)) cLs_irr hcN (by simpa using hcol) (fun j hj hP hne => hall j ((h.oin j).mpr hj) (by simpa using hP) hne)
    have := h.inv.one hcN l1 hcol l2 (by omega)
    rw [this]
theorem lLow_step (h : LR N C q od t x y) {col : Int32} {v : Int32} {i : Nat} (hi : i < od.length) (hv : lLow x od col i v) :
    (¬ x.2 1 od[i] = col → lLow x od col (i + 1) v) ∧ (x.2 1 od[i] = col → (v = xk 1 1 ∨ ∃ c, v = nI c ∧ c < N ∧ x.2 0 od[i] ≤ x.2 0 c) → lLow x od col (i + 1) (nI od[i])) ∧ (x.2 1 od[i] = col → ∀ c, v = nI c → c < N → ¬ x.2 0 od[i] ≤ x.2 0 c → lLow x od col (i + 1) v) := by
  have et : od.take (i + 1) = od.take i ++ [od[i]] := List.take_succ_eq_append_getElem hi
  have hso := h.oso
  have hnd := h.ond
  have hlate : ∀ b, b ∈ od.take i → x.2 2 b < x.2 2 od[i] := fun b hb => by
    rw [List.mem_take_iff_getElem] at hb
    obtain ⟨p, hp, rfl⟩ := hb
    rw [List.pairwise_iff_getElem] at hso
    exact hso p i (by omega) hi (by omega)
  have hN := h.n
  have hinj : ∀ a b : Nat, a < N → b < N → nI a = nI b → a = b := fun a b ha hb e => (eq_nI (by omega) (by omega)).mp e
  have hno : ∀ c : Nat, c < N → ¬ nI c = xk 1 1 := fun c hc e => by
    have h1 := n0_nI (a := c) (by omega)
    rw [e] at h1
    exact h1 (by decide)
  have hmN : ∀ b, b ∈ od.take i → b < N := fun b hb => (h.oin b).mp (List.mem_of_mem_take hb)
  unfold lLow
  rw [et]
  refine ⟨fun hn => ?_, fun hc hw => ?_, fun hc c hcv hcN hr => ?_⟩
  · rcases hv with ⟨e, ha⟩ | ⟨c, e, h1, h2, h3⟩
    · refine Or.inl ⟨e, fun b hb => ?_⟩
      rcases List.mem_append.mp hb with hb | hb
      · exact ha b hb
      · rw [List.mem_singleton.mp hb]; exact hn
    · refine Or.inr ⟨c, e, List.mem_append_left _ h1, h2, fun b hb hbc hne => ?_⟩
      rcases List.mem_append.mp hb with hb | hb
      · exact h3 b hb hbc hne
      · rw [List.mem_singleton.mp hb] at hbc; exact absurd hbc hn
  · refine Or.inr ⟨_, rfl, List.mem_append_right _ (List.mem_singleton.mpr rfl), hc, fun b hb hbc hne => ?_⟩
    rcases List.mem_append.mp hb with hb | hb
    · rcases hv with ⟨e, ha⟩ | ⟨c, e, h1, h2, h3⟩
      · exact absurd hbc (ha b hb)
      · rcases hw with e2 | ⟨c2, e2, hc2, hr⟩
        · rw [e2] at e; exact absurd e.symm (hno c (hmN c h1))
        · have : c = c2 := hinj _ _ (hmN c h1) hc2 (by rw [← e, ← e2])
          subst this
          have hl : cLs x c od[i] = true := by
            rw [cLs_iff]
            have h5 := hlate c h1
            simp only [fa_lt, fa_le, fa_eq] at hr h5 ⊢
            omega
          by_cases e3 : b = c
          · rw [e3]; exact hl
          · exact cLs_tr _ _ _ (h3 b hb hbc e3) hl
    · exact absurd (List.mem_singleton.mp hb) hne
  · rcases hv with ⟨e, ha⟩ | ⟨c2, e, h1, h2, h3⟩
    · rw [hcv] at e; exact absurd e (hno c hcN)
    · have : c = c2 := hinj _ _ hcN (hmN c2 h1) (by rw [← hcv, ← e])
      subst this
      refine Or.inr ⟨c, e, List.mem_append_left _ h1, h2, fun b hb hbc hne => ?_⟩
      rcases List.mem_append.mp hb with hb | hb
      · exact h3 b hb hbc hne
      · rw [List.mem_singleton.mp hb, cLs_iff]
        refine Or.inl ?_
        simp only [fa_lt, fa_le] at hr ⊢
        omega
set_option maxHeartbeats 16000000 in
theorem l_lowLoop (n : Nat) (h : LR N C q od t x y) (a0 : Int32) (a : Nat) {P : xR → xW → Prop} (hP : ∀ v z8, lLow x od (nI a) N v → xAt sc k_L_push n P (96, [some (.ref 15), some (.ref 16), some (.ref 17), some (.ref 18), some (.ref 19), some (.int a0), some (.int (nI a)), some (.int v), z8], [], wY xc y r, 0)) : ∀ (m i : Nat) (v : Int32), i + m = N → lLow x od (nI a) i v → xAt sc k_L_push n P (33, [some (.ref 15), some (.ref 16), some (.ref 17), some (.ref 18), some (.ref 19), some (.int a0), some (.int (nI a)), some (.int v), some (.int (nI i))], [], wY xc y r, 0)
  | 0, i, v, hi, hv => by
    have hN1 := h.hN
    have hN := h.n
    have ei : i = N := by omega
    subst ei
    refine xWp.gb rfl ⟨inx (by omega) (by omega), trivial⟩ rfl (fun _ => ?_) (fun h9 => ?_)
    · exact hP v _ hv
    · have h' : ¬ y 4 0 ≤ nI i := h9
      rw [hN1, le_nI (by omega) (by omega)] at h'; omega
  | m + 1, i, v, hi, hv => by
    have hN1 := h.hN
    have hN := h.n
    have hl := h.ol
    have hi2 : i < od.length := by omega
    have hdN : od[i] < N := (h.oin _).mp (List.getElem_mem hi2)
    have ed : y 0 (nI i).toNatClampNeg = nI od[i] := by rw [cl_nI (by omega)]; exact h.oi (List.getElem?_eq_getElem hi2)
    obtain ⟨s1, s2, s3⟩ := lLow_step h (col := nI a) hi2 hv
    have g1 : vp_in (xk 5 0 * y 0 (nI i).toNatClampNeg + xk 1 0) 50 := by rw [ed]; exact in5 (K := 10) (by omega) (by omega) (by omega)
    have g0 : vp_in (xk 5 0 * y 0 (nI i).toNatClampNeg) 50 := by rw [ed]; exact in50 (K := 10) (by omega) (by omega)
    have e1 : y 1 (xk 5 0 * y 0 (nI i).toNatClampNeg + xk 1 0).toNatClampNeg = x.2 1 od[i] := by rw [ed, c5 (by omega) (by omega), h.col (by omega)]
    have e0 : y 1 (xk 5 0 * y 0 (nI i).toNatClampNeg).toNatClampNeg = x.2 0 od[i] := by rw [ed, c50 (by omega), h.rank (by omega)]
    have keep : lLow x od (nI a) (i + 1) v → xAt sc k_L_push n P (86, [some (.ref 15), some (.ref 16), some (.ref 17), some (.ref 18), some (.ref 19), some (.int a0), some (.int (nI a)), some (.int v), some (.int (nI i))], [], wY xc y r, 0) := fun hv' => by
      have ih := l_lowLoop n h a0 a hP m (i + 1) v (by omega) hv'
      rw [nI_s i] at ih
      exact xWp.go 33 rfl trivial ih
    have take : lLow x od (nI a) (i + 1) (nI od[i]) → xAt sc k_L_push n P (79, [some (.ref 15), some (.ref 16), some (.ref 17), some (.ref 18), some (.ref 19), some (.int a0), some (.int (nI a)), some (.int v), some (.int (nI i))], [], wY xc y r, 0) := fun hv' => by
      have ih := l_lowLoop n h a0 a hP m (i + 1) _ (by omega) hv'
      rw [nI_s i, ← ed] at ih
      exact xWp.go 33 rfl ⟨in_nI (by omega) (by omega), trivial⟩ ih
    refine xWp.gb rfl ⟨inx (by omega) (by omega), trivial⟩ rfl (fun h9 => ?_) (fun _ => ?_)
    · have h' : y 4 0 ≤ nI i := h9
      rw [hN1, le_nI (by omega) (by omega)] at h'; omega
    refine xWp.gb rfl ⟨in_nI (by omega) (by omega), g1, trivial⟩ rfl (fun h8 => ?_) (fun h8 => ?_)
    · have h8' : y 1 (xk 5 0 * y 0 (nI i).toNatClampNeg + xk 1 0).toNatClampNeg = nI a := h8
      rw [e1] at h8'
      have hvv := hv
      rcases hvv with ⟨ev, -⟩ | ⟨c, ev, hc, -, -⟩
      · refine xWp.gb rfl trivial rfl (fun _ => ?_) (fun h7 => ?_)
        · exact take (s2 h8' (Or.inl ev))
        · rw [ev] at h7; exact absurd (show xk 1 1 < 0 by decide) h7
      · have hcN : c < N := (h.oin c).mp (List.mem_of_mem_take hc)
        refine xWp.gb rfl trivial rfl (fun h7 => ?_) (fun _ => ?_)
        · rw [ev] at h7; exact absurd h7 (n0_nI (by omega))
        have ec : y 1 (xk 5 0 * v).toNatClampNeg = x.2 0 c := by rw [ev, c50 (by omega), h.rank (by omega)]
        refine xWp.gb rfl ⟨in_nI (by omega) (by omega), g0, by rw [ev]; exact in50 (K := 10) (by omega) (by omega), trivial⟩ rfl (fun h6 => ?_) (fun h6 => ?_)
        · have h6' : y 1 (xk 5 0 * v).toNatClampNeg < y 1 (xk 5 0 * y 0 (nI i).toNatClampNeg).toNatClampNeg := h6
          rw [e0, ec] at h6'
          exact keep (s3 h8' c ev hcN (fa_of_lt h6').2.1)
        · have h6' : ¬ y 1 (xk 5 0 * v).toNatClampNeg < y 1 (xk 5 0 * y 0 (nI i).toNatClampNeg).toNatClampNeg := h6
          rw [e0, ec] at h6'
          exact take (s2 h8' (Or.inr ⟨c, ev, hcN, fa_of_nlt h6'⟩))
    · have h8' : ¬ y 1 (xk 5 0 * y 0 (nI i).toNatClampNeg + xk 1 0).toNatClampNeg = nI a := h8
      rw [e1] at h8'
      exact keep (s1 h8')
end LP
