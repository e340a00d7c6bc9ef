/-! calls on both sides, 7: merge -/
section O7
variable {x x0 y : xX} {o : Nat → Int64} {N C : Nat} {q : List Nat} {t : Nat} {w : xW} {S : Int32}
def st3 (x z : xX) : Prop := ∀ c, z.2 10 c = nI 3 ↔ x.2 10 c = nI 3
theorem st3.rf : st3 x x := fun _ => Iff.rfl
theorem st3.tr {a b c : xX} (h : st3 a b) (h2 : st3 b c) : st3 a c := fun i => (h2 i).trans (h i)
theorem st3_shift (h : cInv N C q t x) {k j : Nat} (hk : k < N) (hj : j ≤ 4) (ht : t < 1000000) : st3 x (cShift x N k (nI j)) := by
  have hp := iPut h hk hj ht
  unfold cShift
  rw [cQn_of h.wf]
  split
  · intro c
    rw [(cUnq_fl hp _).2.2.1 c]
    split
    · rename_i hc
      have e : x.2 10 c = nI 1 := ((h.1.2.2.2 c).mp hc.1).2
      rw [e]
      decide
    · exact Iff.rfl
  · exact fun _ => Iff.rfl
theorem st3_psh1 (h : cInv N C q t x) {a : Nat} (ha : a ≤ 4) (hs : 0 < cSz x N (nI (a + 1))) (ht : t < 1000000) : st3 x (cPsh1 N a x) := by
  obtain ⟨h1, -⟩ := h.low hs
  have h' : cInv N C q t (sA x 5 (cLow x N (nI (a + 1))) (x.2 5 (cLow x N (nI (a + 1))) + nI 1)) := h
  have := st3_shift h' h1 ha ht
  exact this
theorem st3_push : ∀ (a : Nat) {x : xX} {q : List Nat} {t : Nat}, cInv N C q t x → a ≤ 4 → t + a ≤ 1000000 → st3 x (cPush N a x)
  | 0, x, q, t, h, _, _ => st3.rf
  | a + 1, x, q, t, h, ha, ht => by
    rw [cPush]
    split
    · rename_i hb
      obtain ⟨h1, l, hl⟩ := cAb_sz h (by omega) hb
      obtain ⟨q', h2⟩ := iPsh1 (a := a) h (by omega) (by omega) (by omega)
      exact (st3_psh1 h (by omega) (by omega) (by omega)).tr (st3_push a h2 (by omega) (by omega))
    · exact st3.rf
theorem st3_fall (h : cInv N C q t x) {k : Nat} (hk : k < N) (ht : t + 2 ≤ 1000000) : st3 x (cFall N k x) := by
  have h' : cInv N C q t (sA x 4 k (x.2 4 k + nI 1)) := h
  obtain ⟨q1, h1⟩ := iShift h' hk (j := 1) (by omega) (by omega)
  have e1 := st3_shift h' hk (j := 1) (by omega) (by omega)
  have e2 : st3 x (cShift (sA x 4 k (x.2 4 k + nI 1)) N k (nI 1)) := e1
  exact e2.tr (st3_push 1 h1 (by omega) (by omega))
theorem st3_drop (h : cInv N C q t x) (m : Int32) (ad : Bool) (ht : t + 2 * N ≤ 1000000) : ∀ k, k ≤ N → st3 x (cDrop N m ad x k).1
  | 0, _ => st3.rf
  | k + 1, hk => by
    obtain ⟨q', t', h1, h2, h3⟩ := iDrop h m ad ht k (by omega)
    have ih := st3_drop h m ad ht k (by omega)
    rw [cDrop, cDr1]
    split
    · exact ih.tr (st3_fall h2 (by omega) (by omega))
    · exact ih
theorem rMg0 (h : Rel N C q t x y) {l : Nat} (hl : l ≤ q.length) {z : xX} (z1 : ∀ i, i ≠ 3 → i ≠ 4 → i ≠ 5 → i ≠ 6 → z.1 i = y.1 i) (z3 : z.1 3 = nI (q.length - l)) (z4 : z.1 4 = x.1 0 + (cFR x C l).2.2) (e8 : ∀ c, z.2 8 c = if c ∈ q.take l then (if bt (cFR x C l).1 c then nI 2 else nI 3) else x.2 10 c) (e12 : ∀ i, i + l < q.length → z.2 12 i = nI (cq x (i + l))) (er : ∀ r, r ≠ 8 → r ≠ 12 → r ≠ 13 → r ≠ 14 → r ≠ 15 → z.2 r = y.2 r) : Rel N C (q.drop l) t (cMg0 x C q.length l) z := by
  have hi := iMg0 h.1 hl
  have hr : cInv N C q t (cTr x (cFR x C l)) := h.1
  obtain ⟨u1, u2, u3, u4⟩ := cStl_fl hr hl
  have hcq := h.1.cqv
  obtain ⟨-, ⟨n0, n1, n2, n3, n4⟩, ⟨r0, r1, r3, r4, r6, r7, r8⟩, ⟨ra, rq⟩, ⟨s5, s9, s10, s11⟩⟩ := h
  have hm0 : (cMg0 x C q.length l).1 0 = x.1 0 + (cFR x C l).2.2 := by
    show (cStl (cTr x (cFR x C l)) l q.length).1 0 + (cStl (cTr x (cFR x C l)) l q.length).1 8 = _
    rw [u1]
    rfl
  have hm3 : (cMg0 x C q.length l).1 3 = x.1 3 := by
    show (cStl (cTr x (cFR x C l)) l q.length).1 3 = _
    rw [u1]
    rfl
  have hm : (cMg0 x C q.length l).2 = (cStl (cTr x (cFR x C l)) l q.length).2 := rfl
  generalize cMg0 x C q.length l = xx at hi hm0 hm3 hm
  rw [← hm] at u2 u3 u4
  have v0 : xx.2 0 = x.2 0 := u4 0 (by decide) (by decide)
  have v1 : xx.2 1 = x.2 1 := u4 1 (by decide) (by decide)
  have v2 : xx.2 2 = x.2 2 := u4 2 (by decide) (by decide)
  have v3 : xx.2 3 = x.2 3 := u4 3 (by decide) (by decide)
  have v4 : xx.2 4 = x.2 4 := u4 4 (by decide) (by decide)
  have v5 : xx.2 5 = x.2 5 := u4 5 (by decide) (by decide)
  have v6 : xx.2 6 = x.2 6 := u4 6 (by decide) (by decide)
  have v7 : xx.2 7 = x.2 7 := u4 7 (by decide) (by decide)
  have v8 : xx.2 8 = x.2 8 := u4 8 (by decide) (by decide)
  have v9 : xx.2 9 = x.2 9 := u4 9 (by decide) (by decide)
  refine ⟨hi, ⟨?_, ?_, ?_, ?_, ?_⟩, ⟨?_, ?_, ?_, ?_, ?_, ?_, ?_⟩, ⟨fun k hk => ?_, fun i v hv => ?_⟩, ⟨fun k c hk hc => ?_, fun c hc => ?_, fun c d hc hd => ?_, fun c d hc hd => ?_⟩⟩
  · rw [z1 0 (by decide) (by decide) (by decide) (by decide)]; exact n0
  · rw [z1 1 (by decide) (by decide) (by decide) (by decide)]; exact n1
  · rw [z1 2 (by decide) (by decide) (by decide) (by decide)]; exact n2
  · rw [z3, List.length_drop]
  · rw [z4, hm0]
  · rw [er 0 (by decide) (by decide) (by decide) (by decide) (by decide), v0]; exact r0
  · rw [er 1 (by decide) (by decide) (by decide) (by decide) (by decide), v1]; exact r1
  · rw [er 3 (by decide) (by decide) (by decide) (by decide) (by decide), v4]; exact r3
  · rw [er 4 (by decide) (by decide) (by decide) (by decide) (by decide), v5]; exact r4
  · rw [er 6 (by decide) (by decide) (by decide) (by decide) (by decide), v6]; exact r6
  · rw [er 7 (by decide) (by decide) (by decide) (by decide) (by decide), v7]; exact r7
  · refine funext fun c => ?_
    rw [e8, u3]
    rfl
  · rw [er 2 (by decide) (by decide) (by decide) (by decide) (by decide), v2]; exact ra k hk
  · have hv2 := hv
    rw [List.getElem?_drop] at hv2
    have hlt : l + i < q.length := (List.getElem?_eq_some_iff.mp hv2).1
    rw [e12 i (by omega), show i + l = l + i by omega, hcq _ _ hv2]
  · rw [er 5 (by decide) (by decide) (by decide) (by decide) (by decide), v3]; exact s5 k c hk hc
  · rw [er 9 (by decide) (by decide) (by decide) (by decide) (by decide), hm3]; exact s9 c hc
  · rw [er 10 (by decide) (by decide) (by decide) (by decide) (by decide), v8]; exact s10 c d hc hd
  · rw [er 11 (by decide) (by decide) (by decide) (by decide) (by decide), v9]; exact s11 c d hc hd
def xRf (x : xX) (k c : Nat) : Bool := bt (x.2 3 k) c && decide (x.2 10 c = nI 3)
theorem refu (h : cInv N C q t x) {h0 : xX} (hs : st3 h0 x) (k : Nat) : decide (¬ x.2 3 k &&& cAll h0 C (nI 3) = 0) = anyB (xRf x k) C := by
  have hC := h.c
  have hnm := h.2.2.1.2.2.1
  rw [Bool.eq_iff_iff, decide_eq_true_eq, and_zero, anyB_iff]
  constructor
  · intro h1
    cases e : anyB (xRf x k) C
    · exfalso
      refine h1 (fun i hi hb => ?_)
      cases e2 : bt (cAll h0 C (nI 3)) i
      · rfl
      · obtain ⟨g1, g2⟩ := (bt_all (x := h0) hC (nI 3) i).mp e2
        have g3 := anyB_eq.mp e i g1
        unfold xRf at g3
        rw [hb, (hs i).mpr g2] at g3
        simp at g3
    · exact anyB_iff.mp e
  · rintro ⟨i, hi, hr⟩ hz
    unfold xRf at hr
    simp only [Bool.and_eq_true, decide_eq_true_eq] at hr
    have := hz i (by omega) hr.1
    rw [(bt_all (x := h0) hC (nI 3) i).mpr ⟨hi, (hs i).mp hr.2⟩] at this
    cases this
set_option maxHeartbeats 4000000 in
theorem m_fallLoop {l : Int32} {h0 : xX} {q0 : List Nat} {t0 : Nat} {T0 : Int32} {R : xR → xW → Prop} (hi0 : cInv N C q0 t0 h0) (ht0 : t0 + 2 * N ≤ 1000000) (hR : ∀ (z : xX) q2 t2 z3 z4, t2 ≤ t0 + 2 * N → Rel N C q2 t2 (cDrop N (cAll h0 C (nI 3)) false h0 N).1 z → z.1 7 = nI 0 → z.1 5 = T0 → xAt k_X3_merge 19 R (198, [some (.ref 15), some (.int l), some (.int (nI N)), z3, z4], [], wW x0 z o, 0)) : ∀ m i (z : xX) q2 t2 z3 z4, i + m = N → Rel N C q2 t2 (cDrop N (cAll h0 C (nI 3)) false h0 i).1 z → t2 ≤ t0 + 2 * i → z.1 7 = nI 0 → z.1 5 = T0 → xAt k_X3_merge 19 R (114, [some (.ref 15), some (.int l), some (.int (nI i)), z3, z4], [], wW x0 z o, 0) := by
  have hN := hi0.n
  have hC := hi0.c
  intro m
  induction m with
  | zero =>
    intro i z q2 t2 z3 z4 hi hr ht2 h7 h5
    have ei : i = N := by omega
    subst ei
    have zN : z.1 0 = nI i := hr.2.1.1
    refine xWp.gb rfl trivial rfl (fun _ => hR z q2 t2 _ _ ht2 hr h7 h5) (fun h9 => ?_)
    have h9' : ¬ z.1 0 ≤ nI i := h9
    rw [zN, le_nI (by omega) (by omega)] at h9'
    omega
  | succ m ih =>
    intro i z q2 t2 z3 z4 hi hr ht2 h7 h5
    have zN : z.1 0 = nI N := hr.2.1.1
    have hst := st3_drop hi0 (cAll h0 C (nI 3)) false ht0 i (by omega)
    have step : ∀ z' q3 t3 z3 z4, Rel N C q3 t3 (cDrop N (cAll h0 C (nI 3)) false h0 (i + 1)).1 z' → t3 ≤ t0 + 2 * (i + 1) → z'.1 7 = nI 0 → z'.1 5 = T0 → xAt k_X3_merge 19 R (192, [some (.ref 15), some (.int l), some (.int (nI i)), z3, z4], [], wW x0 z' o, 0) := fun z' q3 t3 z3 z4 hr3 ht3 h73 h53 => by
      have h9 := ih (i + 1) z' q3 t3 z3 z4 (by omega) hr3 ht3 h73 h53
      rw [nI_s i] at h9
      exact xWp.go 114 rfl trivial h9
    rw [cDrop] at step
    generalize cDrop N (cAll h0 C (nI 3)) false h0 i = s at hr step hst
    obtain ⟨xi, f⟩ := s
    dsimp only at hr step hst
    have zcol := hr.2.2.1.2.1
    have zs := hr.2.2.1.2.2.2.2.2.2
    have zC : z.1 2 = nI C := hr.2.1.2.2.1
    have href := refu hr.1 hst i
    refine xWp.gb rfl trivial rfl (fun h9 => ?_) (fun _ => ?_)
    · have h9' : z.1 0 ≤ nI i := h9
      rw [zN, le_nI (by omega) (by omega)] at h9'
      omega
    have skip : cFl xi (cAll h0 C (nI 3)) false i = false → ∀ z3 z4, xAt k_X3_merge 19 R (192, [some (.ref 15), some (.int l), some (.int (nI i)), z3, z4], [], wW x0 z o, 0) := fun e z3 z4 => by
      rw [cDr1] at step
      dsimp only at step
      rw [e] at step
      exact step z q2 t2 _ _ hr (by omega) h7 h5
    have e173 : xAt k_X3_merge 19 R (173, [some (.ref 15), some (.int l), some (.int (nI i)), some (.int (bI (anyB (xRf xi i) C))), some (.int (nI C))], [], wW x0 z o, 0) := by
      refine xWp.gb rfl ⟨in_nI (by omega) (by omega), trivial⟩ rfl (fun h9 => ?_) (fun h9 => ?_)
      · have h9' : z.2 1 (nI i).toNatClampNeg = nI 3 := h9
        rw [cl_nI (by omega), zcol] at h9'
        refine xWp.gb rfl trivial rfl (fun hb => ?_) (fun hb => ?_)
        · rw [bI_0] at hb
          refine skip ?_ _ _
          unfold cFl
          rw [href, hb, Bool.and_false]
        · rw [bI_0, Bool.not_eq_false] at hb
          have e : cFl xi (cAll h0 C (nI 3)) false i = true := by
            unfold cFl
            rw [href, hb]
            simp only [h9']
            rfl
          rw [cDr1] at step
          dsimp only at step
          rw [e] at step
          dsimp only at step
          refine xWp.gm rfl trivial rfl (m_fallsNow 14 hr (k := i) (by omega) (by omega)) (by decide) (fun z' hz' => ?_)
          obtain ⟨⟨q3, t3, ht3, hr3⟩, hk3⟩ := hz'
          exact step z' q3 t3 _ _ hr3 (by omega) (by rw [hk3 7 (by omega)]; exact h7) (by rw [hk3 5 (by omega)]; exact h5)
      · have h9' : ¬ z.2 1 (nI i).toNatClampNeg = nI 3 := h9
        rw [cl_nI (by omega), zcol] at h9'
        refine skip ?_ _ _
        unfold cFl
        simp only [h9']
        rfl
    refine xWp.go 127 rfl trivial ?_
    refine xWp.loop C (fun j => (127, [some (.ref 15), some (.int l), some (.int (nI i)), some (.int (bI (anyB (xRf xi i) j))), some (.int (nI j))], [], wW x0 z o, 0)) (fun j hj ih2 => ?_) ?_
    · refine xWp.gb rfl trivial rfl (fun h9 => ?_) (fun _ => ?_)
      · have h9' : z.1 2 ≤ nI j := h9
        rw [zC, le_nI (by omega) (by omega)] at h9'
        omega
      rw [nI_s j] at ih2
      have yes : (anyB (xRf xi i) j || xRf xi i j) = true → xAt k_X3_merge 19 R (161, [some (.ref 15), some (.int l), some (.int (nI i)), some (.int (bI (anyB (xRf xi i) j))), some (.int (nI j))], [], wW x0 z o, 0) := fun e => by
        refine xWp.go 127 rfl trivial ?_
        have e2 : bI (anyB (xRf xi i) (j + 1)) = nI 1 := bI_t e
        rw [e2] at ih2
        exact ih2
      have no : (anyB (xRf xi i) j || xRf xi i j) = false → xAt k_X3_merge 19 R (165, [some (.ref 15), some (.int l), some (.int (nI i)), some (.int (bI (anyB (xRf xi i) j))), some (.int (nI j))], [], wW x0 z o, 0) := fun e => by
        refine xWp.go 127 rfl trivial ?_
        have e2 : bI (anyB (xRf xi i) (j + 1)) = nI 0 := bI_f e
        rw [e2] at ih2
        exact ih2
      refine xWp.gb rfl trivial rfl (fun hb => ?_) (fun hb => ?_)
      · rw [bI_0] at hb
        refine xWp.gc rfl trivial rfl (m_named 18 hr.rd (k := i) (c := j) (by omega) (by omega)) (by decide) ?_
        refine xWp.gb rfl trivial rfl (fun hn => ?_) (fun hn => ?_)
        · rw [bI_0] at hn
          exact no (by rw [hb]; unfold xRf; rw [hn]; rfl)
        · rw [bI_0, Bool.not_eq_false] at hn
          refine xWp.gb rfl ⟨in_nI (by omega) (by omega), trivial⟩ rfl (fun h3 => ?_) (fun h3 => ?_)
          · have h3' : z.2 8 (nI j).toNatClampNeg = nI 3 := h3
            rw [cl_nI (by omega), zs] at h3'
            exact yes (by rw [hb]; unfold xRf; rw [hn]; simp only [h3']; rfl)
          · have h3' : ¬ z.2 8 (nI j).toNatClampNeg = nI 3 := h3
            rw [cl_nI (by omega), zs] at h3'
            exact no (by rw [hb]; unfold xRf; rw [hn]; simp only [h3']; rfl)
      · rw [bI_0, Bool.not_eq_false] at hb
        exact yes (by rw [hb]; rfl)
    · refine xWp.gb rfl trivial rfl (fun _ => e173) (fun h9 => ?_)
      have h9' : ¬ z.1 2 ≤ nI C := h9
      rw [zC, le_nI (by omega) (by omega)] at h9'
      omega
set_option maxHeartbeats 4000000 in
theorem m_onLoop {l : Int32} {d : xX} {t0 T : Nat} {T0 : Int32} {x9 : xX} (hN : N ≤ 20) (hT : t0 + N ≤ T) (hT2 : T ≤ 1000000) (hx9 : cOns d C N = x9) : ∀ m i (z : xX) q2 t2 z3 z4, i + m = N → Rel N C q2 t2 (cOns d C i) z → t2 ≤ t0 + i → z.1 7 = nI 0 → z.1 5 = T0 → xAt k_X3_merge 19 (opP x9 T 0 T0 x0 o) (200, [some (.ref 15), some (.int l), some (.int (nI i)), z3, z4], [], wW x0 z o, 0) := by
  intro m
  induction m with
  | zero =>
    intro i z q2 t2 z3 z4 hi hr ht2 h7 h5
    have ei : i = N := by omega
    subst ei
    have zN : z.1 0 = nI i := hr.2.1.1
    refine xWp.gb rfl trivial rfl (fun _ => ?_) (fun h9 => ?_)
    · exact xWp.gf rfl trivial rfl (Or.inl rfl) ⟨z, z.1 5, rfl, rfl, fun _ => h5, h7, i, C, q2, t2, by omega, by rw [← hx9]; exact hr⟩
    · have h9' : ¬ z.1 0 ≤ nI i := h9
      rw [zN, le_nI (by omega) (by omega)] at h9'
      omega
  | succ m ih =>
    intro i z q2 t2 z3 z4 hi hr ht2 h7 h5
    have zN : z.1 0 = nI N := hr.2.1.1
    have hC := hr.1.c
    have step : ∀ z' q3 t3, Rel N C q3 t3 (cOns d C (i + 1)) z' → t3 ≤ t0 + (i + 1) → z'.1 7 = nI 0 → z'.1 5 = T0 → xAt k_X3_merge 19 (opP x9 T 0 T0 x0 o) (232, [some (.ref 15), some (.int l), some (.int (nI i)), z3, z4], [], wW x0 z' o, 0) := fun z' q3 t3 hr3 ht3 h73 h53 => by
      have h9 := ih (i + 1) z' q3 t3 z3 z4 (by omega) hr3 ht3 h73 h53
      rw [nI_s i] at h9
      exact xWp.go 200 rfl trivial h9
    rw [cOns] at step
    generalize cOns d C i = xi at hr step
    have zcol := hr.2.2.1.2.1
    refine xWp.gb rfl trivial rfl (fun h9 => ?_) (fun _ => ?_)
    · have h9' : z.1 0 ≤ nI i := h9
      rw [zN, le_nI (by omega) (by omega)] at h9'
      omega
    refine xWp.gb rfl ⟨in_nI (by omega) (by omega), trivial⟩ rfl (fun h9 => ?_) (fun h9 => ?_)
    · have h9' : z.2 1 (nI i).toNatClampNeg = nI 3 := h9
      rw [cl_nI (by omega), zcol] at h9'
      refine xWp.gc rfl trivial rfl (m_lacksOf 17 hr.rd hr.2.2.1.2.2.2.2.2.2 (k := i) (by omega)) (by decide) ?_
      have hle := fb_ct_le (xLk xi i) C
      refine xWp.gb rfl trivial rfl (fun h0 => ?_) (fun h0 => ?_)
      · have h0' : nI (fb_ct (xLk xi i) C) = nI 0 := h0
        rw [eq_nI (by omega) (by omega)] at h0'
        have eo : cOn xi C i = cPut xi i (nI 4) := if_pos ⟨h9', (allIn_iff hr.1 i).mpr h0'⟩
        refine xWp.gm rfl trivial rfl (m_comes 16 hr (k := i) (j := 4) (by omega) (by omega) (by omega)) (by decide) (fun y3 hy3 => ?_)
        obtain ⟨⟨q3, h3⟩, kp3⟩ := hy3
        rw [cShift_4, ← eo] at h3
        exact step y3 q3 _ h3 (by omega) (by rw [kp3 7 (by omega)]; exact h7) (by rw [kp3 5 (by omega)]; exact h5)
      · have h0' : ¬ nI (fb_ct (xLk xi i) C) = nI 0 := h0
        rw [eq_nI (by omega) (by omega)] at h0'
        have eo : cOn xi C i = xi := if_neg (fun z => h0' ((allIn_iff hr.1 i).mp z.2))
        exact step z q2 t2 (by rw [eo]; exact hr) (by omega) h7 h5
    · have h9' : ¬ z.2 1 (nI i).toNatClampNeg = nI 3 := h9
      rw [cl_nI (by omega), zcol] at h9'
      have eo : cOn xi C i = xi := if_neg (fun z => h9' z.1)
      exact step z q2 t2 (by rw [eo]; exact hr) (by omega) h7 h5
set_option maxHeartbeats 4000000 in
theorem op_merge {T : Nat} (h : Rel N C q t x y) (hT : t + 100 ≤ T) (hT2 : T ≤ 1000000) (v : Int32) : opR k_X2_merge k_X3_merge [.int v] esA T x y := by
  have hN := h.1.n
  have hC := h.1.c
  have hq30 := h.1.q30
  rcases row_of h v with hr | ⟨hr, hv, hy⟩ | ⟨l, rfl, l1, l8, hl, hr, hy⟩
  · refine opR.thr (e := 0) (code := 1) h (by omega) rfl (by omega) (fun _ _ => c_merge_0 (inR_no hr)) (fun x0 o => ⟨nI 0, ?_⟩)
    refine xWp.gc rfl trivial rfl (m_isRow 17 v rfl) (by decide) ?_
    rw [hr]
    refine xWp.gb rfl trivial rfl (fun _ => ?_) (fun h => (h rfl).elim)
    exact xWp.gf rfl trivial rfl (Or.inl rfl) ⟨rfl, rfl⟩
  · obtain ⟨v1, v2⟩ := inR_iff.mp hr
    refine opR.thr (e := 1) (code := 2) h (by omega) rfl (by omega) (fun _ _ => c_merge_1 v1 v2 hv) (fun x0 o => ⟨nI 0, ?_⟩)
    refine xWp.gc rfl trivial rfl (m_isRow (b := false) 17 v (by rw [decide_eq_false (fun z => z hy)])) (by decide) ?_
    rw [hr]
    refine xWp.gb rfl trivial rfl (fun _ => ?_) (fun h => absurd (by decide) h)
    exact xWp.gf rfl trivial rfl (Or.inl rfl) ⟨rfl, rfl⟩
  have hi0 := iMg0 h.1 hl
  have hv7 : (cMg x N C q.length l).1 7 = (cFR x C l).2.1 := by
    obtain ⟨q3, t3, ht3, h3, -⟩ := iDrop hi0 (cAll (cMg0 x C q.length l) C (nI 3)) false (by omega) N (Nat.le_refl _)
    have k1 := kp_ons (x := cMg1 x N C q.length l) (C := C) N 7 (by decide) (by decide)
    have k2 := kp_drop hi0 (cAll (cMg0 x C q.length l) C (nI 3)) false (by omega) N (Nat.le_refl _) 7 (by decide) (by decide)
    have k3 : (cMg0 x C q.length l).1 7 = (cFR x C l).2.1 := by
      have hr : cInv N C q t (cTr x (cFR x C l)) := h.1
      show (cStl (cTr x (cFR x C l)) l q.length).1 7 = _
      rw [(cStl_fl hr hl).1]
      rfl
    exact k1.trans (k2.trans k3)
  have hcl := fun (y0 : xX) (o : Nat → Int64) => c_merge (y := y0) (o := o) h.1 l1 l8 hl (by omega)
  rw [hv7] at hcl
  refine opR.ok hcl (fun x0 o => ?_)
  refine xWp.gc rfl trivial rfl (m_isRow (b := true) 17 (nI l) (by rw [decide_eq_true hy])) (by decide) ?_
  rw [hr]
  refine xWp.gb rfl trivial rfl (fun h => absurd h (by decide)) (fun _ => ?_)
  have h7 : Rel N C q t x (sI y 7 (nI 0)) := h
  refine xWp.gm rfl trivial rfl (m_worksJ (b := false) 16 h7 l1 l8 hl rfl) (by decide) (fun y1 hy1 => ?_)
  obtain ⟨s1, t1⟩ := hy1
  have hr1 : Rel N C q t x y1 := h7.same s1
  have t1' : tAt C (cFR x C l) y1 := t1
  have e17 : y1.1 7 = nI 0 := by rw [s1.1 7 (by decide) (by decide)]; rfl
  have e14 : y1.1 4 + y1.1 6 = x.1 0 + (cFR x C l).2.2 := by rw [hr1.2.1.2.2.2.2, t1'.2.2]
  refine xWp.go 31 rfl trivial ?_
  show xAt k_X3_merge 19 (opP (cMg x N C q.length l) T 0 (cFR x C l).2.1 x0 o) (31, [some (.ref 15), some (.int (nI l)), some (.int (nI 0)), none, none], [], wW x0 (sI y1 4 (y1.1 4 + y1.1 6)) o, 0)
  -- behind the settling
  have tail : ∀ (z : xX), Rel N C (q.drop l) t (cMg0 x C q.length l) z → z.1 7 = nI 0 → z.1 5 = (cFR x C l).2.1 → ∀ z2, xAt k_X3_merge 19 (opP (cMg x N C q.length l) T 0 (cFR x C l).2.1 x0 o) (112, [some (.ref 15), some (.int (nI l)), z2, none, none], [], wW x0 z o, 0) := fun z hrz h7z h5z z2 => by
    refine xWp.go 114 rfl trivial ?_
    refine m_fallLoop (T0 := (cFR x C l).2.1) hi0 (by omega) (fun z' q2 t2 z3 z4 ht2 hr2 h72 h52 => ?_) N 0 z (q.drop l) t none none (by omega) hrz (by omega) h7z h5z
    refine xWp.go 200 rfl trivial ?_
    exact m_onLoop (d := cMg1 x N C q.length l) (t0 := t + 2 * N) hN (by omega) hT2 rfl N 0 z' q2 t2 z3 z4 (by omega) hr2 (by omega) h72 h52
  have shiftLoop : ∀ m k (z : xX), k + m = q.length → l ≤ k → (∀ i, i ≠ 3 → i ≠ 4 → i ≠ 5 → i ≠ 6 → z.1 i = y1.1 i) → z.1 3 = nI q.length → z.1 4 = x.1 0 + (cFR x C l).2.2 → z.1 5 = (cFR x C l).2.1 → (∀ c, z.2 8 c = if c ∈ q.take l then (if bt (cFR x C l).1 c then nI 2 else nI 3) else x.2 10 c) → (∀ i, i + l < k → z.2 12 i = nI (cq x (i + l))) → (∀ i, k ≤ i → i < q.length → z.2 12 i = nI (cq x i)) → (∀ r, r ≠ 8 → r ≠ 12 → z.2 r = y1.2 r) → xAt k_X3_merge 19 (opP (cMg x N C q.length l) T 0 (cFR x C l).2.1 x0 o) (74, [some (.ref 15), some (.int (nI l)), some (.int (nI k)), none, none], [], wW x0 z o, 0) := by
    intro m
    induction m with
    | zero =>
      intro k z hk hlk a1 a3 a4 a5 a8 a12 b12 ar
      have ek : k = q.length := by omega
      subst ek
      refine xWp.gb rfl trivial rfl (fun _ => ?_) (fun h9 => ?_)
      · refine xWp.go 112 rfl trivial ?_
        have hz2 : Rel N C (q.drop l) t (cMg0 x C q.length l) (sI z 3 (z.1 3 - nI l)) := rMg0 hr1 hl (fun i h3 h4 h5 h6 => by
          show upd z.1 3 _ i = y1.1 i
          rw [pk_un h3]
          exact a1 i h3 h4 h5 h6) (by
          show z.1 3 - nI l = _
          rw [a3, pk_sub hl]) a4 a8 a12 (fun r h8 h12 _ _ _ => ar r h8 h12)
        exact tail (sI z 3 (z.1 3 - nI l)) hz2 (by
          show z.1 7 = nI 0
          rw [a1 7 (by decide) (by decide) (by decide) (by decide)]; exact e17) a5 _
      · have h9' : ¬ z.1 3 ≤ nI q.length := h9
        rw [a3, le_nI (by omega) (by omega)] at h9'
        omega
    | succ m ih =>
      intro k z hk hlk a1 a3 a4 a5 a8 a12 b12 ar
      have e1 : (nI k).toNatClampNeg = k := cl_nI (by omega)
      have e2 : (nI k - nI l).toNatClampNeg = k - l := by rw [pk_sub hlk]; exact cl_nI (by omega)
      have g2 : vp_in (nI k - nI l) 30 := by rw [pk_sub hlk]; exact in_nI (by omega) (by omega)
      refine xWp.gb rfl trivial rfl (fun h9 => ?_) (fun _ => ?_)
      · have h9' : z.1 3 ≤ nI k := h9
        rw [a3, le_nI (by omega) (by omega)] at h9'
        omega
      have h9 := ih (k + 1) (sA z 12 (k - l) (z.2 12 k)) (by omega) (by omega) a1 a3 a4 a5 a8 (fun i hi => by
        show upd (z.2 12) (k - l) (z.2 12 k) i = _
        by_cases e : i = k - l
        · subst e
          rw [pk_us, b12 k (Nat.le_refl _) (by omega)]
          congr 2
          omega
        · rw [pk_un e]
          exact a12 i (by omega)) (fun i hi hi2 => by
        show upd (z.2 12) (k - l) (z.2 12 k) i = _
        rw [pk_un (by omega)]
        exact b12 i (by omega) hi2) (fun r h8 h12 => by
        show va_up z.2 12 _ r = _
        unfold va_up
        rw [if_neg h12]
        exact ar r h8 h12)
      rw [nI_s k] at h9
      refine xWp.go 74 rfl ⟨in_nI (by omega) (by omega), g2, trivial⟩ ?_
      have h99 : xAt k_X3_merge 19 (opP (cMg x N C q.length l) T 0 (cFR x C l).2.1 x0 o) (74, [some (.ref 15), some (.int (nI l)), some (.int (nI k + xk 1 0)), none, none], [], wW x0 (sA z 12 (nI k - nI l).toNatClampNeg (z.2 12 (nI k).toNatClampNeg)) o, 0) := by
        rw [e2, e1]; exact h9
      exact h99
  have stLoop : ∀ m k (z : xX), k + m = l → z.1 = (sI y1 4 (y1.1 4 + y1.1 6)).1 → (∀ c, z.2 8 c = if c ∈ q.take k then (if bt (cFR x C l).1 c then nI 2 else nI 3) else x.2 10 c) → (∀ r, r ≠ 8 → z.2 r = y1.2 r) → xAt k_X3_merge 19 (opP (cMg x N C q.length l) T 0 (cFR x C l).2.1 x0 o) (31, [some (.ref 15), some (.int (nI l)), some (.int (nI k)), none, none], [], wW x0 z o, 0) := by
    intro m
    induction m with
    | zero =>
      intro k z hk a1 a8 ar
      have ek : k = l := by omega
      subst ek
      refine xWp.gb rfl trivial rfl (fun _ => ?_) (fun h9 => absurd ((le_nI (by omega) (by omega)).mpr (Nat.le_refl _)) h9)
      refine xWp.go 74 rfl trivial ?_
      refine shiftLoop (q.length - k) k z (by omega) (Nat.le_refl _) (fun i h3 h4 h5 h6 => ?_) ?_ ?_ ?_ a8 (fun i hi => by omega) (fun i hi hi2 => ?_) (fun r h8 _ => ar r h8)
      · rw [a1]
        show upd y1.1 4 _ i = y1.1 i
        rw [pk_un h4]
      · rw [a1]; exact hr1.2.1.2.2.2.1
      · rw [a1]; exact e14
      · rw [a1]; exact t1'.2.1
      · rw [ar 12 (by decide)]; exact qat hr1 hi2
    | succ m ih =>
      intro k z hk a1 a8 ar
      have hkq : k < q.length := by omega
      have hqi := h.1.qf k hkq
      have e1 : (nI k).toNatClampNeg = k := cl_nI (by omega)
      have hyq : z.2 12 (nI k).toNatClampNeg = nI (cq x k) := by rw [e1, ar 12 (by decide)]; exact qat hr1 hkq
      have e2 : (z.2 12 (nI k).toNatClampNeg).toNatClampNeg = cq x k := by rw [hyq]; exact cl_nI (by omega)
      have g2 : vp_in (z.2 12 (nI k).toNatClampNeg) 30 := by rw [hyq]; exact in_nI (by omega) (by omega)
      have ecq : cq x k = q[k] := h.1.cqv k _ (List.getElem?_eq_getElem hkq)
      have etk : q.take (k + 1) = q.take k ++ [cq x k] := by rw [List.take_succ_eq_append_getElem hkq, ecq]
      have nxt : ∀ v, v = (if bt (cFR x C l).1 (cq x k) then nI 2 else nI 3) → xAt k_X3_merge 19 (opP (cMg x N C q.length l) T 0 (cFR x C l).2.1 x0 o) (65, [some (.ref 15), some (.int (nI l)), some (.int (nI k)), none, none], [.int v, .int (z.2 12 (nI k).toNatClampNeg), .ref 24], wW x0 z o, 0) := fun v ev => by
        have h9 := ih (k + 1) (sA z 8 (cq x k) v) (by omega) a1 (fun c => by
          show upd (z.2 8) (cq x k) v c = _
          rw [etk]
          by_cases e : c = cq x k
          · rw [e, pk_us, if_pos (by simp), ev]
          · rw [pk_un e, a8]
            have : (c ∈ q.take k ++ [cq x k]) ↔ c ∈ q.take k := by simp [e]
            simp only [this]) (fun r h8 => by
          show va_up z.2 8 _ r = _
          unfold va_up
          rw [if_neg h8]
          exact ar r h8)
        rw [← e2, nI_s k] at h9
        exact xWp.go 31 rfl ⟨g2, trivial⟩ h9
      refine xWp.gb rfl trivial rfl (fun h9 => ?_) (fun _ => ?_)
      · rw [le_nI (by omega) (by omega)] at h9
        omega
      refine xWp.gb rfl ⟨in_nI (by omega) (by omega), in_nI (by omega) (by omega), g2, trivial⟩ rfl (fun h9 => ?_) (fun h9 => ?_)
      · have h9' : z.2 13 (z.2 12 (nI k).toNatClampNeg).toNatClampNeg = 0 := h9
        rw [e2, ar 13 (by decide), t1'.1.1 _ hqi.2, bI_0] at h9'
        refine xWp.go 65 rfl trivial ?_
        exact nxt _ (by rw [h9']; rfl)
      · have h9' : ¬ z.2 13 (z.2 12 (nI k).toNatClampNeg).toNatClampNeg = 0 := h9
        rw [e2, ar 13 (by decide), t1'.1.1 _ hqi.2, bI_0, Bool.not_eq_false] at h9'
        refine xWp.go 65 rfl trivial ?_
        exact nxt _ (by rw [h9']; rfl)
  exact stLoop l 0 (sI y1 4 (y1.1 4 + y1.1 6)) (by omega) rfl (fun c => by
    show y1.2 8 c = _
    rw [hr1.2.2.1.2.2.2.2.2.2]
    simp) (fun _ _ => rfl)
end O7
