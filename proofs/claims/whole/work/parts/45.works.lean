/-! the reference's trials: a row tried, worked through by halves, one by one -/
section WK
variable {x x0 y : xX} {o : Nat → Int64} {N C : Nat} {q : List Nat} {t : Nat} {w : xW} {S : Int32}
def tSame (y y' : xX) : Prop := (∀ i, i ≠ 5 → i ≠ 6 → y'.1 i = y.1 i) ∧ (∀ r, r ≠ 13 → r ≠ 14 → r ≠ 15 → y'.2 r = y.2 r)
theorem tSame.tr {a b c : xX} (h : tSame a b) (h2 : tSame b c) : tSame a c := ⟨fun i h5 h6 => by rw [h2.1 i h5 h6, h.1 i h5 h6], fun r h3 h4 h5 => by rw [h2.2 r h3 h4 h5, h.2 r h3 h4 h5]⟩
theorem Rel.same {y' : xX} (h : Rel N C q t x y) (hs : tSame y y') : Rel N C q t x y' := by
  obtain ⟨hi, ⟨n0, n1, n2, n3, n4⟩, ⟨r0, r1, r3, r4, r6, r7, r8⟩, ⟨ra, rq⟩, ⟨s5, s9, s10, s11⟩⟩ := h
  obtain ⟨a, b⟩ := hs
  have b2 := b 2 (by decide) (by decide) (by decide)
  have b5 := b 5 (by decide) (by decide) (by decide)
  have b9 := b 9 (by decide) (by decide) (by decide)
  have b10 := b 10 (by decide) (by decide) (by decide)
  have b11 := b 11 (by decide) (by decide) (by decide)
  have b12 := b 12 (by decide) (by decide) (by decide)
  refine ⟨hi, ⟨?_, ?_, ?_, ?_, ?_⟩, ⟨?_, ?_, ?_, ?_, ?_, ?_, ?_⟩, ⟨?_, ?_⟩, ⟨?_, ?_, ?_, ?_⟩⟩
  · rw [a 0 (by decide) (by decide)]; exact n0
  · rw [a 1 (by decide) (by decide)]; exact n1
  · rw [a 2 (by decide) (by decide)]; exact n2
  · rw [a 3 (by decide) (by decide)]; exact n3
  · rw [a 4 (by decide) (by decide)]; exact n4
  · rw [b 0 (by decide) (by decide) (by decide)]; exact r0
  · rw [b 1 (by decide) (by decide) (by decide)]; exact r1
  · rw [b 3 (by decide) (by decide) (by decide)]; exact r3
  · rw [b 4 (by decide) (by decide) (by decide)]; exact r4
  · rw [b 6 (by decide) (by decide) (by decide)]; exact r6
  · rw [b 7 (by decide) (by decide) (by decide)]; exact r7
  · rw [b 8 (by decide) (by decide) (by decide)]; exact r8
  · rw [b2]; exact ra
  · rw [b12]; exact rq
  · rw [b5]; exact s5
  · rw [b9]; exact s9
  · rw [b10]; exact s10
  · rw [b11]; exact s11
def trPost (C : Nat) (S' a b : Int32) (y : xX) : xX → Prop := fun y' => (∀ i, i ≠ 5 → i ≠ 6 → y'.1 i = y.1 i) ∧ (∀ r, r ≠ 13 → y'.2 r = y.2 r) ∧ tOk C S' y' ∧ y'.1 5 = a ∧ y'.1 6 = b
theorem qat (h : Rel N C q t x y) {i : Nat} (hi : i < q.length) : y.2 12 i = nI (cq x i) := by
  have e := h.1.cqv i _ (List.getElem?_eq_getElem hi)
  rw [e]
  exact h.2.2.2.1.2 _ _ (List.getElem?_eq_getElem hi)
set_option maxHeartbeats 4000000 in
theorem m_tried (n : Nat) (h : Rel N C q t x y) (ht : tOk C S y) {f l : Nat} (hl : f + l ≤ q.length) : xCW (n + 2) k_X3_tried [.ref 15, .int (nI f), .int (nI l)] (wW x0 y o) (mQ (some (.int (bI (cPass x S f l)))) (trPost C (if cPass x S f l then S ||| cRow x f l else S) (y.1 5 + nI 1) (y.1 6 + (nI 5 + cWt x f l)) y) x0 o) := by
  have hq30 := h.1.q30
  have hC := h.1.c
  have r7 := h.2.2.1.2.2.2.2.2.1
  refine xWp.go 22 rfl trivial ?_
  have l1 : xAt k_X3_tried (n + 1) (mQ (some (.int (bI (cPass x S f l)))) (trPost C (if cPass x S f l then S ||| cRow x f l else S) (y.1 5 + nI 1) (y.1 6 + (nI 5 + cWt x f l)) y) x0 o) (22, [some (.ref 15), some (.int (nI f)), some (.int (nI l)), some (.int (nI (f + 0))), none], [], wW x0 (sI (sI y 5 (y.1 5 + nI 1)) 6 (y.1 6 + nI 5 + cWt x f 0)) o, 0) := by
    refine xWp.loop l (fun k => (22, [some (.ref 15), some (.int (nI f)), some (.int (nI l)), some (.int (nI (f + k))), none], [], wW x0 (sI (sI y 5 (y.1 5 + nI 1)) 6 (y.1 6 + nI 5 + cWt x f k)) o, 0)) (fun k hk ih => ?_) ?_
    · have hqi := h.1.qf (f + k) (by omega)
      have hyq := qat h (i := f + k) (by omega)
      refine xWp.gb rfl trivial rfl (fun h9 => ?_) (fun _ => ?_)
      · have h9' : nI f + nI l ≤ nI (f + k) := h9
        rw [nI_add, le_nI (by omega) (by omega)] at h9'
        omega
      have e1 : (nI (f + k)).toNatClampNeg = f + k := cl_nI (by omega)
      have e2 : (y.2 12 (nI (f + k)).toNatClampNeg).toNatClampNeg = cq x (f + k) := by rw [e1, hyq]; exact cl_nI (by omega)
      have g2 : vp_in (y.2 12 (nI (f + k)).toNatClampNeg) 30 := by rw [e1, hyq]; exact in_nI (by omega) (by omega)
      have ew : y.1 6 + nI 5 + cWt x f (k + 1) = (y.1 6 + nI 5 + cWt x f k) + y.2 7 (y.2 12 (nI (f + k)).toNatClampNeg).toNatClampNeg := by
        rw [e2, r7, Int32.add_assoc (y.1 6 + nI 5)]
        rfl
      rw [ew, show f + (k + 1) = (f + k) + 1 by omega, nI_s (f + k)] at ih
      exact xWp.go 22 rfl ⟨in_nI (by omega) (by omega), g2, trivial⟩ ih
    · have ea : y.1 6 + nI 5 + cWt x f l = y.1 6 + (nI 5 + cWt x f l) := Int32.add_assoc _ _ _
      rw [ea]
      generalize hyy : sI (sI y 5 (y.1 5 + nI 1)) 6 (y.1 6 + (nI 5 + cWt x f l)) = y2
      have h2 : Rel N C q t x y2 := by rw [← hyy]; exact h
      have ht2 : tOk C S y2 := by rw [← hyy]; exact ht
      have s1 : ∀ i, i ≠ 5 → i ≠ 6 → y2.1 i = y.1 i := fun i h5 h6 => by
        rw [← hyy]
        show upd (upd y.1 5 _) 6 _ i = y.1 i
        rw [pk_un h6, pk_un h5]
      have s2 : ∀ r, y2.2 r = y.2 r := fun r => by rw [← hyy]; rfl
      have s5 : y2.1 5 = y.1 5 + nI 1 := by rw [← hyy]; rfl
      have s6 : y2.1 6 = y.1 6 + (nI 5 + cWt x f l) := by rw [← hyy]; rfl
      refine xWp.gb rfl trivial rfl (fun _ => ?_) (fun h9 => ?_)
      · refine xWp.gc rfl trivial rfl (m_passes n h2 ht2 hl) (by decide) ?_
        cases hp : cPass x S f l
        · have fin : mQ (some (.int (bI false))) (trPost C (if false = true then S ||| cRow x f l else S) (y.1 5 + nI 1) (y.1 6 + (nI 5 + cWt x f l)) y) x0 o (.inl (some (.int (bI false)))) (wW x0 y2 o) := mQ.mk ⟨s1, fun r _ => s2 r, ht2, s5, s6⟩
          refine xWp.gb rfl trivial rfl (fun _ => ?_) (fun _ => ?_)
          · exact xWp.gf rfl trivial rfl (Or.inr (Or.inl rfl)) fin
          · refine xWp.gb rfl trivial rfl (fun _ => ?_) (fun h => absurd (by decide) h)
            exact xWp.gf rfl trivial rfl (Or.inr (Or.inl rfl)) fin
        · have key : ∀ m k (z : xX), k + m = l → z.1 = y2.1 → (∀ r, r ≠ 13 → z.2 r = y2.2 r) → tOk C (S ||| cRow x f k) z → xAt k_X3_tried (n + 1) (mQ (some (.int (bI true))) (trPost C (if true = true then S ||| cRow x f l else S) (y.1 5 + nI 1) (y.1 6 + (nI 5 + cWt x f l)) y) x0 o) (65, [some (.ref 15), some (.int (nI f)), some (.int (nI l)), some (.int (bI true)), some (.int (nI (f + k)))], [], wW x0 z o, 0) := by
            intro m
            induction m with
            | zero =>
              intro k z hk z1 z2 z3
              have ek : k = l := by omega
              subst ek
              have fin : mQ (some (.int (bI true))) (trPost C (if true = true then S ||| cRow x f k else S) (y.1 5 + nI 1) (y.1 6 + (nI 5 + cWt x f k)) y) x0 o (.inl (some (.int (bI true)))) (wW x0 z o) := mQ.mk ⟨fun i h5 h6 => by rw [z1]; exact s1 i h5 h6, fun r hr => by rw [z2 r hr]; exact s2 r, z3, by rw [z1]; exact s5, by rw [z1]; exact s6⟩
              refine xWp.gb rfl trivial rfl (fun _ => ?_) (fun h9 => ?_)
              · exact xWp.gf rfl trivial rfl (Or.inr (Or.inr rfl)) fin
              · have h9' : ¬ nI f + nI k ≤ nI (f + k) := h9
                rw [nI_add, le_nI (by omega) (by omega)] at h9'
                omega
            | succ m ih =>
              intro k z hk z1 z2 z3
              have hqi := h.1.qf (f + k) (by omega)
              have hyq : z.2 12 (f + k) = nI (cq x (f + k)) := by rw [z2 12 (by decide)]; exact qat h2 (by omega)
              have e1 : (nI (f + k)).toNatClampNeg = f + k := cl_nI (by omega)
              have e2 : (z.2 12 (nI (f + k)).toNatClampNeg).toNatClampNeg = cq x (f + k) := by rw [e1, hyq]; exact cl_nI (by omega)
              have g2 : vp_in (z.2 12 (nI (f + k)).toNatClampNeg) 30 := by rw [e1, hyq]; exact in_nI (by omega) (by omega)
              refine xWp.gb rfl trivial rfl (fun h9 => ?_) (fun _ => ?_)
              · have h9' : nI f + nI l ≤ nI (f + k) := h9
                rw [nI_add, le_nI (by omega) (by omega)] at h9'
                omega
              refine xWp.gb rfl trivial rfl (fun h => absurd h (by decide)) (fun _ => ?_)
              have eR : cRow x f (k + 1) = cRow x f k ||| bitI (cq x (f + k)) := orIf_t rfl
              have h9 := ih (k + 1) (sA z 13 (cq x (f + k)) (nI 1)) (by omega) z1 (fun r hr => by
                show va_up z.2 13 _ r = y2.2 r
                unfold va_up
                rw [if_neg hr]
                exact z2 r hr) ⟨fun c hc => by
                show upd (z.2 13) (cq x (f + k)) (nI 1) c = bI (bt (S ||| cRow x f (k + 1)) c)
                rw [eR, b_or, b_or, bt_bitI (by omega), ← Bool.or_assoc, ← b_or]
                by_cases e : c = cq x (f + k)
                · rw [e, pk_us]; simp; rfl
                · rw [pk_un e, z3.1 c hc]; simp [e], fun c hb => by
                rw [eR, b_or, b_or, bt_bitI (by omega), ← Bool.or_assoc, ← b_or, Bool.or_eq_true] at hb
                rcases hb with hb | hb
                · exact z3.2 c hb
                · rw [decide_eq_true_eq] at hb
                  omega⟩
              rw [← e2, show f + (k + 1) = (f + k) + 1 by omega, nI_s (f + k)] at h9
              exact xWp.go 65 rfl ⟨in_nI (by omega) (by omega), ⟨g2, Or.inr rfl⟩, trivial⟩ h9
          refine xWp.go 65 rfl trivial ?_
          have e0 : S ||| cRow x f 0 = S := by
            refine b_ext (fun i _ => ?_)
            rw [b_or]
            show (bt S i || bt (nI 0) i) = bt S i
            rw [show bt (nI 0) i = false from b_0 i, Bool.or_false]
          exact key l 0 y2 (by omega) rfl (fun _ _ => rfl) (by rw [e0]; exact ht2)
      · have h9' : ¬ nI f + nI l ≤ nI (f + l) := h9
        rw [nI_add, le_nI (by omega) (by omega)] at h9'
        omega
  have e0 : y.1 6 + nI 5 + cWt x f 0 = y.1 6 + nI 5 := Int32.add_zero _
  rw [e0] at l1
  exact l1
theorem m_triedJ (n : Nat) (h : Rel N C q t x y) (ht : tOk C S y) {f l : Nat} (hl : f + l ≤ q.length) {a b : Int32} (ea : a = nI f) (eb : b = nI l) : xCW (n + 2) k_X3_tried [.ref 15, .int a, .int b] (wW x0 y o) (mQ (some (.int (bI (cPass x S f l)))) (trPost C (if cPass x S f l then S ||| cRow x f l else S) (y.1 5 + nI 1) (y.1 6 + (nI 5 + cWt x f l)) y) x0 o) := by
  rw [ea, eb]; exact m_tried n h ht hl
/-- the reference's trial is at s -/
def tAt (C : Nat) (s : Int32 × Int32 × Int32) (y : xX) : Prop := tOk C s.1 y ∧ y.1 5 = s.2.1 ∧ y.1 6 = s.2.2
set_option maxHeartbeats 4000000 in
theorem m_pile (n : Nat) (le ob : Int32) {R : xR → xW → Prop} : ∀ (lv : Nat) {f l p : Nat} {s : Int32 × Int32 × Int32} {y : xX} (z4 z5 z6 : Option Value), Rel N C q t x y → tAt C s y → 1 ≤ l → l ≤ 8 → l ≤ 2 ^ lv → f + l ≤ q.length → p + lv + 1 ≤ 20 → y.2 14 p = nI f → y.2 15 p = nI l → (∀ (y' : xX) (z4 z5 z6 : Option Value), tSame y y' → tAt C (cTry x (lv + 1) s f l) y' → (∀ i, i < p → y'.2 14 i = y.2 14 i ∧ y'.2 15 i = y.2 15 i) → xAt k_X3_works (n + 2) R (107, [some (.ref 15), some (.int le), some (.int ob), some (.int (nI p)), z4, z5, z6], [], wW x0 y' o, 0)) → xAt k_X3_works (n + 2) R (107, [some (.ref 15), some (.int le), some (.int ob), some (.int (nI (p + 1))), z4, z5, z6], [], wW x0 y o, 0)
  | lv, f, l, p, s, y, z4, z5, z6, h, ht, h1, h8, hlv, hfl, hp, e14, e15, hR => by
    have hq30 := h.1.q30
    have ep : (nI p).toNatClampNeg = p := cl_nI (by omega)
    have f14 : y.2 14 (nI p).toNatClampNeg = nI f := by rw [ep]; exact e14
    have f15 : y.2 15 (nI p).toNatClampNeg = nI l := by rw [ep]; exact e15
    refine xWp.gb rfl trivial rfl (fun h9 => ?_) (fun _ => ?_)
    · have h9' : nI (p + 1) ≤ nI 0 := h9
      rw [le_nI (by omega) (by omega)] at h9'
      omega
    refine xWp.go 114 rfl trivial ?_
    rw [nI_dec]
    refine xWp.gm rfl ⟨in_nI (by omega) (by omega), in_nI (by omega) (by omega), trivial⟩ rfl (m_triedJ n h ht.1 hfl f14 f15) (by decide) (fun y1 hy1 => ?_)
    rw [f14, f15]
    obtain ⟨g1, g2, g3, g4, g5⟩ := hy1
    have hs1 : tSame y y1 := ⟨g1, fun r h3 _ _ => g2 r h3⟩
    have hk1 : ∀ i, y1.2 14 i = y.2 14 i ∧ y1.2 15 i = y.2 15 i := fun i => ⟨by rw [g2 14 (by decide)], by rw [g2 15 (by decide)]⟩
    rw [ht.2.1] at g4
    rw [ht.2.2] at g5
    cases hpass : cPass x s.1 f l
    · rw [hpass] at g3
      have hat : tAt C (s.1, s.2.1 + nI 1, s.2.2 + (nI 5 + cWt x f l)) y1 := ⟨g3, g4, g5⟩
      refine xWp.gb rfl trivial rfl (fun _ => ?_) (fun h => absurd (by decide) h)
      refine xWp.gb rfl trivial rfl (fun h9 => ?_) (fun h9 => ?_)
      · have h9' : nI l ≤ nI 1 := h9
        rw [le_nI (by omega) (by omega)] at h9'
        have e : cTry x (lv + 1) s f l = (s.1, s.2.1 + nI 1, s.2.2 + (nI 5 + cWt x f l)) := by
          rw [cTry, hpass]
          simp only [show decide (1 < l) = false by simp; omega]
        refine xWp.go 107 rfl trivial ?_
        exact hR y1 _ _ _ hs1 (by rw [e]; exact hat) (fun i _ => hk1 i)
      · have h9' : ¬ nI l ≤ nI 1 := h9
        rw [le_nI (by omega) (by omega)] at h9'
        match lv, hlv with
        | 0, hlv => simp at hlv; omega
        | lv + 1, hlv =>
          have hlv' : l ≤ 2 * 2 ^ lv := by rw [Nat.pow_succ] at hlv; omega
          have hF := two_half hlv'
          have e := cTry_two (x := x) (lv := lv + 1) (s := s) (f := f) (l := l) hpass (by omega)
          have d1 : (nI l + xk 1 0) / xk 2 0 = nI ((l + 1) / 2) := by
            rw [← nI_s]
            exact pk_div (by omega) (by omega) (by omega)
          have hF1 : 1 ≤ (l + 1) / 2 := by omega
          have hF2 : (l + 1) / 2 < l := by omega
          have hF3 : l - (l + 1) / 2 ≤ (l + 1) / 2 := by omega
          rw [e] at hR
          generalize (l + 1) / 2 = F at d1 hF hR hF1 hF2 hF3
          refine xWp.go 153 rfl ⟨by decide, trivial⟩ ?_
          show xAt k_X3_works (n + 2) R (153, [some (.ref 15), some (.int le), some (.int ob), some (.int (nI p)), some (.int (nI f)), some (.int (nI l)), z6], [.int ((nI l + xk 1 0) / xk 2 0)], wW x0 y1 o, 0)
          rw [d1]
          have step : ∀ (P0 P1 : Nat) (V1 V2 pile : Int32), P0 = p → P1 = p + 1 → V1 = nI (f + F) → V2 = nI (l - F) → pile = nI (p + 1 + 1) → xAt k_X3_works (n + 2) R (107, [some (.ref 15), some (.int le), some (.int ob), some (.int pile), some (.int (nI f)), some (.int (nI l)), some (.int (nI F))], [], wW x0 (sA (sA (sA (sA y1 14 P0 V1) 15 P0 V2) 14 P1 (nI f)) 15 P1 (nI F)) o, 0) := fun P0 P1 V1 V2 pile q0 q1 q2 q3 q4 => by
            subst q0 q1 q2 q3 q4
            have hr1 : Rel N C q t x y1 := h.same hs1
            have hr2 : Rel N C q t x (sA (sA (sA (sA y1 14 P0 (nI (f + F))) 15 P0 (nI (l - F))) 14 (P0 + 1) (nI f)) 15 (P0 + 1) (nI F)) := hr1
            have hs2 : tSame y1 (sA (sA (sA (sA y1 14 P0 (nI (f + F))) 15 P0 (nI (l - F))) 14 (P0 + 1) (nI f)) 15 (P0 + 1) (nI F)) := ⟨fun _ _ _ => rfl, fun r h3 h4 h5 => by
              show va_up (va_up (va_up (va_up y1.2 14 _) 15 _) 14 _) 15 _ r = y1.2 r
              unfold va_up
              rw [if_neg h5, if_neg h4, if_neg h5, if_neg h4]⟩
            have hat2 : tAt C (s.1, s.2.1 + nI 1, s.2.2 + (nI 5 + cWt x f l)) (sA (sA (sA (sA y1 14 P0 (nI (f + F))) 15 P0 (nI (l - F))) 14 (P0 + 1) (nI f)) 15 (P0 + 1) (nI F)) := hat
            have r14 : ∀ i, (sA (sA (sA (sA y1 14 P0 (nI (f + F))) 15 P0 (nI (l - F))) 14 (P0 + 1) (nI f)) 15 (P0 + 1) (nI F)).2 14 i = upd (upd (y1.2 14) P0 (nI (f + F))) (P0 + 1) (nI f) i := fun _ => rfl
            have r15 : ∀ i, (sA (sA (sA (sA y1 14 P0 (nI (f + F))) 15 P0 (nI (l - F))) 14 (P0 + 1) (nI f)) 15 (P0 + 1) (nI F)).2 15 i = upd (upd (y1.2 15) P0 (nI (l - F))) (P0 + 1) (nI F) i := fun _ => rfl
            generalize sA (sA (sA (sA y1 14 P0 (nI (f + F))) 15 P0 (nI (l - F))) 14 (P0 + 1) (nI f)) 15 (P0 + 1) (nI F) = y2 at hr2 hs2 hat2 r14 r15 ⊢
            refine m_pile n le ob lv (f := f) (l := F) (p := P0 + 1) _ _ _ hr2 hat2 hF1 (by omega) hF (by omega) (by omega) (by rw [r14, pk_us]) (by rw [r15, pk_us]) (fun y3 z4 z5 z6 hs3 hat3 hk3 => ?_)
            refine m_pile n le ob lv (f := f + F) (l := l - F) (p := P0) _ _ _ (hr2.same hs3) hat3 (by omega) (by omega) (by omega) (by omega) (by omega) (by rw [(hk3 P0 (by omega)).1, r14, pk_un (by omega), pk_us]) (by rw [(hk3 P0 (by omega)).2, r15, pk_un (by omega), pk_us]) (fun y4 z4 z5 z6 hs4 hat4 hk4 => ?_)
            refine hR y4 _ _ _ (((hs1.tr hs2).tr hs3).tr hs4) hat4 (fun i hi => ?_)
            obtain ⟨a1, a2⟩ := hk4 i hi
            obtain ⟨b1, b2⟩ := hk3 i (by omega)
            obtain ⟨c1, c2⟩ := hk1 i
            exact ⟨by rw [a1, b1, r14, pk_un (by omega), pk_un (by omega), c1], by rw [a2, b2, r15, pk_un (by omega), pk_un (by omega), c2]⟩
          have q1 : (nI p + xk 1 0).toNatClampNeg = p + 1 := by rw [← nI_s]; exact cl_nI (by omega)
          have gi : vp_in (nI p + xk 1 0) 20 := by rw [← nI_s]; exact in_nI (by omega) (by omega)
          refine xWp.go 107 rfl ⟨in_nI (by omega) (by omega), in_nI (by omega) (by omega), gi, gi, trivial⟩ ?_
          exact step (nI p).toNatClampNeg (nI p + xk 1 0).toNatClampNeg (nI f + nI F) (nI l - nI F) (nI p + xk 2 0) ep q1 (nI_add f F) (pk_sub (by omega)) (nI_add p 2)
    · rw [hpass] at g3
      have e : cTry x (lv + 1) s f l = (s.1 ||| cRow x f l, s.2.1 + nI 1, s.2.2 + (nI 5 + cWt x f l)) := by rw [cTry, hpass]
      refine xWp.gb rfl trivial rfl (fun h => absurd h (by decide)) (fun _ => ?_)
      refine xWp.go 107 rfl trivial ?_
      exact hR y1 _ _ _ hs1 (by rw [e]; exact ⟨g3, g4, g5⟩) (fun i _ => hk1 i)
end WK
