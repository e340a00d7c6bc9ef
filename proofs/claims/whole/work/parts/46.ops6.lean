/-! calls on both sides, 6: what the queue would do -/
section O6
variable {x x0 y : xX} {o : Nat → Int64} {N C : Nat} {q : List Nat} {t : Nat} {w : xW} {S : Int32}
def esZ : Nat → Nat := fun _ => 0
theorem i_dec (a : Int32) : a + xk 1 1 = a - xk 1 0 := by
  show a + -1 = a - nI 1
  rw [Int32.sub_eq_add_neg]
  rfl
set_option maxHeartbeats 4000000 in
theorem m_works (n : Nat) (h : Rel N C q t x y) {l : Nat} (h1 : 1 ≤ l) (h8 : l ≤ 8) (hl : l ≤ q.length) (b : Bool) : xCW (n + 3) k_X3_works [.ref 15, .int (nI l), .int (bI b)] (wW x0 y o) (mQ none (fun y' => tSame y y' ∧ tAt C (if b then cFO x C l else cFR x C l) y') x0 o) := by
  have hq30 := h.1.q30
  have hC := h.1.c
  refine xWp.go 12 rfl trivial ?_
  show xAt k_X3_works (n + 2) _ (12, [some (.ref 15), some (.int (nI l)), some (.int (bI b)), some (.int (nI 0)), none, none, none], [], wW x0 (sI (sI y 5 (nI 0)) 6 (nI 0)) o, 0)
  have hs0 : tSame y (sI (sI y 5 (nI 0)) 6 (nI 0)) := ⟨fun i h5 h6 => by
    show upd (upd y.1 5 _) 6 _ i = y.1 i
    rw [pk_un h6, pk_un h5], fun _ _ _ _ => rfl⟩
  have z5 : (sI (sI y 5 (nI 0)) 6 (nI 0)).1 5 = nI 0 := rfl
  have z6 : (sI (sI y 5 (nI 0)) 6 (nI 0)).1 6 = nI 0 := rfl
  generalize sI (sI y 5 (nI 0)) 6 (nI 0) = y1 at hs0 z5 z6 ⊢
  -- the reference's copy is filled, then the pile
  have aft : ∀ z z4 z5 z6, tSame y z → tAt C (cT0 x C) z → xAt k_X3_works (n + 2) (mQ none (fun y' => tSame y y' ∧ tAt C (if b then cFO x C l else cFR x C l) y') x0 o) (47, [some (.ref 15), some (.int (nI l)), some (.int (bI b)), z4, z5, z6, none], [], wW x0 z o, 0) := fun z z4 z5 z6 hs ht => by
    have hr : Rel N C q t x z := h.same hs
    obtain ⟨l', rfl⟩ : ∃ l', l = l' + 1 := ⟨l - 1, by omega⟩
    cases b
    · refine xWp.gb rfl trivial rfl (fun h9 => ?_) (fun _ => ?_)
      · have h9' : nI (l' + 1) - xk 1 0 < 0 := h9
        rw [nI_pre] at h9'
        exact absurd h9' (n0_nI (by omega))
      refine xWp.gb rfl trivial rfl (fun _ => ?_) (fun h => absurd (by decide) h)
      refine xWp.gb rfl trivial rfl (fun _ => ?_) (fun h => absurd (by decide) h)
      refine xWp.go 107 rfl ⟨in_nI (k := 0) (by omega) (by omega), in_nI (k := 0) (by omega) (by omega), trivial⟩ ?_
      show xAt k_X3_works (n + 2) _ (107, [some (.ref 15), some (.int (nI (l' + 1))), some (.int (bI false)), some (.int (nI (0 + 1))), some (.int (nI (l' + 1) - xk 1 0)), z6, none], [], wW x0 (sA (sA z 14 0 (nI 0)) 15 0 (nI (l' + 1))) o, 0)
      have hr2 : Rel N C q t x (sA (sA z 14 0 (nI 0)) 15 0 (nI (l' + 1))) := hr
      have hs2 : tSame z (sA (sA z 14 0 (nI 0)) 15 0 (nI (l' + 1))) := ⟨fun _ _ _ => rfl, fun r h3 h4 h5 => by
        show va_up (va_up z.2 14 _) 15 _ r = z.2 r
        unfold va_up
        rw [if_neg h5, if_neg h4]⟩
      have ht2 : tAt C (cT0 x C) (sA (sA z 14 0 (nI 0)) 15 0 (nI (l' + 1))) := ht
      refine m_pile n _ _ 3 (f := 0) (l := l' + 1) (p := 0) _ _ _ hr2 ht2 (by omega) (by omega) (by omega) (by omega) (by omega) rfl rfl (fun y' z4 z5 z6 hs3 ht3 _ => ?_)
      refine xWp.gb rfl trivial rfl (fun _ => ?_) (fun h => absurd (by decide) h)
      exact xWp.gf rfl trivial rfl trivial (mQ.mk ⟨(hs.tr hs2).tr hs3, ht3⟩)
    · have run : ∀ m (d : Nat) (z' : xX) z4 z5 z6, d + m = l' + 1 → tSame y z' → tAt C (cFO x C d) z' → (∀ i, i < m → z'.2 14 i = nI (l' + 1 - 1 - i) ∧ z'.2 15 i = nI 1) → xAt k_X3_works (n + 2) (mQ none (fun y' => tSame y y' ∧ tAt C (if true then cFO x C (l' + 1) else cFR x C (l' + 1)) y') x0 o) (107, [some (.ref 15), some (.int (nI (l' + 1))), some (.int (bI true)), some (.int (nI m)), z4, z5, z6], [], wW x0 z' o, 0) := by
        intro m
        induction m with
        | zero =>
          intro d z' z4 z5 z6 hd hs' ht' _
          have ed : d = l' + 1 := by omega
          subst ed
          refine xWp.gb rfl trivial rfl (fun _ => ?_) (fun h => absurd (by decide) h)
          exact xWp.gf rfl trivial rfl trivial (mQ.mk ⟨hs', ht'⟩)
        | succ m ih =>
          intro d z' z4 z5 z6 hd hs' ht' hm
          obtain ⟨m1, m2⟩ := hm m (by omega)
          refine m_pile n _ _ 0 (f := d) (l := 1) (p := m) _ _ _ (h.same hs') ht' (by omega) (by omega) (by omega) (by omega) (by omega) (by rw [m1]; congr 1; omega) m2 (fun y' z4 z5 z6 hs3 ht3 hk3 => ?_)
          exact ih (d + 1) y' _ _ _ (by omega) (hs'.tr hs3) ht3 (fun i hi => by
            obtain ⟨a1, a2⟩ := hk3 i hi
            obtain ⟨b1, b2⟩ := hm i (by omega)
            exact ⟨by rw [a1, b1], by rw [a2, b2]⟩)
      have fill : ∀ m (p : Nat) (z' : xX) z5, p + m = l' + 1 → tSame y z' → tAt C (cT0 x C) z' → (∀ i, i < p → z'.2 14 i = nI (l' + 1 - 1 - i) ∧ z'.2 15 i = nI 1) → xAt k_X3_works (n + 2) (mQ none (fun y' => tSame y y' ∧ tAt C (if true then cFO x C (l' + 1) else cFR x C (l' + 1)) y') x0 o) (54, [some (.ref 15), some (.int (nI (l' + 1))), some (.int (bI true)), some (.int (nI p)), some (.int (nI m - xk 1 0)), z5, none], [], wW x0 z' o, 0) := by
        intro m
        induction m with
        | zero =>
          intro p z' z5 hp hs' ht' hm
          have ep : p = l' + 1 := by omega
          subst ep
          refine xWp.gb rfl trivial rfl (fun _ => ?_) (fun h => absurd (by decide) h)
          refine xWp.gb rfl trivial rfl (fun h => absurd h (by decide)) (fun _ => ?_)
          exact run (l' + 1) 0 z' _ _ _ (by omega) hs' ht' hm
        | succ m ih =>
          intro p z' z5 hp hs' ht' hm
          rw [nI_pre]
          refine xWp.gb rfl trivial rfl (fun h => absurd h (n0_nI (by omega))) (fun _ => ?_)
          refine xWp.gb rfl trivial rfl (fun h => absurd h (by decide)) (fun _ => ?_)
          have ep : (nI p).toNatClampNeg = p := cl_nI (by omega)
          have h9 := ih (p + 1) (sA (sA z' 14 p (nI m)) 15 p (nI 1)) z5 (by omega) (hs'.tr ⟨fun _ _ _ => rfl, fun r h3 h4 h5 => by
            show va_up (va_up z'.2 14 _) 15 _ r = z'.2 r
            unfold va_up
            rw [if_neg h5, if_neg h4]⟩) ht' (fun i hi => by
            show upd (z'.2 14) p (nI m) i = _ ∧ upd (z'.2 15) p (nI 1) i = _
            by_cases e : i = p
            · subst e
              rw [pk_us, pk_us]
              exact ⟨by congr 1; omega, rfl⟩
            · rw [pk_un e, pk_un e]
              exact hm i (by omega))
          rw [nI_s p, ← i_dec] at h9
          refine xWp.go 54 rfl ⟨in_nI (by omega) (by omega), in_nI (by omega) (by omega), trivial⟩ ?_
          rw [ep]
          exact h9
      refine xWp.go 54 rfl trivial ?_
      exact fill (l' + 1) 0 z _ (by omega) hs ht (fun i hi => by omega)
  have key : ∀ m k (z : xX), k + m = C → z.1 = y1.1 → (∀ r, r ≠ 13 → z.2 r = y1.2 r) → (∀ c, c < k → z.2 13 c = bI (decide (x.2 10 c = nI 2))) → xAt k_X3_works (n + 2) (mQ none (fun y' => tSame y y' ∧ tAt C (if b then cFO x C l else cFR x C l) y') x0 o) (12, [some (.ref 15), some (.int (nI l)), some (.int (bI b)), some (.int (nI k)), none, none, none], [], wW x0 z o, 0) := by
    intro m
    induction m with
    | zero =>
      intro k z hk z1 z2 z3
      have ek : k = C := by omega
      subst ek
      have hsz : tSame y z := hs0.tr ⟨fun i _ _ => by rw [z1], fun r h3 _ _ => z2 r h3⟩
      have zC := (h.same hsz).2.1.2.2.1
      refine xWp.gb rfl trivial rfl (fun _ => ?_) (fun h9 => ?_)
      · refine aft z _ _ _ hsz ⟨⟨fun c hc => ?_, fun c hc => ((bt_all hC (nI 2) c).mp hc).1⟩, by rw [z1]; exact z5, by rw [z1]; exact z6⟩
        rw [z3 c hc]
        congr 1
        rw [Bool.eq_iff_iff, decide_eq_true_eq]
        show _ ↔ bt (cAll x k (nI 2)) c = true
        rw [bt_all hC]
        exact ⟨fun e => ⟨hc, e⟩, fun e => e.2⟩
      · have h9' : ¬ z.1 2 ≤ nI k := h9
        rw [zC, le_nI (by omega) (by omega)] at h9'
        omega
    | succ m ih =>
      intro k z hk z1 z2 z3
      have hsz : tSame y z := hs0.tr ⟨fun i _ _ => by rw [z1], fun r h3 _ _ => z2 r h3⟩
      have hrz := h.same hsz
      have zC := hrz.2.1.2.2.1
      have zs := hrz.2.2.1.2.2.2.2.2.2
      have ek : (nI k).toNatClampNeg = k := cl_nI (by omega)
      refine xWp.gb rfl trivial rfl (fun h9 => ?_) (fun _ => ?_)
      · have h9' : z.1 2 ≤ nI k := h9
        rw [zC, le_nI (by omega) (by omega)] at h9'
        omega
      have nxt : ∀ v, v = bI (decide (x.2 10 k = nI 2)) → xAt k_X3_works (n + 2) (mQ none (fun y' => tSame y y' ∧ tAt C (if b then cFO x C l else cFR x C l) y') x0 o) (40, [some (.ref 15), some (.int (nI l)), some (.int (bI b)), some (.int (nI k)), none, none, none], [.int v, .int (nI k), .ref 29], wW x0 z o, 0) := fun v ev => by
        have h9 := ih (k + 1) (sA z 13 k v) (by omega) z1 (fun r hr => by
          show va_up z.2 13 _ r = y1.2 r
          unfold va_up
          rw [if_neg hr]
          exact z2 r hr) (fun c hc => by
          show upd (z.2 13) k v c = _
          by_cases e : c = k
          · subst e; rw [pk_us, ev]
          · rw [pk_un e]; exact z3 c (by omega))
        rw [nI_s k] at h9
        refine xWp.go 12 rfl ⟨⟨in_nI (by omega) (by omega), by rw [ev]; exact bI_z⟩, trivial⟩ ?_
        rw [ek]
        exact h9
      refine xWp.gb rfl ⟨in_nI (by omega) (by omega), trivial⟩ rfl (fun h9 => ?_) (fun h9 => ?_)
      · have h9' : z.2 8 (nI k).toNatClampNeg = nI 2 := h9
        rw [ek, zs] at h9'
        refine xWp.go 40 rfl trivial ?_
        exact nxt _ (by rw [decide_eq_true h9']; rfl)
      · have h9' : ¬ z.2 8 (nI k).toNatClampNeg = nI 2 := h9
        rw [ek, zs] at h9'
        refine xWp.go 40 rfl trivial ?_
        exact nxt _ (by rw [decide_eq_false h9']; rfl)
  exact key C 0 y1 (by omega) rfl (fun _ _ => rfl) (fun c hc => by omega)
set_option maxHeartbeats 4000000 in
theorem m_isRow (n : Nat) (v : Int32) {b : Bool} (hb : b = decide (¬ y.1 3 < v)) : xCW (n + 2) k_X3_isRow [.ref 15, .int v] (wW x0 y o) (xIs (.inl (some (.int (bI (inR v (nI 1) (nI 8) && (b && true)))))) (wW x0 (sI y 7 (gL (inR v (nI 1) (nI 8)) b true)) o)) := by
  refine xWp.gc rfl trivial rfl (m_in _ v (nI 1) (nI 8)) (by decide) ?_
  refine xWp.gb rfl trivial rfl (fun h9 => ?_) (fun h9 => ?_)
  · have e : b = false := by rw [hb]; simp only [show y.1 3 < v from h9]; rfl
    subst e
    refine xWp.gc rfl trivial rfl (m_goes _ (inR v (nI 1) (nI 8)) false true) (by decide) ?_
    exact xWp.gf rfl trivial rfl (Or.inr bI_z) ⟨rfl, rfl⟩
  · have e : b = true := by rw [hb]; simp only [show ¬ y.1 3 < v from h9]; rfl
    subst e
    refine xWp.gc rfl trivial rfl (m_goes _ (inR v (nI 1) (nI 8)) true true) (by decide) ?_
    exact xWp.gf rfl trivial rfl (Or.inr bI_z) ⟨rfl, rfl⟩
/-- a row's length: not right, too long, or right -/
theorem row_of (h : Rel N C q t x y) (v : Int32) : (inR v (nI 1) (nI 8) = false) ∨ (inR v (nI 1) (nI 8) = true ∧ ¬ v ≤ x.1 5 ∧ y.1 3 < v) ∨ (∃ l, v = nI l ∧ 1 ≤ l ∧ l ≤ 8 ∧ l ≤ q.length ∧ inR v (nI 1) (nI 8) = true ∧ ¬ y.1 3 < v) := by
  have hq30 := h.1.q30
  have e3 : y.1 3 = nI q.length := h.2.1.2.2.2.1
  have e5 : x.1 5 = nI q.length := h.1.wf.2.2.2.2.1
  cases hr : inR v (nI 1) (nI 8)
  · exact Or.inl rfl
  · refine Or.inr ?_
    obtain ⟨v1, v2⟩ := inR_iff.mp hr
    obtain ⟨l, hl8, rfl⟩ := nI_of2 (M := nI 8) (n := 8) rfl (fun z => v1 (fa_trans z (by decide))) v2
    rw [lt_nI (by omega) (by omega)] at v1
    by_cases hl : l ≤ q.length
    · exact Or.inr ⟨l, rfl, by omega, hl8, hl, rfl, by rw [e3, lt_nI (by omega) (by omega)]; omega⟩
    · exact Or.inl ⟨rfl, by rw [e5, le_nI (by omega) (by omega)]; exact hl, by rw [e3, lt_nI (by omega) (by omega)]; omega⟩
theorem or_z (a : Int32) : a ||| xk 0 0 = a := by
  refine b_ext (fun i _ => ?_)
  rw [b_or]
  show (bt a i || bt (nI 0) i) = bt a i
  rw [show bt (nI 0) i = false from b_0 i, Bool.or_false]
set_option maxHeartbeats 4000000 in
theorem m_passed (n : Nat) (h : Rel N C q t x y) (ht : tOk C S y) {l : Nat} (hl : l ≤ q.length) : xCW (n + 1) k_X3_passed [.ref 15, .int (nI l)] (wW x0 y o) (xIs (.inl (some (.int (cPP x S l)))) (wW x0 y o)) := by
  have hq30 := h.1.q30
  have hC := h.1.c
  refine xWp.go 4 rfl trivial ?_
  refine xWp.loop l (fun j => (4, [some (.ref 15), some (.int (nI l)), some (.int (cPP x S j)), some (.int (nI j))], [], wW x0 y o, 0)) (fun j hj ih => ?_) ?_
  · have hqi := h.1.qf j (by omega)
    have e1 : (nI j).toNatClampNeg = j := cl_nI (by omega)
    have hyq := qat h (i := j) (by omega)
    have g2 : vp_in (y.2 12 (nI j).toNatClampNeg) 30 := by rw [e1, hyq]; exact in_nI (by omega) (by omega)
    refine xWp.gb rfl trivial rfl (fun h9 => ?_) (fun _ => ?_)
    · rw [le_nI (by omega) (by omega)] at h9
      omega
    rw [nI_s j] at ih
    refine xWp.gb rfl ⟨in_nI (by omega) (by omega), g2, trivial⟩ rfl (fun h9 => ?_) (fun h9 => ?_)
    · have h9' : y.2 13 (y.2 12 (nI j).toNatClampNeg).toNatClampNeg = 0 := h9
      rw [e1, hyq, cl_nI (by omega), ht.1 _ hqi.2, bI_0] at h9'
      have e : cPP x S (j + 1) = cPP x S j := orIf_f h9'
      rw [e, ← or_z (cPP x S j)] at ih
      exact xWp.go 4 rfl trivial ih
    · have h9' : ¬ y.2 13 (y.2 12 (nI j).toNatClampNeg).toNatClampNeg = 0 := h9
      rw [e1, hyq, cl_nI (by omega), ht.1 _ hqi.2, bI_0, Bool.not_eq_false] at h9'
      have e : cPP x S (j + 1) = cPP x S j ||| bitI j := orIf_t h9'
      rw [e] at ih
      exact xWp.go 4 rfl trivial ih
  · refine xWp.gb rfl trivial rfl (fun _ => ?_) (fun h9 => absurd ((le_nI (by omega) (by omega)).mpr (Nat.le_refl _)) h9)
    exact xWp.gf rfl trivial rfl (Or.inl rfl) ⟨rfl, rfl⟩
theorem m_worksJ (n : Nat) (h : Rel N C q t x y) {l : Nat} (h1 : 1 ≤ l) (h8 : l ≤ 8) (hl : l ≤ q.length) {b : Bool} {v : Int32} (ev : v = bI b) : xCW (n + 3) k_X3_works [.ref 15, .int (nI l), .int v] (wW x0 y o) (mQ none (fun y' => tSame y y' ∧ tAt C (if b then cFO x C l else cFR x C l) y') x0 o) := by
  rw [ev]; exact m_works n h h1 h8 hl b
set_option maxHeartbeats 4000000 in
theorem op_wouldPass {T : Nat} (h : Rel N C q t x y) (hT : t + 100 ≤ T) (v : Int32) : opR k_X2_wouldPass k_X3_wouldPass [.int v] esA T x y := by
  rcases row_of h v with hr | ⟨hr, hv, hy⟩ | ⟨l, rfl, l1, l8, hl, hr, hy⟩
  · refine opR.thr (e := 0) (code := 1) h (by omega) rfl (by omega) (fun _ _ => c_wouldPass_0 (inR_no hr)) (fun x0 o => ⟨nI 0, ?_⟩)
    refine xWp.gc rfl trivial rfl (m_isRow 17 v rfl) (by decide) ?_
    rw [hr]
    refine xWp.gb rfl trivial rfl (fun _ => ?_) (fun h => (h rfl).elim)
    exact xWp.gf rfl trivial rfl (Or.inl rfl) ⟨rfl, rfl⟩
  · obtain ⟨v1, v2⟩ := inR_iff.mp hr
    refine opR.thr (e := 1) (code := 2) h (by omega) rfl (by omega) (fun _ _ => c_wouldPass_1 v1 v2 hv) (fun x0 o => ⟨nI 0, ?_⟩)
    refine xWp.gc rfl trivial rfl (m_isRow (b := false) 17 v (by rw [decide_eq_false (fun z => z hy)])) (by decide) ?_
    rw [hr]
    refine xWp.gb rfl trivial rfl (fun _ => ?_) (fun h => absurd (by decide) h)
    exact xWp.gf rfl trivial rfl (Or.inl rfl) ⟨rfl, rfl⟩
  · refine opR.ok (fun _ _ => c_wouldPass h.1.wf h.1.qf l1 l8 hl) (fun x0 o => ?_)
    refine xWp.gc rfl trivial rfl (m_isRow (b := true) 17 (nI l) (by rw [decide_eq_true hy])) (by decide) ?_
    rw [hr]
    refine xWp.gb rfl trivial rfl (fun h => absurd h (by decide)) (fun _ => ?_)
    have h7 : Rel N C q t x (sI y 7 (nI 0)) := h
    refine xWp.gm rfl trivial rfl (m_worksJ (b := false) 16 h7 l1 l8 hl rfl) (by decide) (fun y1 hy1 => ?_)
    obtain ⟨s1, t1⟩ := hy1
    have hr1 : Rel N C q t x y1 := h7.same s1
    have hr2 : Rel N C q t (cTr x (cFR x C l)) y1 := hr1
    refine xWp.gc rfl trivial rfl (m_passed 18 hr1 t1.1 hl) (by decide) ?_
    exact xWp.gf rfl trivial rfl (Or.inl rfl) (opP.mk hr2 (by omega) (by rw [s1.1 7 (by decide) (by decide)]; rfl))
set_option maxHeartbeats 4000000 in
theorem op_wouldPassOneByOne {T : Nat} (h : Rel N C q t x y) (hT : t + 100 ≤ T) (v : Int32) : opR k_X2_wouldPassOneByOne k_X3_wouldPassOneByOne [.int v] esA T x y := by
  rcases row_of h v with hr | ⟨hr, hv, hy⟩ | ⟨l, rfl, l1, l8, hl, hr, hy⟩
  · refine opR.thr (e := 0) (code := 1) h (by omega) rfl (by omega) (fun _ _ => c_wouldPassOneByOne_0 (inR_no hr)) (fun x0 o => ⟨nI 0, ?_⟩)
    refine xWp.gc rfl trivial rfl (m_isRow 17 v rfl) (by decide) ?_
    rw [hr]
    refine xWp.gb rfl trivial rfl (fun _ => ?_) (fun h => (h rfl).elim)
    exact xWp.gf rfl trivial rfl (Or.inl rfl) ⟨rfl, rfl⟩
  · obtain ⟨v1, v2⟩ := inR_iff.mp hr
    refine opR.thr (e := 1) (code := 2) h (by omega) rfl (by omega) (fun _ _ => c_wouldPassOneByOne_1 v1 v2 hv) (fun x0 o => ⟨nI 0, ?_⟩)
    refine xWp.gc rfl trivial rfl (m_isRow (b := false) 17 v (by rw [decide_eq_false (fun z => z hy)])) (by decide) ?_
    rw [hr]
    refine xWp.gb rfl trivial rfl (fun _ => ?_) (fun h => absurd (by decide) h)
    exact xWp.gf rfl trivial rfl (Or.inl rfl) ⟨rfl, rfl⟩
  · refine opR.ok (fun _ _ => c_wouldPassOneByOne h.1.wf h.1.qf l1 l8 hl) (fun x0 o => ?_)
    refine xWp.gc rfl trivial rfl (m_isRow (b := true) 17 (nI l) (by rw [decide_eq_true hy])) (by decide) ?_
    rw [hr]
    refine xWp.gb rfl trivial rfl (fun h => absurd h (by decide)) (fun _ => ?_)
    have h7 : Rel N C q t x (sI y 7 (nI 0)) := h
    refine xWp.gm rfl trivial rfl (m_worksJ (b := true) 16 h7 l1 l8 hl rfl) (by decide) (fun y1 hy1 => ?_)
    obtain ⟨s1, t1⟩ := hy1
    have hr1 : Rel N C q t x y1 := h7.same s1
    have hr2 : Rel N C q t (cTr x (cFO x C l)) y1 := hr1
    refine xWp.gc rfl trivial rfl (m_passed 18 hr1 t1.1 hl) (by decide) ?_
    exact xWp.gf rfl trivial rfl (Or.inl rfl) (opP.mk hr2 (by omega) (by rw [s1.1 7 (by decide) (by decide)]; rfl))
set_option maxHeartbeats 4000000 in
theorem op_wouldTake {T : Nat} (h : Rel N C q t x y) (hT : t + 100 ≤ T) (v : Int32) (b : Bool) : opR k_X2_wouldTake k_X3_wouldTake [.int v, .int (bI b)] esA T x y := by
  rcases row_of h v with hr | ⟨hr, hv, hy⟩ | ⟨l, rfl, l1, l8, hl, hr, hy⟩
  · refine opR.thr (e := 0) (code := 1) h (by omega) rfl (by omega) (fun _ _ => c_wouldTake_0 (inR_no hr)) (fun x0 o => ⟨nI 0, ?_⟩)
    refine xWp.gc rfl trivial rfl (m_isRow 17 v rfl) (by decide) ?_
    rw [hr]
    refine xWp.gb rfl trivial rfl (fun _ => ?_) (fun h => (h rfl).elim)
    exact xWp.gf rfl trivial rfl (Or.inl rfl) ⟨rfl, rfl⟩
  · obtain ⟨v1, v2⟩ := inR_iff.mp hr
    refine opR.thr (e := 1) (code := 2) h (by omega) rfl (by omega) (fun _ _ => c_wouldTake_1 v1 v2 hv) (fun x0 o => ⟨nI 0, ?_⟩)
    refine xWp.gc rfl trivial rfl (m_isRow (b := false) 17 v (by rw [decide_eq_false (fun z => z hy)])) (by decide) ?_
    rw [hr]
    refine xWp.gb rfl trivial rfl (fun _ => ?_) (fun h => absurd (by decide) h)
    exact xWp.gf rfl trivial rfl (Or.inl rfl) ⟨rfl, rfl⟩
  · have h7 : Rel N C q t x (sI y 7 (nI 0)) := h
    cases b
    · refine opR.ok (fun _ _ => c_wouldTake_r h.1.wf h.1.qf l1 l8 hl) (fun x0 o => ?_)
      refine xWp.gc rfl trivial rfl (m_isRow (b := true) 17 (nI l) (by rw [decide_eq_true hy])) (by decide) ?_
      rw [hr]
      refine xWp.gb rfl trivial rfl (fun h => absurd h (by decide)) (fun _ => ?_)
      refine xWp.gm rfl trivial rfl (m_works 16 h7 l1 l8 hl false) (by decide) (fun y1 hy1 => ?_)
      obtain ⟨s1, t1⟩ := hy1
      have hr2 : Rel N C q t (cTr x (cFR x C l)) y1 := h7.same s1
      exact xWp.gf rfl trivial rfl (Or.inl rfl) ⟨y1, _, rfl, rfl, fun _ => t1.2.2, by rw [s1.1 7 (by decide) (by decide)]; rfl, N, C, q, t, by omega, hr2⟩
    · refine opR.ok (fun _ _ => c_wouldTake_o h.1.wf h.1.qf (b := bI true) (by decide) l1 l8 hl) (fun x0 o => ?_)
      refine xWp.gc rfl trivial rfl (m_isRow (b := true) 17 (nI l) (by rw [decide_eq_true hy])) (by decide) ?_
      rw [hr]
      refine xWp.gb rfl trivial rfl (fun h => absurd h (by decide)) (fun _ => ?_)
      refine xWp.gm rfl trivial rfl (m_works 16 h7 l1 l8 hl true) (by decide) (fun y1 hy1 => ?_)
      obtain ⟨s1, t1⟩ := hy1
      have hr2 : Rel N C q t (cTr x (cFO x C l)) y1 := h7.same s1
      exact xWp.gf rfl trivial rfl (Or.inl rfl) ⟨y1, _, rfl, rfl, fun _ => t1.2.2, by rw [s1.1 7 (by decide) (by decide)]; rfl, N, C, q, t, by omega, hr2⟩
theorem ct_pp (h : cInv N C q t x) (S : Int32) {l : Nat} (hl : l ≤ 8) : fb_ct (bt (cPP x S l)) 32 = fb_ct (fun p => bt S (cq x p)) l := by
  have hb : ∀ p, bt (cPP x S l) p = true ↔ p < l ∧ bt S (cq x p) = true := fun p => by
    unfold cPP
    rw [bt_orIf]
    constructor
    · rintro ⟨k, h1, h2, h3⟩
      rw [bt_bitI (by omega), decide_eq_true_eq] at h3
      subst h3
      exact ⟨h1, h2⟩
    · rintro ⟨h1, h2⟩
      exact ⟨p, h1, h2, by rw [bt_bitI (by omega)]; simp⟩
  rw [ct_bits (C := l) (fun c hc => ((hb c).mp hc).1) (by omega)]
  refine fb_ct_cong (fun p hp => ?_)
  rw [Bool.eq_iff_iff, hb]
  exact ⟨fun z => z.2, fun z => ⟨hp, z⟩⟩
set_option maxHeartbeats 4000000 in
theorem op_bestLength {T : Nat} (h : Rel N C q t x y) (hT : t + 100 ≤ T) : opR k_X2_bestLength k_X3_bestLength [] esZ T x y := by
  have hq30 := h.1.q30
  obtain ⟨L, hL8, hLq, hL⟩ : ∃ L, L ≤ 8 ∧ L ≤ q.length ∧ (L = 8 ∨ L = q.length) := by
    rcases Nat.lt_or_ge q.length 8 with z | z
    · exact ⟨q.length, by omega, by omega, Or.inr rfl⟩
    · exact ⟨8, by omega, z, Or.inl rfl⟩
  refine opR.ok (fun _ _ => c_bestLength h.1.wf h.1.qf hL8 hLq hL) (fun x0 o => ?_)
  have key : ∀ m j (z : xX) z5 z6, j + m = L → tSame (sI y 7 (nI 0)) z → xAt k_X3_bestLength 19 (opP (cTr x (cBsS x C L)) T 0 (cBst x C L).1 x0 o) (14, [some (.ref 15), some (.int (cBst x C j).1), some (.int (cBst x C j).2.1), some (.int (cBst x C j).2.2), some (.int (nI (j + 1))), z5, z6], [], wW x0 z o, 0) := by
    have h7 : Rel N C q t x (sI y 7 (nI 0)) := h
    intro m
    induction m with
    | zero =>
      intro j z z5 z6 hj hs
      have ej : j = L := by omega
      subst ej
      have hr := h7.same hs
      have e3 : z.1 3 = nI q.length := hr.2.1.2.2.2.1
      have hr2 : Rel N C q t (cTr x (cBsS x C j)) z := hr
      have fin := opP.mk (x0 := x0) (o := o) (T := T) (b := (cBst x C j).1) hr2 (by omega) (by rw [hs.1 7 (by decide) (by decide)]; rfl)
      by_cases e8 : j = 8
      · refine xWp.gb rfl trivial rfl (fun _ => ?_) (fun h9 => ?_)
        · exact xWp.gf rfl trivial rfl (Or.inl rfl) fin
        · have h9' : ¬ nI 8 < nI (j + 1) := h9
          rw [lt_nI (by omega) (by omega)] at h9'
          omega
      · refine xWp.gb rfl trivial rfl (fun _ => ?_) (fun _ => ?_)
        · exact xWp.gf rfl trivial rfl (Or.inl rfl) fin
        · refine xWp.gb rfl trivial rfl (fun _ => ?_) (fun h9 => ?_)
          · exact xWp.gf rfl trivial rfl (Or.inl rfl) fin
          · have h9' : ¬ z.1 3 < nI (j + 1) := h9
            rw [e3, lt_nI (by omega) (by omega)] at h9'
            omega
    | succ m ih =>
      intro j z z5 z6 hj hs
      have hr := h7.same hs
      have e3 : z.1 3 = nI q.length := hr.2.1.2.2.2.1
      refine xWp.gb rfl trivial rfl (fun h9 => ?_) (fun _ => ?_)
      · have h9' : nI 8 < nI (j + 1) := h9
        rw [lt_nI (by omega) (by omega)] at h9'
        omega
      refine xWp.gb rfl trivial rfl (fun h9 => ?_) (fun _ => ?_)
      · have h9' : z.1 3 < nI (j + 1) := h9
        rw [e3, lt_nI (by omega) (by omega)] at h9'
        omega
      refine xWp.gm rfl trivial rfl (m_worksJ (b := false) 16 hr (l := j + 1) (by omega) (by omega) (by omega) rfl) (by decide) (fun y1 hy1 => ?_)
      obtain ⟨s1, t1⟩ := hy1
      have hr1 : Rel N C q t x y1 := hr.same s1
      have hs1 := hs.tr s1
      have t1' : tAt C (cFR x C (j + 1)) y1 := t1
      have hct := ct_pp h.1 (cFR x C (j + 1)).1 (l := j + 1) (by omega)
      have e81 : ∀ z6, xAt k_X3_bestLength 19 (opP (cTr x (cBsS x C L)) T 0 (cBst x C L).1 x0 o) (81, [some (.ref 15), some (.int (cBst x C j).1), some (.int (cBst x C j).2.1), some (.int (cBst x C j).2.2), some (.int (nI (j + 1))), some (.int (nI (fb_ct (fun p => bt (cFR x C (j + 1)).1 (cq x p)) (j + 1)))), z6], [], wW x0 y1 o, 0) := fun z6 => by
        rw [← hct]
        have yes : cBst x C (j + 1) = (nI (j + 1), nI (fb_ct (bt (cPP x (cFR x C (j + 1)).1 (j + 1))) 32), (cFR x C (j + 1)).2.2) → xAt k_X3_bestLength 19 (opP (cTr x (cBsS x C L)) T 0 (cBst x C L).1 x0 o) (99, [some (.ref 15), some (.int (cBst x C j).1), some (.int (cBst x C j).2.1), some (.int (cBst x C j).2.2), some (.int (nI (j + 1))), some (.int (nI (fb_ct (bt (cPP x (cFR x C (j + 1)).1 (j + 1))) 32))), z6], [], wW x0 y1 o, 0) := fun e => by
          have h9 := ih (j + 1) y1 (some (.int (nI (fb_ct (bt (cPP x (cFR x C (j + 1)).1 (j + 1))) 32)))) z6 (by omega) hs1
          rw [e, ← t1'.2.2, nI_s (j + 1)] at h9
          exact xWp.go 14 rfl trivial h9
        refine xWp.gb rfl trivial rfl (fun h9 => ?_) (fun h9 => ?_)
        · exact yes (if_pos (Or.inl h9))
        · refine xWp.gb rfl trivial rfl (fun h2 => ?_) (fun h2 => ?_)
          · have h2' : nI (fb_ct (bt (cPP x (cFR x C (j + 1)).1 (j + 1))) 32) * (cBst x C j).2.2 ≤ (cBst x C j).2.1 * y1.1 6 := h2
            rw [t1'.2.2] at h2'
            have e : cBst x C (j + 1) = cBst x C j := if_neg (fun z => z.elim h9 (fun z => z h2'))
            have h99 := ih (j + 1) y1 (some (.int (nI (fb_ct (bt (cPP x (cFR x C (j + 1)).1 (j + 1))) 32)))) z6 (by omega) hs1
            rw [e, nI_s (j + 1)] at h99
            exact xWp.go 14 rfl trivial h99
          · have h2' : ¬ nI (fb_ct (bt (cPP x (cFR x C (j + 1)).1 (j + 1))) 32) * (cBst x C j).2.2 ≤ (cBst x C j).2.1 * y1.1 6 := h2
            rw [t1'.2.2] at h2'
            exact yes (if_pos (Or.inr h2'))
      refine xWp.go 43 rfl trivial ?_
      refine xWp.loop (j + 1) (fun k => (43, [some (.ref 15), some (.int (cBst x C j).1), some (.int (cBst x C j).2.1), some (.int (cBst x C j).2.2), some (.int (nI (j + 1))), some (.int (nI (fb_ct (fun p => bt (cFR x C (j + 1)).1 (cq x p)) k))), some (.int (nI k))], [], wW x0 y1 o, 0)) (fun k hk ih2 => ?_) ?_
      · have hqi := h.1.qf k (by omega)
        have e1 : (nI k).toNatClampNeg = k := cl_nI (by omega)
        have hyq := qat hr1 (i := k) (by omega)
        have hC := h.1.c
        have g2 : vp_in (y1.2 12 (nI k).toNatClampNeg) 30 := by rw [e1, hyq]; exact in_nI (by omega) (by omega)
        refine xWp.gb rfl trivial rfl (fun h9 => ?_) (fun _ => ?_)
        · rw [le_nI (by omega) (by omega)] at h9
          omega
        rw [nI_s k] at ih2
        refine xWp.gb rfl ⟨in_nI (by omega) (by omega), g2, trivial⟩ rfl (fun h9 => ?_) (fun h9 => ?_)
        · have h9' : y1.2 13 (y1.2 12 (nI k).toNatClampNeg).toNatClampNeg = 0 := h9
          rw [e1, hyq, cl_nI (by omega), t1'.1.1 _ hqi.2, bI_0] at h9'
          have e : fb_ct (fun p => bt (cFR x C (j + 1)).1 (cq x p)) (k + 1) = fb_ct (fun p => bt (cFR x C (j + 1)).1 (cq x p)) k := by rw [fb_ct_succ, h9']; rfl
          rw [e, ← nI_z (fb_ct (fun p => bt (cFR x C (j + 1)).1 (cq x p)) k)] at ih2
          exact xWp.go 43 rfl trivial ih2
        · have h9' : ¬ y1.2 13 (y1.2 12 (nI k).toNatClampNeg).toNatClampNeg = 0 := h9
          rw [e1, hyq, cl_nI (by omega), t1'.1.1 _ hqi.2, bI_0, Bool.not_eq_false] at h9'
          have e : fb_ct (fun p => bt (cFR x C (j + 1)).1 (cq x p)) (k + 1) = fb_ct (fun p => bt (cFR x C (j + 1)).1 (cq x p)) k + 1 := by rw [fb_ct_succ, h9']; rfl
          rw [e, nI_s (fb_ct (fun p => bt (cFR x C (j + 1)).1 (cq x p)) k)] at ih2
          exact xWp.go 43 rfl trivial ih2
      · exact xWp.gb rfl trivial rfl (fun _ => e81 _) (fun h9 => absurd ((le_nI (by omega) (by omega)).mpr (Nat.le_refl _)) h9)
  refine xWp.go 14 rfl trivial ?_
  exact key L 0 (sI y 7 (nI 0)) none none (by omega) ⟨fun _ _ _ => rfl, fun _ _ _ _ => rfl⟩
end O6
