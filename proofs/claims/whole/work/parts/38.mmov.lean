/-! the reference: whether a card can move -/
section MV
variable {x x0 y : xX} {o : Nat → Int64} {N C : Nat} {q : List Nat} {t : Nat} {w : xW}
theorem and_zero {a b : Int32} : a &&& b = 0 ↔ ∀ i, i < 32 → bt a i = true → bt b i = false := by
  constructor
  · intro h i _ ha
    have h1 : bt (a &&& b) i = false := by rw [h, b_0]
    rw [b_and, ha] at h1
    simpa using h1
  · intro h
    refine b_ext (fun i hi => ?_)
    rw [b_and, b_0]
    cases ha : bt a i
    · rfl
    · rw [h i hi ha]; rfl
theorem bt_all (hC : C ≤ 30) (s : Int32) (c : Nat) : bt (cAll x C s) c = true ↔ c < C ∧ x.2 10 c = s := by
  unfold cAll
  rw [bt_orIf]
  constructor
  · rintro ⟨k, hk, h1, h2⟩
    rw [bt_bitI (by omega), decide_eq_true_eq] at h2
    subst h2
    exact ⟨hk, by simpa using h1⟩
  · rintro ⟨h1, h2⟩
    exact ⟨c, h1, by simpa using h2, by rw [bt_bitI (by omega)]; simp⟩
theorem ct_bits {m : Int32} (h : ∀ c, bt m c = true → c < C) (hC : C ≤ 32) : fb_ct (bt m) 32 = fb_ct (bt m) C := by
  rw [show 32 = C + (32 - C) by omega, fb_ct_split]
  have : fb_ct (fun k => bt m (C + k)) (32 - C) = 0 := fb_ct_zero.mpr (fun k _ => by
    cases e : bt m (C + k)
    · rfl
    · have := h _ e; omega)
  omega
def xBr (x : xX) (k c : Nat) (j : Nat) : Bool := (bt (x.2 8 c) j && (decide (x.2 10 j = nI 0) || decide (x.2 10 j = nI 3))) && !(bt (x.2 3 k) j)
def xBars (x : xX) (k c : Nat) (j : Nat) : Bool := decide (x.2 10 c = nI 3) || anyB (xBr x k c) j
theorem xBars_s {k c j : Nat} {b : Bool} (h : b = (xBars x k c j || xBr x k c j)) : bI b = bI (xBars x k c (j + 1)) := by
  rw [h]
  unfold xBars
  rw [anyB, Bool.or_assoc]
set_option maxHeartbeats 4000000 in
theorem m_bars (n : Nat) (h : Rel N C q t x y) {k c : Nat} (hk : k < 20) (hc : c < C) : xCW (n + 2) k_X3_bars [.ref 15, .int (nI k), .int (nI c)] (wW x0 y o) (xIs (.inl (some (.int (bI (xBars x k c C))))) (wW x0 y o)) := by
  have rd := h.rd
  obtain ⟨-, -, hn, hN, -, -⟩ := h.rd
  have hs := h.2.2.1.2.2.2.2.2.2
  have hd := h.2.2.2.2.2.2.1
  have loop : ∀ z, xAt k_X3_bars (n + 1) (xIs (.inl (some (.int (bI (xBars x k c C))))) (wW x0 y o)) (19, [some (.ref 15), some (.int (nI k)), some (.int (nI c)), some (.int (bI (xBars x k c 0))), some (.int (nI 0)), z], [], wW x0 y o, 0) := by
    intro z
    refine xWp.loopZ C (fun j z => (19, [some (.ref 15), some (.int (nI k)), some (.int (nI c)), some (.int (bI (xBars x k c j))), some (.int (nI j)), z], [], wW x0 y o, 0)) (fun j z hj ih => ?_) (fun z => ?_) z
    · refine xWp.gb rfl trivial rfl (fun h => ?_) (fun _ => ?_)
      · have h' : y.1 2 ≤ nI j := h
        rw [hn, le_nI (by omega) (by omega)] at h'; omega
      have yes : ∀ z, (xBars x k c j || xBr x k c j) = true → xAt k_X3_bars (n + 1) (xIs (.inl (some (.int (bI (xBars x k c C))))) (wW x0 y o)) (90, [some (.ref 15), some (.int (nI k)), some (.int (nI c)), some (.int (bI (xBars x k c j))), some (.int (nI j)), z], [], wW x0 y o, 0) := fun z e => by
        refine xWp.go 19 rfl trivial ?_
        have h9 := ih z
        rw [nI_s j, ← xBars_s e.symm] at h9
        exact h9
      have no : ∀ z, (xBars x k c j || xBr x k c j) = false → xAt k_X3_bars (n + 1) (xIs (.inl (some (.int (bI (xBars x k c C))))) (wW x0 y o)) (94, [some (.ref 15), some (.int (nI k)), some (.int (nI c)), some (.int (bI (xBars x k c j))), some (.int (nI j)), z], [], wW x0 y o, 0) := fun z e => by
        refine xWp.go 19 rfl trivial ?_
        have h9 := ih z
        rw [nI_s j, ← xBars_s e.symm] at h9
        exact h9
      have mid : ∀ (lk : Bool) z, lk = (decide (x.2 10 j = nI 0) || decide (x.2 10 j = nI 3)) → xAt k_X3_bars (n + 1) (xIs (.inl (some (.int (bI (xBars x k c C))))) (wW x0 y o)) (54, [some (.ref 15), some (.int (nI k)), some (.int (nI c)), some (.int (bI (xBars x k c j))), some (.int (nI j)), z], [.int (bI lk)], wW x0 y o, 0) := fun lk z elk => by
        refine xWp.gb rfl trivial rfl (fun hb => ?_) (fun hb => ?_)
        · rw [bI_0] at hb
          refine xWp.gb rfl ⟨ix30_in (K := 30) (by omega) (by omega) (by omega), trivial⟩ rfl (fun h3 => ?_) (fun h3 => ?_)
          · rw [ix30_cl (K := 30) (by omega) (by omega) (by omega), hd c j (by omega) (by omega), bI_0] at h3
            exact no _ (by rw [hb]; unfold xBr; rw [h3]; rfl)
          · rw [ix30_cl (K := 30) (by omega) (by omega) (by omega), hd c j (by omega) (by omega), bI_0, Bool.not_eq_false] at h3
            refine xWp.gb rfl trivial rfl (fun h4 => ?_) (fun h4 => ?_)
            · rw [bI_0] at h4
              exact no _ (by rw [hb]; unfold xBr; rw [h3, ← elk, h4]; rfl)
            · rw [bI_0, Bool.not_eq_false] at h4
              refine xWp.gc rfl trivial rfl (m_named n rd hk (c := j) (by omega)) (by decide) ?_
              refine xWp.gb rfl trivial rfl (fun h5 => ?_) (fun h5 => ?_)
              · rw [bI_0] at h5
                exact yes _ (by rw [hb]; unfold xBr; rw [h3, ← elk, h4, h5]; rfl)
              · rw [bI_0, Bool.not_eq_false] at h5
                exact no _ (by rw [hb]; unfold xBr; rw [h3, ← elk, h4, h5]; rfl)
        · rw [bI_0, Bool.not_eq_false] at hb
          exact yes _ (by rw [hb]; rfl)
      refine xWp.gb rfl ⟨in_nI (by omega) (by omega), trivial⟩ rfl (fun h0 => ?_) (fun h0 => ?_)
      · rw [cl_nI (by omega), hs] at h0
        refine xWp.go 54 rfl trivial ?_
        exact mid true _ (by simp only [show x.2 10 j = nI 0 from h0, decide_true, Bool.true_or])
      · rw [cl_nI (by omega), hs] at h0
        refine xWp.gb rfl ⟨in_nI (by omega) (by omega), trivial⟩ rfl (fun h1 => ?_) (fun h1 => ?_)
        · rw [cl_nI (by omega), hs] at h1
          refine xWp.go 54 rfl trivial ?_
          exact mid true _ (by simp only [show x.2 10 j = nI 3 from h1, decide_true, Bool.or_true])
        · rw [cl_nI (by omega), hs] at h1
          refine xWp.go 54 rfl trivial ?_
          exact mid false _ (by simp only [show ¬ x.2 10 j = nI 0 from h0, show ¬ x.2 10 j = nI 3 from h1]; rfl)
    · refine xWp.gb rfl trivial rfl (fun _ => ?_) (fun h => ?_)
      · exact xWp.gf rfl trivial rfl (Or.inr bI_z) ⟨rfl, rfl⟩
      · have h' : ¬ y.1 2 ≤ nI C := h
        rw [hn, le_nI (by omega) (by omega)] at h'; omega
  refine xWp.gb rfl ⟨in_nI (by omega) (by omega), trivial⟩ rfl (fun h0 => ?_) (fun h0 => ?_)
  · rw [cl_nI (by omega), hs] at h0
    refine xWp.go 19 rfl trivial ?_
    have h9 := loop none
    have e : bI (xBars x k c 0) = nI 1 := bI_t (by unfold xBars; simp only [show x.2 10 c = nI 3 from h0, decide_true, Bool.true_or])
    rw [e] at h9
    exact h9
  · rw [cl_nI (by omega), hs] at h0
    refine xWp.go 19 rfl trivial ?_
    have h9 := loop none
    have e : bI (xBars x k c 0) = nI 0 := bI_f (by unfold xBars; simp only [show ¬ x.2 10 c = nI 3 from h0]; rfl)
    rw [e] at h9
    exact h9
theorem anyB_eq {p : Nat → Bool} {n : Nat} : anyB p n = false ↔ ∀ k, k < n → p k = false := by
  constructor
  · intro h k hk
    cases e : p k
    · rfl
    · have := anyB_iff.mpr ⟨k, hk, e⟩
      rw [h] at this; cases this
  · exact anyB_no
/-- readiness, told in two ways -/
theorem rdy_eq (h : cInv N C q t x) (k : Nat) : cRdy x C (x.2 3 k) = !(anyB (fun c => bt (x.2 3 k) c && xBars x k c C) C) := by
  have hC := h.c
  have hnm := h.2.2.1.2.2.1
  rw [Bool.eq_iff_iff]
  unfold cRdy
  rw [Bool.and_eq_true, Bool.not_eq_true', Bool.not_eq_true', decide_eq_true_eq, anyB_eq, anyB_eq, and_zero]
  have mis : ∀ i, i < 32 → (bt (cMis x C (x.2 3 k)) i = true ↔ (i < C ∧ (x.2 10 i = nI 0 ∨ x.2 10 i = nI 3)) ∧ bt (x.2 3 k) i = false) := fun i hi => by
    unfold cMis
    rw [b_and, b_or, b_xor, b_m1 i hi, Bool.and_eq_true, Bool.or_eq_true, bt_all hC, bt_all hC, Bool.xor_true, Bool.not_eq_true']
    constructor
    · rintro ⟨h1 | h1, h2⟩
      · exact ⟨⟨h1.1, Or.inl h1.2⟩, h2⟩
      · exact ⟨⟨h1.1, Or.inr h1.2⟩, h2⟩
    · rintro ⟨⟨h0, h1 | h1⟩, h2⟩
      · exact ⟨Or.inl ⟨h0, h1⟩, h2⟩
      · exact ⟨Or.inr ⟨h0, h1⟩, h2⟩
  constructor
  · rintro ⟨h1, h2⟩ c hc
    cases hb : bt (x.2 3 k) c
    · rfl
    · have g1 : ¬ x.2 10 c = nI 3 := fun z => by
        have := h2 c (by omega) hb
        rw [(bt_all hC (nI 3) c).mpr ⟨hc, z⟩] at this
        cases this
      have g2 := h1 c hc
      unfold cBar at g2
      rw [hb, Bool.true_and, decide_eq_false_iff_not, Decidable.not_not, and_zero] at g2
      have g3 : anyB (xBr x k c) C = false := anyB_no (fun j hj => by
        unfold xBr
        cases hn : bt (x.2 8 c) j
        · rfl
        · have g4 := g2 j (by omega) hn
          cases hj3 : bt (x.2 3 k) j
          · have g5 : ¬ (x.2 10 j = nI 0 ∨ x.2 10 j = nI 3) := fun z => by
              rw [(mis j (by omega)).mpr ⟨⟨hj, z⟩, hj3⟩] at g4
              cases g4
            have g6 : ¬ x.2 10 j = nI 0 := fun z => g5 (Or.inl z)
            have g7 : ¬ x.2 10 j = nI 3 := fun z => g5 (Or.inr z)
            simp only [g6, g7]
            rfl
          · simp)
      show (true && xBars x k c C) = false
      unfold xBars
      rw [g3]
      simp only [g1]
      rfl
  · intro h1
    refine ⟨fun c hc => ?_, fun i hi hb => ?_⟩
    · unfold cBar
      cases hb : bt (x.2 3 k) c
      · rfl
      · rw [Bool.true_and, decide_eq_false_iff_not, Decidable.not_not, and_zero]
        intro j hj hn
        have g := h1 c hc
        rw [hb, Bool.true_and] at g
        unfold xBars at g
        rw [Bool.or_eq_false_iff, anyB_eq] at g
        cases hm : bt (cMis x C (x.2 3 k)) j
        · rfl
        · obtain ⟨⟨g1, g2⟩, g3⟩ := (mis j hj).mp hm
          have g4 := g.2 j g1
          unfold xBr at g4
          rw [hn, g3] at g4
          rcases g2 with g2 | g2
          · rw [g2] at g4; simp at g4
          · rw [g2] at g4; simp at g4
    · cases ha : bt (cAll x C (nI 3)) i
      · rfl
      · obtain ⟨g1, g2⟩ := (bt_all hC (nI 3) i).mp ha
        have g := h1 i g1
        rw [hb, Bool.true_and] at g
        unfold xBars at g
        rw [g2] at g
        simp at g
def xMvL (x : xX) (C k : Nat) (can : Bool) (nx : Int32) (j : Nat) : Bool := can && !(decide (nx = nI 3) && anyB (fun c => bt (x.2 3 k) c && xBars x k c C) j)
theorem xMvL_s {k j : Nat} {can : Bool} {nx : Int32} {b : Bool} (h : b = (xMvL x C k can nx j && !(decide (nx = nI 3) && (bt (x.2 3 k) j && xBars x k j C)))) : bI b = bI (xMvL x C k can nx (j + 1)) := by
  rw [h]
  unfold xMvL
  rw [anyB]
  cases can <;> cases decide (nx = nI 3) <;> simp
set_option maxHeartbeats 4000000 in
theorem m_mvLoop (n : Nat) (h : Rel N C q t x y) {k : Nat} (hk : k < 20) (can : Bool) (nx : Int32) {R : xR → xW → Prop} (hR : R (.inl (some (.int (bI (xMvL x C k can nx C))))) (wW x0 y o)) : xAt k_X3_isMovable (n + 2) R (60, [some (.ref 15), some (.int (nI k)), some (.int nx), some (.int (bI (xMvL x C k can nx 0))), some (.int (nI 0))], [], wW x0 y o, 0) := by
  have rd := h.rd
  obtain ⟨-, -, hn, hN, -, -⟩ := h.rd
  refine xWp.loop C (fun j => (60, [some (.ref 15), some (.int (nI k)), some (.int nx), some (.int (bI (xMvL x C k can nx j))), some (.int (nI j))], [], wW x0 y o, 0)) (fun j hj ih => ?_) ?_
  · refine xWp.gb rfl trivial rfl (fun h => ?_) (fun _ => ?_)
    · have h' : y.1 2 ≤ nI j := h
      rw [hn, le_nI (by omega) (by omega)] at h'; omega
    rw [nI_s j] at ih
    have yes : (xMvL x C k can nx j && !(decide (nx = nI 3) && (bt (x.2 3 k) j && xBars x k j C))) = true → xAt k_X3_isMovable (n + 2) R (98, [some (.ref 15), some (.int (nI k)), some (.int nx), some (.int (bI (xMvL x C k can nx j))), some (.int (nI j))], [], wW x0 y o, 0) := fun e => by
      refine xWp.go 60 rfl trivial ?_
      rw [← xMvL_s e.symm] at ih
      exact ih
    have no : (xMvL x C k can nx j && !(decide (nx = nI 3) && (bt (x.2 3 k) j && xBars x k j C))) = false → xAt k_X3_isMovable (n + 2) R (102, [some (.ref 15), some (.int (nI k)), some (.int nx), some (.int (bI (xMvL x C k can nx j))), some (.int (nI j))], [], wW x0 y o, 0) := fun e => by
      refine xWp.go 60 rfl trivial ?_
      rw [← xMvL_s e.symm] at ih
      exact ih
    refine xWp.gb rfl trivial rfl (fun hb => ?_) (fun hb => ?_)
    · rw [bI_0] at hb
      exact no (by rw [hb]; rfl)
    rw [bI_0, Bool.not_eq_false] at hb
    refine xWp.gb rfl trivial rfl (fun h3 => ?_) (fun h3 => ?_)
    · have h3' : nx = nI 3 := h3
      refine xWp.gc rfl trivial rfl (m_named (n + 1) rd hk (c := j) (by omega)) (by decide) ?_
      refine xWp.gb rfl trivial rfl (fun h5 => ?_) (fun h5 => ?_)
      · rw [bI_0] at h5
        exact yes (by rw [hb, h5]; simp)
      · rw [bI_0, Bool.not_eq_false] at h5
        refine xWp.gc rfl trivial rfl (m_bars n h hk hj) (by decide) ?_
        refine xWp.gb rfl trivial rfl (fun h6 => ?_) (fun h6 => ?_)
        · rw [bI_0] at h6
          exact yes (by rw [hb, h5, h6]; simp)
        · rw [bI_0, Bool.not_eq_false] at h6
          exact no (by rw [hb, h5, h6, h3']; simp)
    · have h3' : ¬ nx = nI 3 := h3
      exact yes (by rw [hb]; simp [h3'])
  · refine xWp.gb rfl trivial rfl (fun _ => ?_) (fun h => ?_)
    · exact xWp.gf rfl trivial rfl (Or.inr bI_z) hR
    · have h' : ¬ y.1 2 ≤ nI C := h
      rw [hn, le_nI (by omega) (by omega)] at h'; omega
theorem cAt_eq {a : Nat} (h1 : 1 ≤ a) (h3 : a ≤ 3) : cAt x N (nI a) = decide (x.2 6 a ≤ nI (cSz x N (nI a))) := by
  unfold cAt
  rw [cHL_nI (by omega), cl_nI (by omega)]
  have e : ¬ nI (cSz x N (nI a)) < x.2 6 a ↔ x.2 6 a ≤ nI (cSz x N (nI a)) := ⟨fa_of_nlt, fun z w => (fa_of_lt w).2.1 z⟩
  simp only [e, h1, h3, decide_true, Bool.true_and]
set_option maxHeartbeats 4000000 in
theorem m_isMovable (n : Nat) (h : Rel N C q t x y) {k : Nat} (hk : k < N) : xCW (n + 3) k_X3_isMovable [.ref 15, .int (nI k)] (wW x0 y o) (xIs (.inl (some (.int (bI (cMov x N C k))))) (wW x0 y o)) := by
  have hN := h.1.n
  have hC := h.1.c
  have rd := h.rd
  have hcol := h.2.2.1.2.1
  have hlim := h.2.2.1.2.2.2.2.1
  obtain ⟨j, hj, hc⟩ := h.1.col k
  have e0 : cMov x N C k = cMovJ x N C k j := by unfold cMov; rw [cCol_of hc hj]
  rw [e0]
  refine xWp.go 8 rfl ⟨in_nI (by omega) (by omega), trivial⟩ ?_
  show xAt k_X3_isMovable (n + 2) (xIs (.inl (some (.int (bI (cMovJ x N C k j))))) (wW x0 y o)) (8, [some (.ref 15), some (.int (nI k)), none, none, none], [.int (y.2 1 (nI k).toNatClampNeg + xk 1 0)], wW x0 y o, 0)
  rw [cl_nI (by omega), hcol, hc, ← nI_s]
  have fin : ∀ (can : Bool) z4, cMovJ x N C k j = xMvL x C k can (nI (j + 1)) C → xAt k_X3_isMovable (n + 2) (xIs (.inl (some (.int (bI (cMovJ x N C k j))))) (wW x0 y o)) (56, [some (.ref 15), some (.int (nI k)), some (.int (nI (j + 1))), some (.int z4), none], [.int (bI can)], wW x0 y o, 0) := fun can z4 e => by
    refine xWp.go 60 rfl trivial ?_
    have h9 := m_mvLoop (x0 := x0) (o := o) n h (k := k) (by omega) can (nI (j + 1)) (R := xIs (.inl (some (.int (bI (cMovJ x N C k j))))) (wW x0 y o)) ⟨by rw [e], rfl⟩
    have e2 : xMvL x C k can (nI (j + 1)) 0 = can := by unfold xMvL; rw [anyB]; simp
    rw [e2] at h9
    exact h9
  have bad : cMovJ x N C k j = false → xAt k_X3_isMovable (n + 2) (xIs (.inl (some (.int (bI (cMovJ x N C k j))))) (wW x0 y o)) (32, [some (.ref 15), some (.int (nI k)), some (.int (nI (j + 1))), none, none], [], wW x0 y o, 0) := fun e => by
    refine xWp.gb rfl trivial rfl (fun _ => ?_) (fun h => absurd (by decide) h)
    refine xWp.go 56 rfl trivial ?_
    exact fin false _ (by rw [e]; rfl)
  have sz : ∀ a, a = j + 1 → 1 ≤ a → a ≤ 3 → (cAt x N (nI a) = false → xAt k_X3_isMovable (n + 2) (xIs (.inl (some (.int (bI (cMovJ x N C k j))))) (wW x0 y o)) (28, [some (.ref 15), some (.int (nI k)), some (.int (nI (j + 1))), none, none], [], wW x0 y o, 0)) → (cAt x N (nI a) = true → cMovJ x N C k j = false) → xAt k_X3_isMovable (n + 2) (xIs (.inl (some (.int (bI (cMovJ x N C k j))))) (wW x0 y o)) (8, [some (.ref 15), some (.int (nI k)), none, none, none], [.int (nI (j + 1))], wW x0 y o, 0) := fun a ea a1 a3 g1 g2 => by
    subst ea
    refine xWp.gb rfl trivial rfl (fun h9 => ?_) (fun _ => ?_)
    · have h9' : nI 3 < nI (j + 1) := h9
      rw [lt_nI (by omega) (by omega)] at h9'
      omega
    refine xWp.gc rfl trivial rfl (m_count (n + 1) rd (nI (j + 1))) (by decide) ?_
    refine xWp.gb rfl ⟨in_nI (by omega) (by omega), trivial⟩ rfl (fun h9 => ?_) (fun h9 => ?_)
    · have h9' : y.2 6 (nI (j + 1)).toNatClampNeg ≤ nI (cSz x N (nI (j + 1))) := h9
      rw [cl_nI (by omega), hlim] at h9'
      exact bad (g2 (by rw [cAt_eq a1 a3]; simpa using h9'))
    · have h9' : ¬ y.2 6 (nI (j + 1)).toNatClampNeg ≤ nI (cSz x N (nI (j + 1))) := h9
      rw [cl_nI (by omega), hlim] at h9'
      exact g1 (by rw [cAt_eq a1 a3]; simpa using h9')
  match j, hj with
  | 0, _ =>
    refine sz 1 rfl (by omega) (by omega) (fun e => ?_) (fun e => by rw [cMovJ, e]; rfl)
    refine xWp.gb rfl trivial rfl (fun h => absurd h (by decide)) (fun _ => ?_)
    refine xWp.gb rfl trivial rfl (fun h => absurd h (by decide)) (fun _ => ?_)
    refine xWp.go 56 rfl trivial ?_
    exact fin true _ (by rw [cMovJ, e]; rfl)
  | 1, _ =>
    refine sz 2 rfl (by omega) (by omega) (fun e => ?_) (fun e => by rw [cMovJ, e]; rfl)
    refine xWp.gb rfl trivial rfl (fun h => absurd h (by decide)) (fun _ => ?_)
    refine xWp.gb rfl trivial rfl (fun _ => ?_) (fun h => absurd rfl h)
    have hnm := h.1.2.2.1.2.2.1
    have hle := fb_ct_le (bt (x.2 3 k)) C
    have hz : fb_ct (bt (x.2 3 k)) C = 0 ↔ x.2 3 k = 0 := by
      rw [fb_ct_zero]
      constructor
      · intro h9
        refine b_ext (fun i _ => ?_)
        rw [b_0]
        cases e : bt (x.2 3 k) i
        · rfl
        · rw [h9 i (hnm k i e).2] at e; cases e
      · intro h9 i _
        rw [h9, b_0]
    refine xWp.gc rfl trivial rfl (m_namesOf n rd (k := k) (by omega)) (by decide) ?_
    refine xWp.gb rfl trivial rfl (fun h9 => ?_) (fun h9 => ?_)
    · have h9' : nI (fb_ct (bt (x.2 3 k)) C) ≤ nI 0 := h9
      rw [le_nI (by omega) (by omega)] at h9'
      have e2 : x.2 3 k = 0 := hz.mp (by omega)
      refine xWp.go 56 rfl trivial ?_
      exact fin false _ (by rw [cMovJ, e]; simp only [e2]; rfl)
    · have h9' : ¬ nI (fb_ct (bt (x.2 3 k)) C) ≤ nI 0 := h9
      rw [le_nI (by omega) (by omega)] at h9'
      have e2 : ¬ x.2 3 k = 0 := fun z => h9' (by rw [hz.mpr z]; exact Nat.le_refl _)
      refine xWp.go 56 rfl trivial ?_
      exact fin true _ (by rw [cMovJ, e]; simp only [e2]; rfl)
  | 2, _ =>
    refine sz 3 rfl (by omega) (by omega) (fun e => ?_) (fun e => by rw [cMovJ, e]; rfl)
    refine xWp.gb rfl trivial rfl (fun h => absurd h (by decide)) (fun _ => ?_)
    refine xWp.gb rfl trivial rfl (fun h => absurd h (by decide)) (fun _ => ?_)
    refine xWp.go 56 rfl trivial ?_
    exact fin true _ (by rw [cMovJ, e, rdy_eq h.1 k]; rfl)
  | j + 3, hj =>
    refine xWp.gb rfl trivial rfl (fun _ => bad rfl) (fun h9 => ?_)
    exact absurd ((lt_nI (a := 3) (b := j + 3 + 1) (by omega) (by omega)).mpr (by omega)) h9
end MV
