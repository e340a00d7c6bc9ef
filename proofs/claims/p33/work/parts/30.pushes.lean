/-! pushing back, falling -/
section PU
variable {sc : Option (Nat × (Nat → Int32))} {x : xX} {y : xW} {N C : Nat} {q : List Nat} {t : Nat}
abbrev xAt (sc : Option (Nat × (Nat → Int32))) (k n : Nat) (Q : xR → xW → Prop) (s : xS) : Prop := xWp (m_i k) (m_b k) (sc, m_t k) (m_hd k) (xCW sc n) Q s
def cPsh1 (N a : Nat) (x : xX) : xX := cShift (sA x 5 (cLow x N (nI (a + 1))) (x.2 5 (cLow x N (nI (a + 1))) + nI 1)) N (cLow x N (nI (a + 1))) (nI a)
def cPush (N : Nat) : Nat → xX → xX
  | 0, x => x
  | a + 1, x => match cAb x N (nI (a + 1)) with
    | true => cPush N a (cPsh1 N a x)
    | false => x
theorem cSz_le (col : Int32) : cSz x N col ≤ N := fb_ct_le _ _
theorem cAb_sz (h : cInv N C q t x) {a : Nat} (ha : a ≤ 4) (hb : cAb x N (nI (a + 1)) = true) : a + 1 ≤ 3 ∧ ∃ l, 1 ≤ l ∧ l ≤ 9 ∧ x.2 6 (a + 1) = nI l ∧ l < cSz x N (nI (a + 1)) := by
  unfold cAb at hb
  rw [Bool.and_eq_true, cHL_nI (by omega), cl_nI (by omega)] at hb
  simp only [Bool.and_eq_true, decide_eq_true_eq] at hb
  obtain ⟨⟨h1, h2⟩, h3⟩ := hb
  obtain ⟨l, l1, l9, hl⟩ := h.lim h1 h2
  refine ⟨h2, l, l1, l9, hl, ?_⟩
  have := h.n
  have hs := cSz_le (x := x) (N := N) (nI (a + 1))
  rw [hl, le_nI (by omega) (by omega)] at h3
  omega
theorem cAb_of (h : cInv N C q t x) {a l : Nat} (ha : a + 1 ≤ 3) (hl : x.2 6 (a + 1) = nI l) (hl9 : l ≤ 9) : cAb x N (nI (a + 1)) = decide (l < cSz x N (nI (a + 1))) := by
  unfold cAb
  rw [cHL_nI (by omega), cl_nI (by omega), hl]
  have := h.n
  have hs := cSz_le (x := x) (N := N) (nI (a + 1))
  have e := le_nI (a := cSz x N (nI (a + 1))) (b := l) (by omega) (by omega)
  simp only [e, show decide (1 ≤ a + 1) = true by simp, show decide (a + 1 ≤ 3) = true by simpa using ha, Bool.true_and, Nat.not_le]
theorem iPsh1 (h : cInv N C q t x) {a : Nat} (ha : a ≤ 4) (hs : 0 < cSz x N (nI (a + 1))) (ht : t < 1000000) : ∃ q', cInv N C q' (t + 1) (cPsh1 N a x) := by
  obtain ⟨h1, -⟩ := h.low hs
  have h' : cInv N C q t (sA x 5 (cLow x N (nI (a + 1))) (x.2 5 (cLow x N (nI (a + 1))) + nI 1)) := h
  exact iShift h' h1 ha ht
theorem iPush : ∀ (a : Nat) {x : xX} {q : List Nat} {t : Nat}, cInv N C q t x → a ≤ 4 → t + a ≤ 1000000 → ∃ q' t', t' ≤ t + a ∧ cInv N C q' t' (cPush N a x)
  | 0, x, q, t, h, _, _ => ⟨q, t, by omega, h⟩
  | a + 1, x, q, t, h, ha, ht => by
    rw [cPush]
    split
    · rename_i hb
      obtain ⟨h1, l, hl⟩ := cAb_sz h (by omega) hb
      obtain ⟨q', h2⟩ := iPsh1 (a := a) h (by omega) (by omega) (by omega)
      obtain ⟨q2, t2, h3, h4⟩ := iPush a h2 (by omega) (by omega)
      exact ⟨q2, t2, by omega, h4⟩
    · exact ⟨q, t, by omega, h⟩
theorem s_shiftJ (n : Nat) {Q : Nat} (hx : cWF x N C Q) (hq : cQF x C Q) {k : Nat} (hk : k < N) {c : Int32} {j : Nat} (e : c = nI j) : xCW sc (n + 4) k_X2_shift [.ref 0, .int (nI k), .int c] (wW x y) (xIs (.inl none) (wW (cShift x N k (nI j)) y)) := by
  rw [e]; exact s_shift n hx hq hk _
theorem nI_pre (a : Nat) : nI (a + 1) - xk 1 0 = nI a := pk_sub (a := a + 1) (b := 1) (by omega)
theorem nI_dec (a : Nat) : nI (a + 1) + xk 1 1 = nI a := by
  rw [nI_s]
  show nI a + nI 1 + -1 = nI a
  have : nI 1 + (-1 : Int32) = 0 := by decide
  rw [Int32.add_assoc, this, Int32.add_zero]
theorem s_cardInOrderJ (n : Nat) {Q : Nat} (hx : cWF x N C Q) {k : Nat} (hk : k < N) {col place : Int32} {p : Nat} (ep : place = nI p) (h1 : x.2 1 k = col) (h2 : cAh x N k = p) (h3 : ∀ j, j < k → ¬ (x.2 1 j = col ∧ cAh x N j = p)) : xCW sc (n + 3) k_X0_cardInOrder [.ref 1, .int col, .int place] (wW x y) (xIs (.inl (some (.int (nI k)))) (wW x y)) := by
  have hN := hx.2.1
  have hb : ∀ j, cAh x N j ≤ N := fun j => fb_ct_le _ _
  refine s_cardInOrder n hx col place hk h1 (by rw [h2, ep]) (fun j hj z => h3 j hj ⟨z.1, ?_⟩)
  have z2 := z.2
  have b1 := hb j
  have b2 := hb k
  rw [ep, nI_eq (by omega) (by omega)] at z2
  exact z2
set_option maxHeartbeats 8000000 in
theorem s_pushLoop (n : Nat) (a0 : Int32) : ∀ (a : Nat) {x : xX} {q : List Nat} {t : Nat} (z : Option Value) {R : xR → xW → Prop}, cInv N C q t x → a ≤ 4 → t + a ≤ 1000000 → R (.inl none) (wW (cPush N a x) y) → xAt sc k_X2_pushBackFrom (n + 5) R (2, [some (.ref 0), some (.int a0), some (.int (nI a)), z], [], wW x y, 0)
  | 0, x, q, t, z, R, h, _, _, hR => by
    refine xWp.gb rfl trivial rfl (fun _ => ?_) (fun h => absurd (by decide) h)
    exact xWp.gf rfl trivial rfl trivial hR
  | a + 1, x, q, t, z, R, h, ha, ht, hR => by
    have hx := h.wf
    refine xWp.gb rfl trivial rfl (fun h9 => ?_) (fun _ => ?_)
    · have h9' : nI (a + 1) ≤ nI 0 := h9
      rw [le_nI (by omega) (by omega)] at h9'
      omega
    refine xWp.gc rfl trivial rfl (s_isAboveLimit (n + 3) hx (nI (a + 1))) (by decide) ?_
    rw [cPush] at hR
    cases hb : cAb x N (nI (a + 1))
    · rw [hb] at hR
      refine xWp.gb rfl trivial rfl (fun _ => ?_) (fun h => absurd (by decide) h)
      exact xWp.gf rfl trivial rfl trivial hR
    · rw [hb] at hR
      refine xWp.gb rfl trivial rfl (fun h => absurd h (by decide)) (fun _ => ?_)
      obtain ⟨h1, l, hl⟩ := cAb_sz h (by omega) hb
      obtain ⟨k1, k2, k3, k4⟩ := h.low (col := nI (a + 1)) (by omega)
      obtain ⟨q', h2⟩ := iPsh1 (a := a) h (by omega) (by omega) (by omega)
      have hs0 : cSz x N (nI (a + 1)) = (cSz x N (nI (a + 1)) - 1) + 1 := by omega
      refine xWp.gc rfl trivial rfl (s_sizeOf (n + 4) hx _) (by decide) ?_
      refine xWp.gc rfl trivial rfl (s_cardInOrderJ (n + 2) hx k1 (p := cSz x N (nI (a + 1)) - 1) (by rw [hs0]; exact nI_pre _) k2 (by omega) (fun j hj z => k4 j hj ⟨z.1, by omega⟩)) (by decide) ?_
      refine xWp.gc rfl trivial rfl (s_countPush (n + 3) hx k1) (by decide) ?_
      have h' : cInv N C q t (sA x 5 (cLow x N (nI (a + 1))) (x.2 5 (cLow x N (nI (a + 1))) + nI 1)) := h
      refine xWp.gc rfl trivial rfl (s_shiftJ (n + 1) h'.wf h'.qf k1 (nI_pre a)) (by decide) ?_
      refine xWp.go 2 rfl trivial ?_
      rw [nI_dec]
      exact s_pushLoop n a0 a _ h2 (by omega) (by omega) hR
set_option maxHeartbeats 8000000 in
theorem s_pushBack (n : Nat) {a : Nat} (h : cInv N C q t x) (ha : a ≤ 4) (ht : t + a ≤ 1000000) : xCW sc (n + 6) k_X2_pushBackFrom [.ref 0, .int (nI a)] (wW x y) (xIs (.inl none) (wW (cPush N a x) y)) := by
  refine xWp.go 2 rfl trivial ?_
  exact s_pushLoop n _ a _ h ha ht ⟨rfl, rfl⟩
def cFall (N k : Nat) (x : xX) : xX := cPush N 1 (cShift (sA x 4 k (x.2 4 k + nI 1)) N k (nI 1))
theorem iFall (h : cInv N C q t x) {k : Nat} (hk : k < N) (ht : t + 2 ≤ 1000000) : ∃ q' t', t' ≤ t + 2 ∧ cInv N C q' t' (cFall N k x) := by
  have h' : cInv N C q t (sA x 4 k (x.2 4 k + nI 1)) := h
  obtain ⟨q1, h1⟩ := iShift h' hk (j := 1) (by omega) (by omega)
  obtain ⟨q2, t2, h2, h3⟩ := iPush 1 h1 (by omega) (by omega)
  exact ⟨q2, t2, by omega, h3⟩
def cFl (x : xX) (m : Int32) (ad : Bool) (k : Nat) : Bool := (decide (x.2 1 k = nI 3) || (ad && decide (x.2 1 k = nI 4))) && decide (¬ x.2 3 k &&& m = 0)
def cDr1 (N : Nat) (m : Int32) (ad : Bool) (s : xX × Nat) (k : Nat) : xX × Nat := match cFl s.1 m ad k with
  | true => (cFall N k s.1, s.2 + 1)
  | false => s
def cDrop (N : Nat) (m : Int32) (ad : Bool) (x : xX) : Nat → xX × Nat
  | 0 => (x, 0)
  | k + 1 => cDr1 N m ad (cDrop N m ad x k) k
theorem iDrop (h : cInv N C q t x) (m : Int32) (ad : Bool) (ht : t + 2 * N ≤ 1000000) : ∀ k, k ≤ N → ∃ q' t', t' ≤ t + 2 * k ∧ cInv N C q' t' (cDrop N m ad x k).1 ∧ (cDrop N m ad x k).2 ≤ k
  | 0, _ => ⟨q, t, by omega, h, Nat.le_refl _⟩
  | k + 1, hk => by
    obtain ⟨q', t', h1, h2, h3⟩ := iDrop h m ad ht k (by omega)
    rw [cDrop, cDr1]
    split
    · obtain ⟨q2, t2, h4, h5⟩ := iFall h2 (k := k) (by omega) (by omega)
      exact ⟨q2, t2, by omega, h5, by show _ + 1 ≤ _; omega⟩
    · exact ⟨q', t', by omega, h2, by omega⟩
set_option maxHeartbeats 8000000 in
theorem s_dropCards (n : Nat) (h : cInv N C q t x) (m : Int32) (ad : Bool) (ht : t + 2 * N ≤ 1000000) : xCW sc (n + 7) k_X2_dropCards [.ref 0, .int m, .int (bI ad)] (wW x y) (xIs (.inl (some (.int (nI (cDrop N m ad x N).2)))) (wW (cDrop N m ad x N).1 y)) := by
  have hN20 := h.n
  refine xWp.go 5 rfl trivial ?_
  refine xWp.loopZ N (fun j (z : Option Value × Option Value) => (5, [some (.ref 0), some (.int m), some (.int (bI ad)), some (.int (nI (cDrop N m ad x j).2)), some (.int (nI j)), z.1, z.2], [], wW (cDrop N m ad x j).1 y, 0)) (fun j z hj ih => ?_) (fun z => ?_) (none, none)
  · obtain ⟨q', t', ht', hi, hf⟩ := iDrop h m ad ht j (by omega)
    simp only [cDrop] at ih
    generalize cDrop N m ad x j = s at ih hi hf ⊢
    obtain ⟨xj, f⟩ := s
    dsimp only at ih hi hf ⊢
    have hx := hi.wf
    refine xWp.gb rfl trivial rfl (fun h9 => ?_) (fun _ => ?_)
    · have h9' : xj.1 1 ≤ nI j := h9
      rw [hx.1, le_nI (by omega) (by omega)] at h9'
      omega
    refine xWp.gc rfl trivial rfl (s_whereIs (n + 4) hx hj) (by decide) ?_
    have no : ∀ z5 z6, cFl xj m ad j = false → xAt sc k_X2_dropCards (n + 6) (xIs (.inl (some (.int (nI (cDrop N m ad x N).2)))) (wW (cDrop N m ad x N).1 y)) (94, [some (.ref 0), some (.int m), some (.int (bI ad)), some (.int (nI f)), some (.int (nI j)), z5, z6], [], wW xj y, 0) := fun z5 z6 e => by
      refine xWp.go 5 rfl trivial ?_
      have := ih (z5, z6)
      rw [cDr1, e] at this
      dsimp only at this
      rw [nI_s j] at this
      exact this
    have yes : ∀ z5 z6, (decide (xj.2 1 j = nI 3) || (ad && decide (xj.2 1 j = nI 4))) = true → xAt sc k_X2_dropCards (n + 6) (xIs (.inl (some (.int (nI (cDrop N m ad x N).2)))) (wW (cDrop N m ad x N).1 y)) (44, [some (.ref 0), some (.int m), some (.int (bI ad)), some (.int (nI f)), some (.int (nI j)), z5, z6], [], wW xj y, 0) := fun z5 z6 e => by
      refine xWp.gb rfl trivial rfl (fun h => absurd h (by decide)) (fun _ => ?_)
      refine xWp.gc rfl trivial rfl (s_namesOf (n + 4) hx hj) (by decide) ?_
      refine xWp.gb rfl trivial rfl (fun h9 => ?_) (fun h9 => ?_)
      · exact no _ _ (by unfold cFl; rw [e]; simp only [show xj.2 3 j &&& m = 0 from h9]; rfl)
      · have e2 : cFl xj m ad j = true := by unfold cFl; rw [e]; simp only [show ¬ xj.2 3 j &&& m = 0 from h9]; rfl
        have h' : cInv N C q' t' (sA xj 4 j (xj.2 4 j + nI 1)) := hi
        obtain ⟨q1, h1⟩ := iShift h' hj (j := 1) (by omega) (by omega)
        refine xWp.gc rfl trivial rfl (s_countFall (n + 4) hx hj) (by decide) ?_
        refine xWp.gc rfl trivial rfl (s_shift (n + 2) h'.wf h'.qf hj (nI 1)) (by decide) ?_
        refine xWp.gc rfl trivial rfl (s_pushBack n (a := 1) h1 (by omega) (by omega)) (by decide) ?_
        refine xWp.go 5 rfl trivial ?_
        have := ih (z5, some (.int (nI 1)))
        rw [cDr1, e2] at this
        dsimp only at this
        rw [nI_s j, nI_s f] at this
        exact this
    refine xWp.gb rfl trivial rfl (fun h3 => ?_) (fun h3 => ?_)
    · exact yes _ _ (by simp only [show xj.2 1 j = nI 3 from h3, decide_true, Bool.true_or])
    · have h3' : ¬ xj.2 1 j = nI 3 := h3
      refine xWp.gb rfl trivial rfl (fun hb => ?_) (fun hb => ?_)
      · rw [bI_0] at hb
        refine xWp.gb rfl trivial rfl (fun _ => ?_) (fun h => absurd (by decide) h)
        exact no _ _ (by unfold cFl; rw [hb]; simp [h3'])
      · rw [bI_0, Bool.not_eq_false] at hb
        refine xWp.gb rfl trivial rfl (fun h4 => ?_) (fun h4 => ?_)
        · exact yes _ _ (by rw [hb]; simp only [show xj.2 1 j = nI 4 from h4, decide_true, Bool.true_and, Bool.or_true])
        · refine xWp.gb rfl trivial rfl (fun _ => ?_) (fun h => absurd (by decide) h)
          exact no _ _ (by unfold cFl; rw [hb]; simp only [h3', show ¬ xj.2 1 j = nI 4 from h4]; rfl)
  · obtain ⟨q', t', ht', hi, hf⟩ := iDrop h m ad ht N (by omega)
    refine xWp.gb rfl trivial rfl (fun _ => ?_) (fun h9 => ?_)
    · exact xWp.gf rfl trivial rfl (Or.inl rfl) ⟨rfl, rfl⟩
    · rw [hi.wf.1, le_nI (by omega) (by omega)] at h9; omega
end PU
