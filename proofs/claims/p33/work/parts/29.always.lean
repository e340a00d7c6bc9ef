/-! what always holds of the class's state; the order of cards in a column; what moving a card does to it -/
section IV0
theorem nd_len {q : List Nat} {C : Nat} (hn : q.Nodup) (hc : ∀ c, c ∈ q → c < C) : q.length ≤ C := by
  refine fb_holes C q.length (fun i => q[i]?.getD 0) (fun i hi => ?_) (fun i j hij hj => ?_)
  · simp only [List.getElem?_eq_getElem hi, Option.getD_some]
    exact hc _ (List.getElem_mem hi)
  · simp only [List.getElem?_eq_getElem hj, List.getElem?_eq_getElem (show i < q.length by omega), Option.getD_some]
    intro e
    have := (List.getElem_inj hn).mp e
    omega
theorem ct_one {k N : Nat} (h : k < N) : fb_ct (fun j => decide (j = k)) N = 1 := by
  have h1 := fb_ct_upd (fun _ => false) true h
  have h2 : fb_ct (fun _ => false) N = 0 := fb_ct_zero.mpr (fun _ _ => rfl)
  rw [h2] at h1
  have e : (fun j => decide (j = k)) = (fun j => if j = k then true else false) := funext fun j => by by_cases e : j = k <;> simp [e]
  rw [e]
  simpa using h1
section AH
variable {N : Nat} {P : Nat → Bool} {L : Nat → Nat → Bool}
def ahd (P : Nat → Bool) (L : Nat → Nat → Bool) (N k : Nat) : Nat := fb_ct (fun j => P j && L j k) N
theorem ahd_add (irr : ∀ a, L a a = false) {a : Nat} (ha : a < N) : fb_ct (fun j => (P j && L j a) || decide (j = a)) N = ahd P L N a + 1 := by
  rw [fb_ct_or (fun k _ hz => by
    obtain ⟨h1, h2⟩ := hz
    rw [decide_eq_true_eq] at h2
    subst h2
    rw [irr, Bool.and_false] at h1
    cases h1), ct_one ha]
  rfl
theorem ahd_lt (irr : ∀ a, L a a = false) (tr : ∀ a b c, a < N → b < N → c < N → L a b = true → L b c = true → L a c = true) {a b : Nat} (ha : a < N) (hb : b < N) (hP : P a = true) (h : L a b = true) : ahd P L N a < ahd P L N b := by
  have h1 := ahd_add (P := P) irr ha
  have h2 : fb_ct (fun j => (P j && L j a) || decide (j = a)) N ≤ ahd P L N b := fb_ct_sub (fun k hk hz => by
    rw [Bool.or_eq_true, Bool.and_eq_true, decide_eq_true_eq] at hz
    rw [Bool.and_eq_true]
    rcases hz with hz | rfl
    · exact ⟨hz.1, tr _ _ _ hk ha hb hz.2 h⟩
    · exact ⟨hP, h⟩)
  omega
theorem ahd_bd (irr : ∀ a, L a a = false) {a : Nat} (ha : a < N) (hP : P a = true) : ahd P L N a < fb_ct P N := by
  have h1 := ahd_add (P := P) irr ha
  have h2 : fb_ct (fun j => (P j && L j a) || decide (j = a)) N ≤ fb_ct P N := fb_ct_sub (fun k hk hz => by
    rw [Bool.or_eq_true, Bool.and_eq_true, decide_eq_true_eq] at hz
    rcases hz with hz | rfl
    · exact hz.1
    · exact hP)
  omega
theorem ahd_inj (irr : ∀ a, L a a = false) (tr : ∀ a b c, a < N → b < N → c < N → L a b = true → L b c = true → L a c = true) (tot : ∀ a b, a < N → b < N → a ≠ b → L a b = true ∨ L b a = true) {a b : Nat} (ha : a < N) (hb : b < N) (hPa : P a = true) (hPb : P b = true) (e : ahd P L N a = ahd P L N b) : a = b := by
  by_cases h : a = b
  · exact h
  · rcases tot a b ha hb h with h | h
    · have := ahd_lt irr tr ha hb hPa h; omega
    · have := ahd_lt irr tr hb ha hPb h; omega
theorem ahd_onto (irr : ∀ a, L a a = false) (tr : ∀ a b c, a < N → b < N → c < N → L a b = true → L b c = true → L a c = true) (tot : ∀ a b, a < N → b < N → a ≠ b → L a b = true ∨ L b a = true) {p : Nat} (hp : p < fb_ct P N) : ∃ k, k < N ∧ P k = true ∧ ahd P L N k = p := by
  have K : ∀ i, ∃ k, i < fb_ct P N → (k < N ∧ P k = true ∧ fb_ct P k = i) := fun i => by
    by_cases h : i < fb_ct P N
    · obtain ⟨k, h1⟩ := fb_ct_kth h
      exact ⟨k, fun _ => h1⟩
    · exact ⟨0, fun z => absurd z h⟩
  obtain ⟨i, hi, hi2⟩ := fb_onto (n := fb_ct P N) (f := fun i => ahd P L N (Classical.choose (K i))) (fun i hi => by
    obtain ⟨h1, h2, -⟩ := Classical.choose_spec (K i) hi
    exact ahd_bd irr h1 h2) (fun i j hij hj e => by
    obtain ⟨h1, h2, h3⟩ := Classical.choose_spec (K i) (by omega)
    obtain ⟨h4, h5, h6⟩ := Classical.choose_spec (K j) hj
    have := ahd_inj irr tr tot h1 h4 h2 h5 e
    rw [this] at h3
    omega) hp
  obtain ⟨h1, h2, -⟩ := Classical.choose_spec (K i) hi
  exact ⟨_, h1, h2, hi2⟩
theorem ahd_max (irr : ∀ a, L a a = false) {k : Nat} (hk : k < N) (hP : P k = true) (h : ∀ j, j < N → P j = true → j ≠ k → L j k = true) : ahd P L N k + 1 = fb_ct P N := by
  rw [← ahd_add (P := P) irr hk]
  refine fb_ct_cong (fun j hj => ?_)
  by_cases e : j = k
  · subst e; simp [hP]
  · cases hp : P j
    · simp [e]
    · simp [h j hj hp e]
end AH
end IV0
section IV
variable {sc : Option (Nat × (Nat → Int32))} {x : xX} {y : xW} {N C : Nat} {q : List Nat} {t : Nat}
theorem cLs_iff {a b : Nat} : cLs x a b = true ↔ x.2 0 b < x.2 0 a ∨ (x.2 0 a = x.2 0 b ∧ x.2 2 a < x.2 2 b) := by unfold cLs; simp
theorem cLs_irr (a : Nat) : cLs x a a = false := by
  cases h : cLs x a a
  · rfl
  · rw [cLs_iff] at h
    rcases h with h | ⟨-, h⟩
    · exact absurd h (fa_of_lt h).2.2.1
    · exact absurd h (fa_of_lt h).2.2.1
theorem cLs_tr (a b c : Nat) (h1 : cLs x a b = true) (h2 : cLs x b c = true) : cLs x a c = true := by
  rw [cLs_iff] at h1 h2 ⊢
  simp only [fa_lt, fa_eq] at h1 h2 ⊢
  omega
theorem cLs_tot {a b : Nat} (h : x.2 2 a ≠ x.2 2 b) : cLs x a b = true ∨ cLs x b a = true := by
  rw [cLs_iff, cLs_iff]
  simp only [fa_lt, fa_eq, ne_eq] at h ⊢
  omega
/-- numbers of cards, changes, queued; the queue; the time of the last coming; what lies in the rows -/
def cInv (N C : Nat) (q : List Nat) (t : Nat) (x : xX) : Prop :=
  (cWF x N C q.length ∧ (∀ i v, q[i]? = some v → x.2 11 i = nI v) ∧ q.Nodup ∧ (∀ c, c ∈ q ↔ (c < C ∧ x.2 10 c = nI 1))) ∧
  (x.1 2 = nI t ∧ t ≤ 1000000 ∧ (∀ k, k < N → ∃ a, a < t ∧ x.2 2 k = nI a) ∧ (∀ j k, j < k → k < N → x.2 2 j ≠ x.2 2 k)) ∧
  ((∀ k, ∃ j, j ≤ 4 ∧ x.2 1 k = nI j) ∧ (∀ k, N ≤ k → x.2 1 k = nI 0) ∧ (∀ k c, bt (x.2 3 k) c = true → k < N ∧ c < C) ∧ (∀ j, 1 ≤ j → j ≤ 3 → ∃ l, 1 ≤ l ∧ l ≤ 9 ∧ x.2 6 j = nI l)) ∧
  ((∀ c d, bt (x.2 8 c) d = true → c < C ∧ d < c) ∧ (∀ c, ∃ s, s ≤ 3 ∧ x.2 10 c = nI s) ∧ (∀ c, C ≤ c → x.2 10 c = nI 0))
theorem cInv.wf (h : cInv N C q t x) : cWF x N C q.length := h.1.1
theorem cInv.n (h : cInv N C q t x) : N ≤ 20 := h.1.1.2.1
theorem cInv.c (h : cInv N C q t x) : C ≤ 30 := h.1.1.2.2.2.1
theorem cInv.q30 (h : cInv N C q t x) : q.length ≤ 30 := h.1.1.2.2.2.2.2
theorem cInv.lt (h : cInv N C q t x) {c : Nat} (hc : c ∈ q) : c < C := ((h.1.2.2.2 c).mp hc).1
theorem cInv.cqv (h : cInv N C q t x) : ∀ i v, q[i]? = some v → cq x i = v := fun i v hv => by
  have h1 := h.1.2.1 i v hv
  have h2 := h.lt (List.mem_of_getElem? hv)
  have h3 := h.c
  show (x.2 11 i).toNatClampNeg = v
  rw [h1]
  exact cl_nI (by omega)
theorem cInv.qf (h : cInv N C q t x) : cQF x C q.length := fun i hi => by
  have h1 := h.cqv i _ (List.getElem?_eq_getElem hi)
  rw [h1]
  exact ⟨h.1.2.1 i _ (List.getElem?_eq_getElem hi), h.lt (List.getElem_mem hi)⟩
theorem cInv.dist (h : cInv N C q t x) {j k : Nat} (hj : j < N) (hk : k < N) (e : j ≠ k) : x.2 2 j ≠ x.2 2 k := by
  rcases Nat.lt_or_ge j k with z | z
  · exact h.2.1.2.2.2 j k z hk
  · exact (h.2.1.2.2.2 k j (by omega) hj).symm
theorem cInv.tot (h : cInv N C q t x) : ∀ a b, a < N → b < N → a ≠ b → cLs x a b = true ∨ cLs x b a = true := fun _ _ ha hb e => cLs_tot (h.dist ha hb e)
theorem cInv.col (h : cInv N C q t x) (k : Nat) : ∃ j, j ≤ 4 ∧ x.2 1 k = nI j := h.2.2.1.1 k
theorem cInv.lim (h : cInv N C q t x) {j : Nat} (h1 : 1 ≤ j) (h2 : j ≤ 3) : ∃ l, 1 ≤ l ∧ l ≤ 9 ∧ x.2 6 j = nI l := h.2.2.1.2.2.2 j h1 h2
theorem cAh_eq {k : Nat} {col : Int32} (h : x.2 1 k = col) : cAh x N k = ahd (fun j => decide (x.2 1 j = col)) (cLs x) N k := by subst h; rfl
/-- the latest of the lowest rank in a column -/
def cLow (x : xX) (N : Nat) (col : Int32) : Nat := fa_first (fun k => decide (x.2 1 k = col) && decide (cAh x N k + 1 = cSz x N col)) N
theorem cInv.one (h : cInv N C q t x) {a b : Nat} {col : Int32} (ha : a < N) (hb : b < N) (hca : x.2 1 a = col) (hcb : x.2 1 b = col) (e : cAh x N a = cAh x N b) : a = b := by
  rw [cAh_eq hca, cAh_eq hcb] at e
  exact ahd_inj cLs_irr (fun a b c _ _ _ => cLs_tr a b c) h.tot ha hb (by simpa using hca) (by simpa using hcb) e
theorem cInv.at (h : cInv N C q t x) {p : Nat} {col : Int32} (hp : p < cSz x N col) : ∃ k, k < N ∧ x.2 1 k = col ∧ cAh x N k = p := by
  obtain ⟨k, h1, h2, h3⟩ := ahd_onto (L := cLs x) (P := fun k => decide (x.2 1 k = col)) cLs_irr (fun a b c _ _ _ => cLs_tr a b c) h.tot hp
  have h2' : x.2 1 k = col := by simpa using h2
  exact ⟨k, h1, h2', by rw [cAh_eq h2']; exact h3⟩
theorem cInv.low (h : cInv N C q t x) {col : Int32} (hp : 0 < cSz x N col) : cLow x N col < N ∧ x.2 1 (cLow x N col) = col ∧ cAh x N (cLow x N col) + 1 = cSz x N col ∧ ∀ j, j < cLow x N col → ¬ (x.2 1 j = col ∧ cAh x N j + 1 = cSz x N col) := by
  obtain ⟨k, h1, h2, h3⟩ := h.at (p := cSz x N col - 1) (col := col) (by omega)
  have hno := fa_first_no (fun k => decide (x.2 1 k = col) && decide (cAh x N k + 1 = cSz x N col)) N
  have hlt : cLow x N col < N := by
    rcases Nat.lt_or_ge (cLow x N col) N with z | z
    · exact z
    · have := hno k (Nat.lt_of_lt_of_le h1 z)
      simp only [Bool.and_eq_false_iff, decide_eq_false_iff_not] at this
      rcases this with z | z
      · exact absurd h2 z
      · exact absurd (by omega) z
  have hy := fa_first_yes (fun k => decide (x.2 1 k = col) && decide (cAh x N k + 1 = cSz x N col)) N hlt
  simp only [Bool.and_eq_true, decide_eq_true_eq] at hy
  refine ⟨hlt, hy.1, hy.2, fun j hj hz => ?_⟩
  have := hno j hj
  simp only [Bool.and_eq_false_iff, decide_eq_false_iff_not] at this
  exact this.elim (fun z => z hz.1) (fun z => z hz.2)
theorem iPut (h : cInv N C q t x) {k j : Nat} (hk : k < N) (hj : j ≤ 4) (ht : t < 1000000) : cInv N C q (t + 1) (cPut x k (nI j)) := by
  obtain ⟨g1, ⟨a1, a2, a3, a4⟩, ⟨b1, b2, b3⟩, g4⟩ := h
  refine ⟨g1, ⟨?_, by omega, fun k' hk' => ?_, fun i k' hik hk' => ?_⟩, ⟨fun k' => ?_, fun k' hk' => ?_, b3⟩, g4⟩
  · show x.1 2 + nI 1 = nI (t + 1)
    rw [a1, nI_add]
  · show ∃ a, a < t + 1 ∧ upd (x.2 2) k (x.1 2) k' = nI a
    by_cases e : k' = k
    · subst e; exact ⟨t, by omega, by rw [pk_us, a1]⟩
    · obtain ⟨a, h1, h2⟩ := a3 k' hk'
      exact ⟨a, by omega, by rw [pk_un e, h2]⟩
  · show upd (x.2 2) k (x.1 2) i ≠ upd (x.2 2) k (x.1 2) k'
    by_cases e : k' = k
    · subst e
      rw [pk_us, pk_un (by omega), a1]
      obtain ⟨a, h1, h2⟩ := a3 i (by omega)
      rw [h2]
      intro z
      rw [nI_eq (by omega) (by omega)] at z
      omega
    · by_cases e2 : i = k
      · subst e2
        rw [pk_us, pk_un e, a1]
        obtain ⟨a, h1, h2⟩ := a3 k' hk'
        rw [h2]
        intro z
        rw [nI_eq (by omega) (by omega)] at z
        omega
      · rw [pk_un e, pk_un e2]
        exact a4 i k' hik hk'
  · show ∃ j', j' ≤ 4 ∧ upd (x.2 1) k (nI j) k' = nI j'
    by_cases e : k' = k
    · subst e; exact ⟨j, hj, pk_us⟩
    · rw [pk_un e]; exact b1 k'
  · show upd (x.2 1) k (nI j) k' = nI 0
    rw [pk_un (by omega)]
    exact b2 k' hk'
theorem cGo_fl (hq : ∀ i v, q[i]? = some v → cq x i = v) (pr : Nat → Bool) (v : Nat → Int32) {d : Nat → Option Int32} (hd : ∀ i, i < q.length → d i = if pr (cq x i) = true then some (v (cq x i)) else none) : ∀ p, p ≤ q.length →
    (cGo x d p).1 = ((q.take p).filter (fun c => !pr c)).length ∧ (∀ i u, ((q.take p).filter (fun c => !pr c))[i]? = some u → (cGo x d p).2.2 11 i = nI u) ∧ (∀ c, (cGo x d p).2.2 10 c = if c ∈ q.take p ∧ pr c = true then v c else x.2 10 c) ∧ (∀ r, r ≠ 10 → r ≠ 11 → (cGo x d p).2.2 r = x.2 r) ∧ (cGo x d p).2.1 = x.1
  | 0, _ => ⟨by simp [cGo], fun i u h => by simp at h, fun c => by simp [cGo], fun r _ _ => rfl, rfl⟩
  | p + 1, hp => by
    obtain ⟨h1, h2, h3, h4, h5⟩ := cGo_fl hq pr v hd p (by omega)
    have hp' : p < q.length := by omega
    have ec : cq x p = q[p] := hq p _ (List.getElem?_eq_getElem hp')
    have e := List.take_succ_eq_append_getElem hp'
    have hdp := hd p hp'
    rw [ec] at hdp
    generalize q[p] = c0 at ec e hdp
    rw [e, cGo]
    cases hpr : pr c0
    · rw [hpr, if_neg (by decide)] at hdp
      rw [hdp]
      dsimp only
      have ef : (List.take p q ++ [c0]).filter (fun c => !pr c) = (List.take p q).filter (fun c => !pr c) ++ [c0] := by simp [hpr]
      rw [ef]
      refine ⟨by rw [h1]; simp, fun i u hu => ?_, fun c => ?_, fun r h8 h9 => ?_, h5⟩
      · show upd ((cGo x d p).2.2 11) (cGo x d p).1 (nI (cq x p)) i = nI u
        by_cases e1 : i = (cGo x d p).1
        · rw [e1, pk_us, ec]
          rw [e1, h1, List.getElem?_append_right (Nat.le_refl _)] at hu
          simp at hu
          rw [hu]
        · rw [pk_un e1]
          apply h2
          rw [h1] at e1
          rcases Nat.lt_or_ge i ((List.take p q).filter (fun c => !pr c)).length with z | z
          · rwa [List.getElem?_append_left z] at hu
          · rw [List.getElem?_append_right z] at hu
            have : i - ((List.take p q).filter (fun c => !pr c)).length ≠ 0 := by omega
            rw [List.getElem?_eq_none (by simp; omega)] at hu
            cases hu
      · show (cGo x d p).2.2 10 c = _
        rw [h3]
        by_cases e1 : c = c0
        · subst e1; simp [hpr]
        · simp [e1]
      · show va_up (cGo x d p).2.2 11 _ r = x.2 r
        unfold va_up
        rw [if_neg h9]
        exact h4 r h8 h9
    · rw [hpr, if_pos rfl] at hdp
      rw [hdp]
      dsimp only
      have ef : (List.take p q ++ [c0]).filter (fun c => !pr c) = (List.take p q).filter (fun c => !pr c) := by simp [hpr]
      rw [ef]
      refine ⟨h1, fun i u hu => h2 i u hu, fun c => ?_, fun r h8 h9 => ?_, h5⟩
      · show upd ((cGo x d p).2.2 10) (cq x p) (v c0) c = _
        rw [ec]
        by_cases e1 : c = c0
        · subst e1; rw [pk_us]; simp [hpr]
        · rw [pk_un e1, h3]; simp [e1]
      · show va_up (cGo x d p).2.2 10 _ r = x.2 r
        unfold va_up
        rw [if_neg h8]
        exact h4 r h8 h9
theorem cUnq_fl (h : cInv N C q t x) (m : Int32) :
    (cUnq x m q.length).1 = upd x.1 5 (nI (q.filter (fun c => !bt m c)).length) ∧ (∀ i u, (q.filter (fun c => !bt m c))[i]? = some u → (cUnq x m q.length).2 11 i = nI u) ∧ (∀ c, (cUnq x m q.length).2 10 c = if c ∈ q ∧ bt m c = true then nI 0 else x.2 10 c) ∧ (∀ r, r ≠ 10 → r ≠ 11 → (cUnq x m q.length).2 r = x.2 r) := by
  obtain ⟨h1, h2, h3, h4, h5⟩ := cGo_fl h.cqv (bt m) (fun _ => nI 0) (d := fun p => if bt m (cq x p) then some (nI 0) else none) (fun i _ => rfl) q.length (Nat.le_refl _)
  rw [List.take_length] at h1 h2 h3
  unfold cUnq
  generalize cGo x (fun p => if bt m (cq x p) then some (nI 0) else none) q.length = z at h1 h2 h3 h4 h5 ⊢
  refine ⟨?_, h2, h3, h4⟩
  show upd z.2.1 5 (nI z.1) = _
  rw [h5, h1]
theorem iUnq (h : cInv N C q t x) (m : Int32) : cInv N C (q.filter (fun c => !bt m c)) t (cUnq x m q.length) := by
  obtain ⟨u1, u2, u3, u4⟩ := cUnq_fl h m
  have h30 := h.q30
  obtain ⟨⟨w, g2, g3, g4⟩, ⟨a1, a2, a3, a4⟩, ⟨b1, b2, b3, b4⟩, ⟨c1, c2, c3⟩⟩ := h
  generalize cUnq x m q.length = z at u1 u2 u3 u4
  have r1 := u4 1 (by decide) (by decide)
  have r2 := u4 2 (by decide) (by decide)
  have r3 := u4 3 (by decide) (by decide)
  have r6 := u4 6 (by decide) (by decide)
  have r8 := u4 8 (by decide) (by decide)
  obtain ⟨w1, w2, w3, w4, w5, w6⟩ := w
  refine ⟨⟨⟨?_, w2, ?_, w4, ?_, ?_⟩, u2, List.Nodup.sublist List.filter_sublist g3, fun c => ?_⟩, ⟨?_, a2, ?_, ?_⟩, ⟨?_, ?_, ?_, ?_⟩, ?_, fun c => ?_, fun c hc => ?_⟩
  · rw [u1]; exact w1
  · rw [u1]; exact w3
  · rw [u1]; rfl
  · exact Nat.le_trans (List.length_filter_le _ _) h30
  · have g4c := g4 c
    have h01 : ¬ nI 0 = nI 1 := by decide
    rw [List.mem_filter, u3]
    by_cases hm : c ∈ q
    · obtain ⟨z1, z2⟩ := g4c.mp hm
      cases hb : bt m c
      · simp [hm, z1, z2]
      · simp [hm, h01]
    · constructor
      · exact fun z => absurd z.1 hm
      · intro z
        rw [if_neg (fun w => hm w.1)] at z
        exact absurd (g4c.mpr z) hm
  · rw [u1]; exact a1
  · rw [r2]; exact a3
  · rw [r2]; exact a4
  · rw [r1]; exact b1
  · rw [r1]; exact b2
  · rw [r3]; exact b3
  · rw [r6]; exact b4
  · rw [r8]; exact c1
  · rw [u3]
    split
    · exact ⟨0, by omega, rfl⟩
    · exact c2 c
  · rw [u3]
    split
    · rfl
    · exact c3 c hc
theorem iShift (h : cInv N C q t x) {k j : Nat} (hk : k < N) (hj : j ≤ 4) (ht : t < 1000000) : ∃ q', cInv N C q' (t + 1) (cShift x N k (nI j)) := by
  have hp := iPut h hk hj ht
  unfold cShift
  rw [cQn_of h.wf]
  split
  · exact ⟨_, iUnq hp _⟩
  · exact ⟨_, hp⟩
end IV
