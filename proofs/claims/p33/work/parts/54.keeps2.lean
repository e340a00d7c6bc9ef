/-! what the class's own steps leave as it was -/
section KQ
variable {x z : xX} {N C : Nat} {q : List Nat} {t : Nat}
theorem and_zero {a b : Int32} : a &&& b = 0 ↔ ∀ i, i < 32 → bt a i = true → bt b i = false := by
  constructor
  · intro h i _ ha
    have h1 : bt (a &&& b) i = false := by rw [h, b_0]
    rw [b_and, ha] at h1
    simpa using h1
  · intro h
    refine b_ext (fun i hi => ?_)
    rw [b_and, b_0]
    cases ha : bt a i
    · rfl
    · rw [h i hi ha]; rfl

theorem bt_all (hC : C ≤ 30) (s : Int32) (c : Nat) : bt (cAll x C s) c = true ↔ c < C ∧ x.2 10 c = s := by
  unfold cAll
  rw [bt_orIf]
  constructor
  · rintro ⟨k, hk, h1, h2⟩
    rw [bt_bitI (by omega), decide_eq_true_eq] at h2
    subst h2
    exact ⟨hk, by simpa using h1⟩
  · rintro ⟨h1, h2⟩
    exact ⟨c, h1, by simpa using h2, by rw [bt_bitI (by omega)]; simp⟩

theorem anyB_eq {p : Nat → Bool} {n : Nat} : anyB p n = false ↔ ∀ k, k < n → p k = false := by
  constructor
  · intro h k hk
    cases e : p k
    · rfl
    · have := anyB_iff.mpr ⟨k, hk, e⟩
      rw [h] at this; cases this
  · exact anyB_no

theorem cShift_1 (h : cInv N C q t x) {k j : Nat} (hk : k < N) (hj : j ≤ 4) (ht : t < 1000000) : (cShift x N k (nI j)).2 1 = upd (x.2 1) k (nI j) := by
  have hp := iPut h hk hj ht
  unfold cShift
  rw [cQn_of h.wf]
  split
  · exact (cUnq_fl hp _).2.2.2 1 (by decide) (by decide)
  · rfl

theorem cShift_r (h : cInv N C q t x) {k j : Nat} (hk : k < N) (hj : j ≤ 4) (ht : t < 1000000) {r : Nat} (h1 : r ≠ 1) (h2 : r ≠ 2) (h10 : r ≠ 10) (h11 : r ≠ 11) : (cShift x N k (nI j)).2 r = x.2 r := by
  have hp := iPut h hk hj ht
  have e : (cPut x k (nI j)).2 r = x.2 r := by
    show va_up (va_up x.2 1 _) 2 _ r = x.2 r
    unfold va_up
    rw [if_neg h2, if_neg h1]
  unfold cShift
  rw [cQn_of h.wf]
  split
  · rw [(cUnq_fl hp _).2.2.2 r h10 h11]; exact e
  · exact e

theorem cEnq_r (m : Int32) {r : Nat} (h10 : r ≠ 10) (h11 : r ≠ 11) : ∀ j, (cEnq x m j).2 r = x.2 r
  | 0 => rfl
  | j + 1 => by
    have ih := cEnq_r m h10 h11 j
    rw [cEnq]
    split
    · show va_up (va_up (cEnq x m j).2 10 _) 11 _ r = x.2 r
      unfold va_up
      rw [if_neg h11, if_neg h10]
      exact ih
    · exact ih

theorem psh1_1 (h : cInv N C q t x) {a : Nat} (ha : a ≤ 4) (hs : 0 < cSz x N (nI (a + 1))) (ht : t < 1000000) : (cPsh1 N a x).2 1 = upd (x.2 1) (cLow x N (nI (a + 1))) (nI a) ∧ (cPsh1 N a x).2 6 = x.2 6 := by
  obtain ⟨h1, -⟩ := h.low hs
  have h' : cInv N C q t (sA x 5 (cLow x N (nI (a + 1))) (x.2 5 (cLow x N (nI (a + 1))) + nI 1)) := h
  exact ⟨cShift_1 h' h1 ha ht, cShift_r h' h1 ha ht (by decide) (by decide) (by decide) (by decide)⟩

theorem sz_mv {f : Nat → Int32} {k a b : Nat} (hk : k < N) (hf : f k = nI a) (hab : a ≠ b) (ha : a ≤ 5) (hb : b ≤ 5) : fb_ct (fun j => decide (upd f k (nI b) j = nI a)) N + 1 = fb_ct (fun j => decide (f j = nI a)) N := by
  have h1 := fb_ct_upd (fun j => decide (f j = nI a)) false hk
  have e : (fun j => decide (upd f k (nI b) j = nI a)) = (fun j => if j = k then false else decide (f j = nI a)) := funext fun j => by
    by_cases e : j = k
    · subst e
      rw [pk_us, if_pos rfl]
      exact decide_eq_false (fun z => hab ((eq_nI (by omega) (by omega)).mp z).symm)
    · rw [pk_un e, if_neg e]
  rw [e]
  simpa [hf] using h1

theorem sz_ot {f : Nat → Int32} {k a b c : Nat} (hf : f k = nI a) (hac : a ≠ c) (hbc : b ≠ c) (ha : a ≤ 5) (hb : b ≤ 5) (hc : c ≤ 5) : fb_ct (fun j => decide (upd f k (nI b) j = nI c)) N = fb_ct (fun j => decide (f j = nI c)) N := by
  refine fb_ct_cong (fun j _ => ?_)
  by_cases e : j = k
  · subst e
    rw [pk_us, hf]
    rw [decide_eq_false (fun z => hac ((eq_nI (by omega) (by omega)).mp z)), decide_eq_false (fun z => hbc ((eq_nI (by omega) (by omega)).mp z))]
  · rw [pk_un e]

theorem sz_psh1 (h : cInv N C q t x) {a : Nat} (ha : a ≤ 3) (hs : 0 < cSz x N (nI (a + 1))) (ht : t < 1000000) : cSz (cPsh1 N a x) N (nI (a + 1)) + 1 = cSz x N (nI (a + 1)) ∧ ∀ b, a + 1 < b → b ≤ 5 → cSz (cPsh1 N a x) N (nI b) = cSz x N (nI b) := by
  obtain ⟨h1, h2, -⟩ := h.low hs
  have e := (psh1_1 h (by omega) hs ht).1
  unfold cSz
  rw [e]
  exact ⟨sz_mv h1 h2 (by omega) (by omega) (by omega), fun b hb hb5 => sz_ot h2 (by omega) (by omega) (by omega) (by omega) hb5⟩

theorem sz_push : ∀ (a : Nat) {x : xX} {q : List Nat} {t : Nat}, cInv N C q t x → a ≤ 4 → t + a ≤ 1000000 → (∀ b, a < b → b ≤ 5 → cSz (cPush N a x) N (nI b) = cSz x N (nI b)) ∧ (cPush N a x).2 6 = x.2 6
  | 0, x, q, t, h, _, _ => ⟨fun _ _ _ => rfl, rfl⟩
  | a + 1, x, q, t, h, ha, ht => by
    rw [cPush]
    split
    · rename_i hb
      obtain ⟨h1, l, hl⟩ := cAb_sz h (by omega) hb
      have hs0 : 0 < cSz x N (nI (a + 1)) := by omega
      obtain ⟨q', h2⟩ := iPsh1 (a := a) h (by omega) hs0 (by omega)
      obtain ⟨i1, i2⟩ := sz_push a h2 (by omega) (by omega)
      have s2 := (sz_psh1 h (a := a) (by omega) hs0 (by omega)).2
      refine ⟨fun b hb hb5 => by rw [i1 b (by omega) hb5, s2 b hb hb5], by rw [i2, (psh1_1 h (by omega) hs0 (by omega)).2]⟩
    · exact ⟨fun _ _ _ => rfl, rfl⟩

def st2 (x z : xX) : Prop := ∀ c, z.2 10 c = nI 2 ↔ x.2 10 c = nI 2

theorem st2.rf : st2 x x := fun _ => Iff.rfl

theorem st2.tr {a b c : xX} (h : st2 a b) (h2 : st2 b c) : st2 a c := fun i => (h2 i).trans (h i)

theorem st2_shift (h : cInv N C q t x) {k j : Nat} (hk : k < N) (hj : j ≤ 4) (ht : t < 1000000) : st2 x (cShift x N k (nI j)) := by
  have hp := iPut h hk hj ht
  unfold cShift
  rw [cQn_of h.wf]
  split
  · intro c
    rw [(cUnq_fl hp _).2.2.1 c]
    split
    · rename_i hc
      have e : x.2 10 c = nI 1 := ((h.1.2.2.2 c).mp hc.1).2
      rw [e]
      decide
    · exact Iff.rfl
  · exact fun _ => Iff.rfl

theorem st2_psh1 (h : cInv N C q t x) {a : Nat} (ha : a ≤ 4) (hs : 0 < cSz x N (nI (a + 1))) (ht : t < 1000000) : st2 x (cPsh1 N a x) := by
  obtain ⟨h1, -⟩ := h.low hs
  have h' : cInv N C q t (sA x 5 (cLow x N (nI (a + 1))) (x.2 5 (cLow x N (nI (a + 1))) + nI 1)) := h
  have := st2_shift h' h1 ha ht
  exact this

theorem st2_push : ∀ (a : Nat) {x : xX} {q : List Nat} {t : Nat}, cInv N C q t x → a ≤ 4 → t + a ≤ 1000000 → st2 x (cPush N a x)
  | 0, x, q, t, h, _, _ => st2.rf
  | a + 1, x, q, t, h, ha, ht => by
    rw [cPush]
    split
    · rename_i hb
      obtain ⟨h1, l, hl⟩ := cAb_sz h (by omega) hb
      obtain ⟨q', h2⟩ := iPsh1 (a := a) h (by omega) (by omega) (by omega)
      exact (st2_psh1 h (by omega) (by omega) (by omega)).tr (st2_push a h2 (by omega) (by omega))
    · exact st2.rf

theorem st2_fall (h : cInv N C q t x) {k : Nat} (hk : k < N) (ht : t + 2 ≤ 1000000) : st2 x (cFall N k x) := by
  have h' : cInv N C q t (sA x 4 k (x.2 4 k + nI 1)) := h
  obtain ⟨q1, h1⟩ := iShift h' hk (j := 1) (by omega) (by omega)
  have e1 := st2_shift h' hk (j := 1) (by omega) (by omega)
  have e2 : st2 x (cShift (sA x 4 k (x.2 4 k + nI 1)) N k (nI 1)) := e1
  exact e2.tr (st2_push 1 h1 (by omega) (by omega))

theorem st2_drop (h : cInv N C q t x) (m : Int32) (ad : Bool) (ht : t + 2 * N ≤ 1000000) : ∀ k, k ≤ N → st2 x (cDrop N m ad x k).1
  | 0, _ => st2.rf
  | k + 1, hk => by
    obtain ⟨q', t', h1, h2, h3⟩ := iDrop h m ad ht k (by omega)
    have ih := st2_drop h m ad ht k (by omega)
    rw [cDrop, cDr1]
    split
    · exact ih.tr (st2_fall h2 (by omega) (by omega))
    · exact ih

theorem st2_on {k : Nat} : st2 x (cOn x C k) := by
  unfold cOn
  split
  · exact fun _ => Iff.rfl
  · exact fun _ => Iff.rfl
theorem st2_ons : ∀ k, st2 x (cOns x C k)
  | 0 => st2.rf
  | k + 1 => (st2_ons k).tr st2_on
theorem st2_all (h : st2 x z) : cAll z C (nI 2) = cAll x C (nI 2) := orIf_cong (fun c _ => ⟨decide_eq_decide.mpr (h c), fun _ => rfl⟩)
theorem bI_ne (b : Bool) : decide (¬ bI b = 0) = b := by cases b <;> decide
theorem wth_t (s : Int32) (c : Nat) : wth s c true = s ||| bitI c := rfl
theorem wth_f (s : Int32) (c : Nat) : wth s c false = s &&& (bitI c ^^^ -1) := rfl
end KQ
