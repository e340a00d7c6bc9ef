/-! sets of changes as ints; the board's other methods -/
section BP
def bitI (c : Nat) : Int32 := nI 1 <<< (nI c &&& 31)
theorem bt_1 (i : Nat) : bt (nI 1) i = decide (i = 0) := by
  by_cases h : i < 32
  · have : ∀ i : Fin 32, bt (nI 1) i.val = decide (i.val = 0) := by decide +kernel
    exact this ⟨i, h⟩
  · rw [b_big (by omega)]
    simp; omega
theorem bt_bitI {c : Nat} (hc : c < 32) (i : Nat) : bt (bitI c) i = decide (i = c) := by
  unfold bitI
  by_cases h : i < 32
  · rw [b_shl c hc _ h, bt_1]
    by_cases e : i = c
    · subst e; simp
    · simp only [e, decide_false, Bool.and_eq_false_iff, decide_eq_false_iff_not]
      omega
  · rw [b_big (by omega)]
    simp; omega
theorem and_bit {c : Nat} (hc : c < 32) (s : Int32) : s &&& bitI c = 0 ↔ bt s c = false := by
  constructor
  · intro h
    have h1 : bt (s &&& bitI c) c = false := by rw [h, b_0]
    rw [b_and, bt_bitI hc] at h1
    simpa using h1
  · intro h
    refine b_ext (fun i _ => ?_)
    rw [b_and, bt_bitI hc, b_0]
    by_cases e : i = c
    · subst e; simp [h]
    · simp [e]
def wth (s : Int32) (c : Nat) (b : Bool) : Int32 := match b with
  | true => s ||| bitI c
  | false => s &&& (bitI c ^^^ -1)
theorem bt_m1 (i : Nat) (h : i < 32) : bt (-1) i = true := b_m1 i h
theorem bt_wth {c : Nat} (hc : c < 32) (s : Int32) (b : Bool) (i : Nat) : bt (wth s c b) i = if i = c then b else bt s i := by
  by_cases h : i < 32
  · cases b
    · show bt (s &&& (bitI c ^^^ -1)) i = _
      rw [b_and, b_xor, bt_bitI hc, bt_m1 i h]
      by_cases e : i = c
      · simp [e]
      · simp [e]
    · show bt (s ||| bitI c) i = _
      rw [b_or, bt_bitI hc]
      by_cases e : i = c
      · simp [e]
      · simp [e]
  · rw [b_big (by omega), b_big (by omega), if_neg (by omega)]
variable {sc : Option (Nat × (Nat → Int32))} {x : xX} {y : xW} {N C Q : Nat}
theorem s_bit (n : Nat) (w : xW) (c : Nat) : xCW sc (n + 1) k_X2_bit [.int (nI c)] w (xIs (.inl (some (.int (bitI c)))) w) :=
  xWp.gf rfl trivial rfl (Or.inl rfl) ⟨rfl, rfl⟩
set_option maxHeartbeats 4000000 in
theorem s_contains (n : Nat) (w : xW) (s : Int32) {c : Nat} (hc : c < 32) : xCW sc (n + 2) k_X2_contains [.int s, .int (nI c)] w (xIs (.inl (some (.int (bI (bt s c))))) w) := by
  refine xWp.gc rfl trivial rfl (s_bit n w c) (by decide) ?_
  refine xWp.gb rfl trivial rfl (fun h => ?_) (fun h => ?_)
  · exact xWp.gf rfl trivial rfl (Or.inr (Or.inl rfl)) ⟨by rw [bI_f ((and_bit hc s).mp h)]; rfl, rfl⟩
  · exact xWp.gf rfl trivial rfl (Or.inr (Or.inr rfl)) ⟨by rw [bI_t (by rcases Bool.eq_false_or_eq_true (bt s c) with e | e; exact e; exact absurd ((and_bit hc s).mpr e) h)]; rfl, rfl⟩
set_option maxHeartbeats 4000000 in
/-- the flag is any int -/
theorem s_with (n : Nat) (w : xW) (s b : Int32) (c : Nat) : xCW sc (n + 2) k_X2_with [.int s, .int (nI c), .int b] w (xIs (.inl (some (.int (wth s c (decide (¬ b = 0)))))) w) := by
  refine xWp.gb rfl trivial rfl (fun h => ?_) (fun h => ?_)
  · refine xWp.gc rfl trivial rfl (s_bit n w c) (by decide) ?_
    exact xWp.gf rfl trivial rfl (Or.inl rfl) ⟨by rw [show decide (¬ b = 0) = false by simp [h]]; rfl, rfl⟩
  · refine xWp.gc rfl trivial rfl (s_bit n w c) (by decide) ?_
    exact xWp.gf rfl trivial rfl (Or.inl rfl) ⟨by rw [show decide (¬ b = 0) = true by simp [h]]; rfl, rfl⟩
def cHL (c : Int32) : Bool := decide (¬ c < nI 1) && decide (¬ nI 3 < c)
set_option maxHeartbeats 4000000 in
theorem s_hasLimit (n : Nat) (w : xW) (c : Int32) : xCW sc (n + 1) k_X2_hasLimit [.int c] w (xIs (.inl (some (.int (bI (cHL c))))) w) := by
  refine xWp.gb rfl trivial rfl (fun h => ?_) (fun h => ?_)
  · exact xWp.gf rfl trivial rfl (Or.inr (Or.inl rfl)) ⟨by rw [bI_f (by unfold cHL; simp only [Bool.and_eq_false_iff, decide_eq_false_iff_not]; exact Or.inl (fun z => z h))]; rfl, rfl⟩
  · refine xWp.gb rfl trivial rfl (fun h2 => ?_) (fun h2 => ?_)
    · exact xWp.gf rfl trivial rfl (Or.inr (Or.inl rfl)) ⟨by rw [bI_f (by unfold cHL; simp only [Bool.and_eq_false_iff, decide_eq_false_iff_not]; exact Or.inr (fun z => z h2))]; rfl, rfl⟩
    · exact xWp.gf rfl trivial rfl (Or.inr (Or.inr rfl)) ⟨by rw [bI_t (by unfold cHL; simp only [Bool.and_eq_true, decide_eq_true_eq]; exact ⟨h, h2⟩)]; rfl, rfl⟩
/-- hasLimit of a column -/
theorem cHL_in {c : Int32} (h : cHL c = true) : ∃ j, c = nI j ∧ 1 ≤ j ∧ j ≤ 3 := by
  unfold cHL at h
  simp only [Bool.and_eq_true, decide_eq_true_eq] at h
  have h1 := fa_of_nlt h.1
  have h2 := fa_of_nlt h.2
  have h0 : ¬ c < 0 := fun z => by
    rw [fa_lt] at z
    rw [fa_le, nI_toInt (by omega)] at h1
    have : (0 : Int32).toInt = 0 := rfl
    omega
  obtain ⟨j, hj, rfl⟩ := nI_of h0
  refine ⟨j, rfl, ?_, ?_⟩
  · exact (nI_leI (by omega) hj).mp h1
  · exact (nI_leI hj (by omega)).mp h2
theorem cHL_nI {j : Nat} (hj : j ≤ 900) : cHL (nI j) = (decide (1 ≤ j) && decide (j ≤ 3)) := by
  unfold cHL
  have h1 : nI j < nI 1 ↔ j < 1 := lt_nI hj (by omega)
  have h2 : nI 3 < nI j ↔ 3 < j := lt_nI (by omega) hj
  simp only [h1, h2, Nat.not_lt]
def cAt (x : xX) (N : Nat) (col : Int32) : Bool := cHL col && decide (¬ nI (cSz x N col) < x.2 6 col.toNatClampNeg)
def cAb (x : xX) (N : Nat) (col : Int32) : Bool := cHL col && decide (¬ nI (cSz x N col) ≤ x.2 6 col.toNatClampNeg)
set_option maxHeartbeats 4000000 in
theorem s_isAtLimit (n : Nat) (hx : cWF x N C Q) (col : Int32) : xCW sc (n + 2) k_X0_isAtLimit [.ref 1, .int col] (wW x y) (xIs (.inl (some (.int (bI (cAt x N col))))) (wW x y)) := by
  refine xWp.gc rfl trivial rfl (s_hasLimit n _ col) (by decide) ?_
  refine xWp.gb rfl trivial rfl (fun h => ?_) (fun h => ?_)
  · exact xWp.gf rfl trivial rfl (Or.inr (Or.inl rfl)) ⟨by rw [bI_f (by unfold cAt; rw [bI_0.mp h]; rfl)]; rfl, rfl⟩
  · have hl : cHL col = true := by cases e : cHL col; rw [e] at h; exact absurd rfl h; rfl
    obtain ⟨j, rfl, hj1, hj2⟩ := cHL_in hl
    refine xWp.gc rfl trivial rfl (s_sizeOf n hx _) (by decide) ?_
    refine xWp.gb rfl ⟨in_nI (by omega) (by omega), trivial⟩ rfl (fun h => ?_) (fun h => ?_)
    · exact xWp.gf rfl trivial rfl (Or.inr (Or.inl rfl)) ⟨by rw [bI_f (by unfold cAt; rw [hl]; simp [h])]; rfl, rfl⟩
    · exact xWp.gf rfl trivial rfl (Or.inr (Or.inr rfl)) ⟨by rw [bI_t (by unfold cAt; rw [hl]; simp [h])]; rfl, rfl⟩
set_option maxHeartbeats 4000000 in
theorem s_isAboveLimit (n : Nat) (hx : cWF x N C Q) (col : Int32) : xCW sc (n + 2) k_X0_isAboveLimit [.ref 1, .int col] (wW x y) (xIs (.inl (some (.int (bI (cAb x N col))))) (wW x y)) := by
  refine xWp.gc rfl trivial rfl (s_hasLimit n _ col) (by decide) ?_
  refine xWp.gb rfl trivial rfl (fun h => ?_) (fun h => ?_)
  · exact xWp.gf rfl trivial rfl (Or.inr (Or.inl rfl)) ⟨by rw [bI_f (by unfold cAb; rw [bI_0.mp h]; rfl)]; rfl, rfl⟩
  · have hl : cHL col = true := by cases e : cHL col; rw [e] at h; exact absurd rfl h; rfl
    obtain ⟨j, rfl, hj1, hj2⟩ := cHL_in hl
    refine xWp.gc rfl trivial rfl (s_sizeOf n hx _) (by decide) ?_
    refine xWp.gb rfl ⟨in_nI (by omega) (by omega), trivial⟩ rfl (fun h => ?_) (fun h => ?_)
    · exact xWp.gf rfl trivial rfl (Or.inr (Or.inl rfl)) ⟨by rw [bI_f (by unfold cAb; rw [hl]; simp [h])]; rfl, rfl⟩
    · exact xWp.gf rfl trivial rfl (Or.inr (Or.inr rfl)) ⟨by rw [bI_t (by unfold cAb; rw [hl]; simp [h])]; rfl, rfl⟩
set_option maxHeartbeats 4000000 in
theorem s_replaceLimit (n : Nat) {j : Nat} (hj1 : 1 ≤ j) (hj2 : j ≤ 3) (v : Int32) : xCW sc (n + 2) k_X0_replaceLimit [.ref 1, .int (nI j), .int v] (wW x y) (xIs (.inl (some (.int (x.2 6 j)))) (wW (sA x 6 j v) y)) := by
  refine xWp.gc rfl trivial rfl (s_hasLimit n _ (nI j)) (by decide) ?_
  have hl : cHL (nI j) = true := by rw [cHL_nI (by omega)]; simp [hj1, hj2]
  rw [hl]
  refine xWp.gb rfl trivial rfl (fun h => absurd h (by decide)) (fun h => ?_)
  refine xWp.gf rfl ⟨in_nI (by omega) (by omega), in_nI (by omega) (by omega), trivial⟩ rfl (Or.inl rfl) ⟨?_, ?_⟩
  · rw [cl_nI (by omega)]
  · rw [cl_nI (by omega)]; rfl
set_option maxHeartbeats 4000000 in
theorem s_setName (n : Nat) (hx : cWF x N C Q) {k c : Nat} (hk : k < N) (b : Int32) : xCW sc (n + 3) k_X0_setName [.ref 1, .int (nI k), .int (nI c), .int b] (wW x y) (xIs (.inl none) (wW (sA x 3 k (wth (x.2 3 k) c (decide (¬ b = 0)))) y)) := by
  have hx0 := hx
  obtain ⟨hN, hN2, -⟩ := hx
  refine xWp.gc rfl trivial rfl (s_has (n + 1) hx0 hk) (by decide) ?_
  refine xWp.gb rfl trivial rfl (fun h => absurd h (by decide)) (fun _ => ?_)
  refine xWp.gc rfl ⟨in_nI (by omega) (by omega), trivial⟩ rfl (s_with n _ _ b c) (by decide) ?_
  refine xWp.gf rfl ⟨in_nI (by omega) (by omega), trivial⟩ rfl trivial ⟨rfl, ?_⟩
  rw [cl_nI (by omega)]
  rfl
/-- all that the ones with p have -/
def orIf (p : Nat → Bool) (f : Nat → Int32) : Nat → Int32
  | 0 => nI 0
  | n + 1 => if p n then orIf p f n ||| f n else orIf p f n
theorem orIf_t {p : Nat → Bool} {f : Nat → Int32} {n : Nat} (h : p n = true) : orIf p f (n + 1) = orIf p f n ||| f n := by rw [orIf, if_pos h]
theorem orIf_f {p : Nat → Bool} {f : Nat → Int32} {n : Nat} (h : p n = false) : orIf p f (n + 1) = orIf p f n := by rw [orIf, if_neg (by rw [h]; exact Bool.false_ne_true)]
theorem bt_orIf (p : Nat → Bool) (f : Nat → Int32) (i : Nat) : ∀ n, bt (orIf p f n) i = true ↔ ∃ k, k < n ∧ p k = true ∧ bt (f k) i = true
  | 0 => by
    constructor
    · intro h; rw [show orIf p f 0 = 0 from rfl, b_0] at h; cases h
    · rintro ⟨k, hk, -⟩; omega
  | n + 1 => by
    have ih := bt_orIf p f i n
    unfold orIf
    cases hp : p n
    · rw [if_neg (by simp), ih]
      constructor
      · rintro ⟨k, h1, h2⟩; exact ⟨k, by omega, h2⟩
      · rintro ⟨k, h1, h2, h3⟩
        rcases Nat.lt_or_ge k n with q | q
        · exact ⟨k, q, h2, h3⟩
        · rw [show k = n by omega, hp] at h2; cases h2
    · rw [if_pos rfl, b_or, Bool.or_eq_true, ih]
      constructor
      · rintro (⟨k, h1, h2⟩ | h)
        · exact ⟨k, by omega, h2⟩
        · exact ⟨n, by omega, hp, h⟩
      · rintro ⟨k, h1, h2, h3⟩
        rcases Nat.lt_or_ge k n with q | q
        · exact Or.inl ⟨k, q, h2, h3⟩
        · rw [show k = n by omega] at h3; exact Or.inr h3
def cNI (x : xX) (N : Nat) (col : Int32) : Int32 := orIf (fun k => decide (x.2 1 k = col)) (x.2 3) N
set_option maxHeartbeats 4000000 in
theorem s_namedIn (n : Nat) (hx : cWF x N C Q) (col : Int32) : xCW sc (n + 1) k_X0_namedIn [.ref 1, .int col] (wW x y) (xIs (.inl (some (.int (cNI x N col)))) (wW x y)) := by
  obtain ⟨hN, hN2, -⟩ := hx
  refine xWp.go 4 rfl trivial ?_
  refine xWp.loop N (fun j => (4, [some (.ref 1), some (.int col), some (.int (cNI x j col)), some (.int (nI j))], [], wW x y, 0)) (fun j hj ih => ?_) ?_
  · refine xWp.gb rfl trivial rfl (fun h => ?_) (fun _ => ?_)
    · rw [hN, le_nI (by omega) (by omega)] at h; omega
    · refine xWp.gb rfl ⟨in_nI (by omega) (by omega), trivial⟩ rfl (fun h => ?_) (fun h => ?_)
      · refine xWp.go 4 rfl ⟨in_nI (by omega) (by omega), trivial⟩ ?_
        rw [cl_nI (by omega)] at h ⊢
        have e : cNI x (j + 1) col = cNI x j col ||| x.2 3 j := orIf_t (by simp [h])
        rw [e, nI_s] at ih
        exact ih
      · refine xWp.go 4 rfl trivial ?_
        rw [cl_nI (by omega)] at h
        have e : cNI x (j + 1) col = cNI x j col := orIf_f (by simp [h])
        rw [e, nI_s] at ih
        exact ih
  · refine xWp.gb rfl trivial rfl (fun _ => ?_) (fun h => ?_)
    · exact xWp.gf rfl trivial rfl (Or.inl rfl) ⟨rfl, rfl⟩
    · rw [hN, le_nI (by omega) (by omega)] at h; omega
def cCN (x : xX) (N c : Nat) : Nat := fb_ct (fun k => bt (x.2 3 k) c) N
set_option maxHeartbeats 4000000 in
theorem s_countNaming (n : Nat) (hx : cWF x N C Q) {c : Nat} (hc : c < 32) : xCW sc (n + 3) k_X0_countNaming [.ref 1, .int (nI c)] (wW x y) (xIs (.inl (some (.int (nI (cCN x N c))))) (wW x y)) := by
  obtain ⟨hN, hN2, -⟩ := hx
  refine xWp.go 4 rfl trivial ?_
  refine xWp.loop N (fun j => (4, [some (.ref 1), some (.int (nI c)), some (.int (nI (cCN x j c))), some (.int (nI j))], [], wW x y, 0)) (fun j hj ih => ?_) ?_
  · refine xWp.gb rfl trivial rfl (fun h => ?_) (fun _ => ?_)
    · rw [hN, le_nI (by omega) (by omega)] at h; omega
    · refine xWp.gc rfl ⟨in_nI (by omega) (by omega), trivial⟩ rfl (s_contains n _ _ hc) (by decide) ?_
      refine xWp.gb rfl trivial rfl (fun h => ?_) (fun h => ?_)
      · refine xWp.go 4 rfl trivial ?_
        rw [cl_nI (by omega), bI_0] at h
        have e : cCN x (j + 1) c = cCN x j c := by unfold cCN; rw [fb_ct_succ, h]; rfl
        rw [e, nI_s] at ih
        exact ih
      · refine xWp.go 4 rfl trivial ?_
        rw [cl_nI (by omega), bI_0] at h
        have e : cCN x (j + 1) c = cCN x j c + 1 := by unfold cCN; rw [fb_ct_succ, if_pos (by simpa using h)]
        rw [e, nI_s, nI_s] at ih
        exact ih
  · refine xWp.gb rfl trivial rfl (fun _ => ?_) (fun h => ?_)
    · exact xWp.gf rfl trivial rfl (Or.inl rfl) ⟨rfl, rfl⟩
    · rw [hN, le_nI (by omega) (by omega)] at h; omega
set_option maxHeartbeats 8000000 in
theorem s_countAheadOf (n : Nat) (hx : cWF x N C Q) {k : Nat} (hk : k < N) : xCW sc (n + 2) k_X0_countAheadOf [.ref 1, .int (nI k)] (wW x y) (xIs (.inl (some (.int (nI (cAh x N k))))) (wW x y)) := by
  have hx0 := hx
  obtain ⟨hN, hN2, -⟩ := hx
  refine xWp.run 4 rfl trivial ?_
  have st : ∀ z v, xWp i_X0_countAheadOf 0 (sc, none) [] (xCW sc (n + 1)) (xIs (.inl (some (.int (nI (cAh x N k))))) (wW x y)) (4, [some (.ref 1), some (.int (nI k)), some (.int (nI (fb_ct (fun j => decide (x.2 1 j = x.2 1 k) && cLs x j k) 0))), some (.int (nI 0)), z, v], [], wW x y, 0) := by
    have gen : ∀ m j, j + m = N → ∀ z v, xWp i_X0_countAheadOf 0 (sc, none) [] (xCW sc (n + 1)) (xIs (.inl (some (.int (nI (cAh x N k))))) (wW x y)) (4, [some (.ref 1), some (.int (nI k)), some (.int (nI (fb_ct (fun j => decide (x.2 1 j = x.2 1 k) && cLs x j k) j))), some (.int (nI j)), z, v], [], wW x y, 0) := by
      intro m
      induction m with
      | zero =>
        intro j hj z v
        rw [Nat.add_zero] at hj
        subst hj
        refine xWp.gc rfl trivial rfl (s_has n hx0 hk) (by decide) ?_
        refine xWp.gb rfl trivial rfl (fun h => absurd h (by decide)) (fun _ => ?_)
        refine xWp.gb rfl trivial rfl (fun _ => ?_) (fun h => ?_)
        · exact xWp.gf rfl trivial rfl (Or.inl rfl) ⟨rfl, rfl⟩
        · rw [hN, le_nI (by omega) (by omega)] at h; omega
      | succ m ih =>
        intro j hj z v
        refine xWp.gc rfl trivial rfl (s_has n hx0 hk) (by decide) ?_
        refine xWp.gb rfl trivial rfl (fun h => absurd h (by decide)) (fun _ => ?_)
        refine xWp.gb rfl trivial rfl (fun h => ?_) (fun _ => ?_)
        · rw [hN, le_nI (by omega) (by omega)] at h; omega
        have h107 : ∀ (t : Nat) (z v : Option Value), t = fb_ct (fun j => decide (x.2 1 j = x.2 1 k) && cLs x j k) (j + 1) → xWp i_X0_countAheadOf 0 (sc, none) [] (xCW sc (n + 1)) (xIs (.inl (some (.int (nI (cAh x N k))))) (wW x y)) (107, [some (.ref 1), some (.int (nI k)), some (.int (nI t)), some (.int (nI j)), z, v], [], wW x y, 0) := by
          intro t z v ht
          refine xWp.go 4 rfl trivial ?_
          have := ih (j + 1) (by omega) z v
          rw [← ht, nI_s] at this
          exact this
        have h77 : ∀ (b1 b2 : Bool), b1 = decide (x.2 0 k < x.2 0 j) → b2 = (decide (x.2 0 j = x.2 0 k) && decide (x.2 2 j < x.2 2 k)) → xWp i_X0_countAheadOf 0 (sc, none) [] (xCW sc (n + 1)) (xIs (.inl (some (.int (nI (cAh x N k))))) (wW x y)) (77, [some (.ref 1), some (.int (nI k)), some (.int (nI (fb_ct (fun j => decide (x.2 1 j = x.2 1 k) && cLs x j k) j))), some (.int (nI j)), some (.int (bI b1)), v], [.int (bI b2)], wW x y, 0) := by
          intro b1 b2 e1 e2
          have hcl : cLs x j k = (b1 || b2) := by unfold cLs; rw [e1, e2]
          refine xWp.gb rfl ⟨in_nI (by omega) (by omega), in_nI (by omega) (by omega), trivial⟩ rfl (fun h => ?_) (fun h => ?_)
          · rw [cl_nI (by omega), cl_nI (by omega)] at h
            refine xWp.gb rfl trivial rfl (fun hb => ?_) (fun hb => ?_)
            · rw [bI_0] at hb
              refine xWp.gb rfl trivial rfl (fun hb2 => ?_) (fun hb2 => ?_)
              · rw [bI_0] at hb2
                exact h107 _ _ _ (by rw [fb_ct_succ]; simp [h, hcl, hb, hb2])
              · rw [bI_0] at hb2
                refine xWp.go 107 rfl trivial ?_
                have := h107 (fb_ct (fun j => decide (x.2 1 j = x.2 1 k) && cLs x j k) j + 1) (some (.int (bI b1))) (some (.int (bI b2))) (by rw [fb_ct_succ]; simp [h, hcl, hb2])
                rw [nI_s] at this
                exact this
            · rw [bI_0] at hb
              refine xWp.go 107 rfl trivial ?_
              have := h107 (fb_ct (fun j => decide (x.2 1 j = x.2 1 k) && cLs x j k) j + 1) (some (.int (bI b1))) (some (.int (bI b2))) (by rw [fb_ct_succ]; simp [h, hcl, hb])
              rw [nI_s] at this
              exact this
          · rw [cl_nI (by omega), cl_nI (by omega)] at h
            exact h107 _ _ _ (by rw [fb_ct_succ]; simp [h])
        have h40 : ∀ b1 : Bool, b1 = decide (x.2 0 k < x.2 0 j) → xWp i_X0_countAheadOf 0 (sc, none) [] (xCW sc (n + 1)) (xIs (.inl (some (.int (nI (cAh x N k))))) (wW x y)) (40, [some (.ref 1), some (.int (nI k)), some (.int (nI (fb_ct (fun j => decide (x.2 1 j = x.2 1 k) && cLs x j k) j))), some (.int (nI j)), z, v], [.int (bI b1)], wW x y, 0) := by
          intro b1 e1
          refine xWp.gb rfl ⟨in_nI (by omega) (by omega), in_nI (by omega) (by omega), trivial⟩ rfl (fun h => ?_) (fun h => ?_)
          · rw [cl_nI (by omega), cl_nI (by omega)] at h
            refine xWp.gb rfl ⟨in_nI (by omega) (by omega), in_nI (by omega) (by omega), trivial⟩ rfl (fun h2 => ?_) (fun h2 => ?_)
            · rw [cl_nI (by omega), cl_nI (by omega)] at h2
              refine xWp.go 77 rfl trivial ?_
              exact h77 b1 false e1 (by symm; simp only [Bool.and_eq_false_iff, decide_eq_false_iff_not]; exact Or.inr (fun z => (fa_of_lt z).2.1 h2))
            · rw [cl_nI (by omega), cl_nI (by omega)] at h2
              refine xWp.go 77 rfl trivial ?_
              exact h77 b1 true e1 (by simp [h]; exact fa_of_nle h2)
          · rw [cl_nI (by omega), cl_nI (by omega)] at h
            refine xWp.go 77 rfl trivial ?_
            exact h77 b1 false e1 (by simp [h])
        refine xWp.gb rfl ⟨in_nI (by omega) (by omega), in_nI (by omega) (by omega), trivial⟩ rfl (fun h => ?_) (fun h => ?_)
        · rw [cl_nI (by omega), cl_nI (by omega)] at h
          refine xWp.go 40 rfl trivial ?_
          exact h40 false (by simp; exact h)
        · rw [cl_nI (by omega), cl_nI (by omega)] at h
          refine xWp.go 40 rfl trivial ?_
          exact h40 true (by simp; exact fa_of_nle h)
    exact gen N 0 (by omega)
  exact st none none
end BP
