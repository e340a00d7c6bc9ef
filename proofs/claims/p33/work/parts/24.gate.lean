/-! cardInOrder, add; the gate's methods -/
section GA
variable {sc : Option (Nat × (Nat → Int32))} {x : xX} {y : xW} {N C Q : Nat}
/-- the queue holds numbers of changes -/
def cq (x : xX) (i : Nat) : Nat := (x.2 11 i).toNatClampNeg
def cQF (x : xX) (C Q : Nat) : Prop := ∀ i, i < Q → x.2 11 i = nI (cq x i) ∧ cq x i < C
set_option maxHeartbeats 4000000 in
theorem s_cardInOrder (n : Nat) (hx : cWF x N C Q) (col place : Int32) {k : Nat} (hk : k < N) (h1 : x.2 1 k = col) (h2 : nI (cAh x N k) = place) (h3 : ∀ j, j < k → ¬ (x.2 1 j = col ∧ nI (cAh x N j) = place)) : xCW sc (n + 3) k_X0_cardInOrder [.ref 1, .int col, .int place] (wW x y) (xIs (.inl (some (.int (nI k)))) (wW x y)) := by
  have hx0 := hx
  obtain ⟨hN, hN2, -⟩ := hx
  refine xWp.go 2 rfl trivial ?_
  refine xWp.loop k (fun j => (2, [some (.ref 1), some (.int col), some (.int place), some (.int (nI j))], [], wW x y, 0)) (fun j hj ih => ?_) ?_
  · refine xWp.gb rfl trivial rfl (fun h => ?_) (fun _ => ?_)
    · rw [hN, le_nI (by omega) (by omega)] at h; omega
    · refine xWp.gb rfl ⟨in_nI (by omega) (by omega), trivial⟩ rfl (fun h => ?_) (fun h => ?_)
      · rw [cl_nI (by omega)] at h
        refine xWp.gc rfl trivial rfl (s_countAheadOf n hx0 (k := j) (by omega)) (by decide) ?_
        refine xWp.gb rfl trivial rfl (fun h9 => absurd ⟨h, h9⟩ (h3 j hj)) (fun _ => ?_)
        refine xWp.go 2 rfl trivial ?_
        rw [nI_s] at ih
        exact ih
      · refine xWp.go 2 rfl trivial ?_
        rw [nI_s] at ih
        exact ih
  · refine xWp.gb rfl trivial rfl (fun h => ?_) (fun _ => ?_)
    · rw [hN, le_nI (by omega) (by omega)] at h; omega
    · refine xWp.gb rfl ⟨in_nI (by omega) (by omega), trivial⟩ rfl (fun h => ?_) (fun h => ?_)
      · refine xWp.gc rfl trivial rfl (s_countAheadOf n hx0 hk) (by decide) ?_
        refine xWp.gb rfl trivial rfl (fun _ => ?_) (fun h9 => absurd h2 h9)
        exact xWp.gf rfl trivial rfl (Or.inl rfl) ⟨rfl, rfl⟩
      · rw [cl_nI (by omega)] at h
        exact absurd h1 h
/-- a card is added -/
def cAdd (x : xX) (N : Nat) (r : Int32) : xX := cPut (sI (sA x 0 N r) 1 (nI N + nI 1)) N (nI 0)
set_option maxHeartbeats 4000000 in
theorem s_boardAdd (n : Nat) (hx : cWF x N C Q) (hN9 : N < 20) (r : Int32) : xCW sc (n + 3) k_X0_add [.ref 1, .int r] (wW x y) (xIs (.inl (some (.int (nI N)))) (wW (cAdd x N r) y)) := by
  have hx0 := hx
  obtain ⟨hN, hN2, h4⟩ := hx
  refine xWp.gb rfl trivial rfl (fun h => ?_) (fun h => ?_)
  · have hx2 : cWF (sI (sA x 0 N r) 1 (nI N + nI 1)) (N + 1) C Q := ⟨(nI_s N).symm, by omega, h4⟩
    refine xWp.go 36 rfl ⟨by rw [hN]; exact in_nI (by omega) (by omega), trivial⟩ ?_
    rw [hN, cl_nI (by omega)]
    refine xWp.gc rfl trivial rfl (s_put n hx2 (k := N) (by omega) (nI 0) (sc := sc) (y := y)) (by decide) ?_
    exact xWp.gf rfl trivial rfl (Or.inl rfl) ⟨rfl, rfl⟩
  · have h' : ¬ nI N < nI 20 := by rw [← hN]; exact h
    rw [lt_nI (by omega) (by omega)] at h'
    exact absurd hN9 h'
set_option maxHeartbeats 4000000 in
theorem s_ghas (n : Nat) (hx : cWF x N C Q) {k : Nat} (hk : k < C) : xCW sc (n + 1) k_X1_has [.ref 9, .int (nI k)] (wW x y) (xIs (.inl (some (.int (nI 1)))) (wW x y)) := by
  obtain ⟨-, -, hN, hN2, -⟩ := hx
  refine xWp.gb rfl trivial rfl (fun h => absurd h (n0_nI (by omega))) (fun _ => ?_)
  refine xWp.gb rfl trivial rfl (fun h => ?_) (fun _ => ?_)
  · rw [hN, le_nI (by omega) (by omega)] at h
    omega
  · exact xWp.gf rfl trivial rfl (Or.inr (Or.inr rfl)) ⟨rfl, rfl⟩
set_option maxHeartbeats 4000000 in
theorem s_ghasI (n : Nat) (c : Int32) : xCW sc (n + 1) k_X1_has [.ref 9, .int c] (wW x y) (xIs (.inl (some (.int (bI (decide (¬ c < 0 ∧ ¬ x.1 4 ≤ c)))))) (wW x y)) := by
  refine xWp.gb rfl trivial rfl (fun h => ?_) (fun h => ?_)
  · exact xWp.gf rfl trivial rfl (Or.inr (Or.inl rfl)) ⟨by rw [bI_f (by simp [h])]; rfl, rfl⟩
  · refine xWp.gb rfl trivial rfl (fun h2 => ?_) (fun h2 => ?_)
    · exact xWp.gf rfl trivial rfl (Or.inr (Or.inl rfl)) ⟨by rw [bI_f (by simp [h2])]; rfl, rfl⟩
    · exact xWp.gf rfl trivial rfl (Or.inr (Or.inr rfl)) ⟨by rw [bI_t (by simp only [decide_eq_true_eq]; exact ⟨h, h2⟩)]; rfl, rfl⟩
set_option maxHeartbeats 4000000 in
theorem s_weightOf (n : Nat) (hx : cWF x N C Q) {k : Nat} (hk : k < C) : xCW sc (n + 2) k_X1_weightOf [.ref 9, .int (nI k)] (wW x y) (xIs (.inl (some (.int (x.2 7 k)))) (wW x y)) := by
  have hx0 := hx
  obtain ⟨-, -, hN, hN2, -⟩ := hx
  refine xWp.gc rfl trivial rfl (s_ghas n hx0 hk) (by decide) ?_
  refine xWp.gb rfl trivial rfl (fun h => absurd h (by decide)) (fun _ => ?_)
  refine xWp.gf rfl ⟨in_nI (by omega) (by omega), trivial⟩ rfl (Or.inl rfl) ⟨?_, rfl⟩
  rw [cl_nI (by omega)]
set_option maxHeartbeats 4000000 in
theorem s_stateOf (n : Nat) (hx : cWF x N C Q) {k : Nat} (hk : k < C) : xCW sc (n + 2) k_X1_stateOf [.ref 9, .int (nI k)] (wW x y) (xIs (.inl (some (.int (x.2 10 k)))) (wW x y)) := by
  have hx0 := hx
  obtain ⟨-, -, hN, hN2, -⟩ := hx
  refine xWp.gc rfl trivial rfl (s_ghas n hx0 hk) (by decide) ?_
  refine xWp.gb rfl trivial rfl (fun h => absurd h (by decide)) (fun _ => ?_)
  refine xWp.gf rfl ⟨in_nI (by omega) (by omega), trivial⟩ rfl (Or.inl rfl) ⟨?_, rfl⟩
  rw [cl_nI (by omega)]
set_option maxHeartbeats 4000000 in
theorem s_needsOf (n : Nat) (hx : cWF x N C Q) {k : Nat} (hk : k < C) : xCW sc (n + 2) k_X1_needsOf [.ref 9, .int (nI k)] (wW x y) (xIs (.inl (some (.int (x.2 8 k)))) (wW x y)) := by
  have hx0 := hx
  obtain ⟨-, -, hN, hN2, -⟩ := hx
  refine xWp.gc rfl trivial rfl (s_ghas n hx0 hk) (by decide) ?_
  refine xWp.gb rfl trivial rfl (fun h => absurd h (by decide)) (fun _ => ?_)
  refine xWp.gf rfl ⟨in_nI (by omega) (by omega), trivial⟩ rfl (Or.inl rfl) ⟨?_, rfl⟩
  rw [cl_nI (by omega)]
set_option maxHeartbeats 4000000 in
theorem s_setState (n : Nat) (hx : cWF x N C Q) {k : Nat} (hk : k < C) (v : Int32) : xCW sc (n + 2) k_X1_setState [.ref 9, .int (nI k), .int v] (wW x y) (xIs (.inl none) (wW (sA x 10 k v) y)) := by
  have hx0 := hx
  obtain ⟨-, -, hN, hN2, -⟩ := hx
  refine xWp.gc rfl trivial rfl (s_ghas n hx0 hk) (by decide) ?_
  refine xWp.gb rfl trivial rfl (fun h => absurd h (by decide)) (fun _ => ?_)
  refine xWp.gf rfl ⟨in_nI (by omega) (by omega), trivial⟩ rfl trivial ⟨rfl, ?_⟩
  rw [cl_nI (by omega)]
  rfl
set_option maxHeartbeats 4000000 in
theorem s_addNeed (n : Nat) (hx : cWF x N C Q) {k : Nat} (hk : k < C) (c : Nat) : xCW sc (n + 3) k_X1_addNeed [.ref 9, .int (nI k), .int (nI c)] (wW x y) (xIs (.inl none) (wW (sA x 8 k (wth (x.2 8 k) c true)) y)) := by
  have hx0 := hx
  obtain ⟨-, -, hN, hN2, -⟩ := hx
  refine xWp.gc rfl trivial rfl (s_ghas (n + 1) hx0 hk) (by decide) ?_
  refine xWp.gb rfl trivial rfl (fun h => absurd h (by decide)) (fun _ => ?_)
  refine xWp.gc rfl ⟨in_nI (by omega) (by omega), trivial⟩ rfl (s_with n _ _ (nI 1) c) (by decide) ?_
  refine xWp.gf rfl ⟨in_nI (by omega) (by omega), trivial⟩ rfl trivial ⟨rfl, ?_⟩
  rw [cl_nI (by omega)]
  rfl
set_option maxHeartbeats 4000000 in
theorem s_gadd (n : Nat) (hx : cWF x N C Q) (hC : C < 30) (v : Int32) : xCW sc (n + 1) k_X1_add [.ref 9, .int v] (wW x y) (xIs (.inl (some (.int (nI C)))) (wW (sI (sA (sA x 7 C v) 10 C (nI 0)) 4 (nI (C + 1))) y)) := by
  obtain ⟨-, -, hN, hN2, -⟩ := hx
  refine xWp.gb rfl trivial rfl (fun h => ?_) (fun h => ?_)
  · refine xWp.go 41 rfl ⟨by rw [hN]; exact in_nI (by omega) (by omega), by rw [hN]; exact in_nI (by omega) (by omega), trivial⟩ ?_
    rw [hN, cl_nI (by omega)]
    exact xWp.gf rfl trivial rfl (Or.inl rfl) ⟨rfl, by rw [nI_s]; rfl⟩
  · have h' : ¬ nI C < nI 30 := by rw [← hN]; exact h
    rw [lt_nI (by omega) (by omega)] at h'
    exact absurd hC h'
def cAll (x : xX) (C : Nat) (s : Int32) : Int32 := orIf (fun c => decide (x.2 10 c = s)) bitI C
set_option maxHeartbeats 4000000 in
theorem s_allOf (n : Nat) (hx : cWF x N C Q) (s : Int32) : xCW sc (n + 2) k_X1_allOf [.ref 9, .int s] (wW x y) (xIs (.inl (some (.int (cAll x C s)))) (wW x y)) := by
  obtain ⟨-, -, hN, hN2, -⟩ := hx
  refine xWp.go 4 rfl trivial ?_
  refine xWp.loop C (fun j => (4, [some (.ref 9), some (.int s), some (.int (cAll x j s)), some (.int (nI j))], [], wW x y, 0)) (fun j hj ih => ?_) ?_
  · refine xWp.gb rfl trivial rfl (fun h => ?_) (fun _ => ?_)
    · rw [hN, le_nI (by omega) (by omega)] at h; omega
    · refine xWp.gb rfl ⟨in_nI (by omega) (by omega), trivial⟩ rfl (fun h => ?_) (fun h => ?_)
      · refine xWp.gc rfl trivial rfl (s_bit n _ j) (by decide) ?_
        refine xWp.go 4 rfl trivial ?_
        rw [cl_nI (by omega)] at h
        have e : cAll x (j + 1) s = cAll x j s ||| bitI j := orIf_t (by simp [h])
        rw [e, nI_s] at ih
        exact ih
      · refine xWp.go 4 rfl trivial ?_
        rw [cl_nI (by omega)] at h
        have e : cAll x (j + 1) s = cAll x j s := orIf_f (by simp [h])
        rw [e, nI_s] at ih
        exact ih
  · refine xWp.gb rfl trivial rfl (fun _ => ?_) (fun h => ?_)
    · exact xWp.gf rfl trivial rfl (Or.inl rfl) ⟨rfl, rfl⟩
    · rw [hN, le_nI (by omega) (by omega)] at h; omega
/-- whether one of the first has p -/
def anyB (p : Nat → Bool) : Nat → Bool
  | 0 => false
  | n + 1 => anyB p n || p n
theorem anyB_iff {p : Nat → Bool} : ∀ {n : Nat}, anyB p n = true ↔ ∃ k, k < n ∧ p k = true
  | 0 => by constructor
            · intro h; cases h
            · rintro ⟨k, hk, -⟩; omega
  | n + 1 => by
    rw [anyB, Bool.or_eq_true, anyB_iff]
    constructor
    · rintro (⟨k, h1, h2⟩ | h)
      · exact ⟨k, by omega, h2⟩
      · exact ⟨n, by omega, h⟩
    · rintro ⟨k, h1, h2⟩
      rcases Nat.lt_or_ge k n with q | q
      · exact Or.inl ⟨k, q, h2⟩
      · rw [show k = n by omega] at h2; exact Or.inr h2
theorem anyB_no {p : Nat → Bool} {n : Nat} (h : ∀ k, k < n → p k = false) : anyB p n = false := by
  cases e : anyB p n
  · rfl
  · obtain ⟨k, h1, h2⟩ := anyB_iff.mp e
    rw [h k h1] at h2; cases h2
/-- a loop that counts up to N and may end before, at the first place with p -/
theorem xWp.loopA {I : List (List xI)} {bm : Nat} {scr : xT} {hd : List (Nat × Nat × Nat)} {cl : Nat → List Value → xW → (xR → xW → Prop) → Prop} {Q9 : xR → xW → Prop} (N : Nat) (p : Nat → Bool) (st : Nat → xS) (hs : ∀ j, j < N → p j = false → xWp I bm scr hd cl Q9 (st (j + 1)) → xWp I bm scr hd cl Q9 (st j)) (hp : ∀ j, j < N → p j = true → anyB p N = true → xWp I bm scr hd cl Q9 (st j)) (he : anyB p N = false → xWp I bm scr hd cl Q9 (st N)) : xWp I bm scr hd cl Q9 (st 0) := by
  have H : ∀ m j, j + m = N → (∀ i, i < j → p i = false) → xWp I bm scr hd cl Q9 (st j) := by
    intro m
    induction m with
    | zero => intro j hj hb; rw [Nat.add_zero] at hj; subst hj; exact he (anyB_no hb)
    | succ m ih =>
      intro j hj hb
      cases e : p j
      · exact hs j (by omega) e (ih (j + 1) (by omega) (fun i hi => by
          rcases Nat.lt_or_ge i j with q | q
          · exact hb i q
          · rw [show i = j by omega]; exact e))
      · exact hp j (by omega) e (anyB_iff.mpr ⟨j, by omega, e⟩)
  exact H N 0 (by omega) (fun i hi => by omega)
def cNeeded (x : xX) (C c : Nat) : Bool := anyB (fun j => decide (x.2 10 j = nI 2) && bt (x.2 8 j) c) C
set_option maxHeartbeats 4000000 in
theorem s_isNeededByOneIn (n : Nat) (hx : cWF x N C Q) {c : Nat} (hc : c < 32) : xCW sc (n + 3) k_X1_isNeededByOneIn [.ref 9, .int (nI c)] (wW x y) (xIs (.inl (some (.int (bI (cNeeded x C c))))) (wW x y)) := by
  obtain ⟨-, -, hN, hN2, -⟩ := hx
  refine xWp.go 2 rfl trivial ?_
  refine xWp.loopA C (fun j => decide (x.2 10 j = nI 2) && bt (x.2 8 j) c) (fun j => (2, [some (.ref 9), some (.int (nI c)), some (.int (nI j))], [], wW x y, 0)) (fun j hj hp ih => ?_) (fun j hj hp ha => ?_) (fun ha => ?_)
  · refine xWp.gb rfl trivial rfl (fun h => ?_) (fun _ => ?_)
    · rw [hN, le_nI (by omega) (by omega)] at h; omega
    · rw [nI_s] at ih
      refine xWp.gb rfl ⟨in_nI (by omega) (by omega), trivial⟩ rfl (fun h => ?_) (fun h => ?_)
      · refine xWp.gc rfl ⟨in_nI (by omega) (by omega), trivial⟩ rfl (s_contains n _ _ hc) (by decide) ?_
        rw [cl_nI (by omega)] at h ⊢
        have e : bt (x.2 8 j) c = false := by simpa [show x.2 10 j = nI 2 from h] using hp
        rw [e]
        refine xWp.gb rfl trivial rfl (fun _ => ?_) (fun h => absurd (by decide) h)
        exact xWp.go 2 rfl trivial ih
      · exact xWp.go 2 rfl trivial ih
  · simp only [Bool.and_eq_true, decide_eq_true_eq] at hp
    refine xWp.gb rfl trivial rfl (fun h => ?_) (fun _ => ?_)
    · rw [hN, le_nI (by omega) (by omega)] at h; omega
    · refine xWp.gb rfl ⟨in_nI (by omega) (by omega), trivial⟩ rfl (fun h => ?_) (fun h => ?_)
      · refine xWp.gc rfl ⟨in_nI (by omega) (by omega), trivial⟩ rfl (s_contains n _ _ hc) (by decide) ?_
        rw [cl_nI (by omega), hp.2]
        refine xWp.gb rfl trivial rfl (fun h => absurd h (by decide)) (fun _ => ?_)
        exact xWp.gf rfl trivial rfl (Or.inr (Or.inr rfl)) ⟨by rw [bI_t (show cNeeded x C c = true from ha)]; rfl, rfl⟩
      · rw [cl_nI (by omega)] at h
        exact absurd hp.1 h
  · refine xWp.gb rfl trivial rfl (fun _ => ?_) (fun h => ?_)
    · exact xWp.gf rfl trivial rfl (Or.inr (Or.inl rfl)) ⟨by rw [bI_f (show cNeeded x C c = false from ha)]; rfl, rfl⟩
    · rw [hN, le_nI (by omega) (by omega)] at h; omega
set_option maxHeartbeats 4000000 in
theorem s_replaceBroken (n : Nat) {c : Nat} (hc : c < 32) (b : Int32) : xCW sc (n + 3) k_X1_replaceBroken [.ref 9, .int (nI c), .int b] (wW x y) (xIs (.inl (some (.int (bI (bt (x.1 3) c))))) (wW (sI x 3 (wth (x.1 3) c (decide (¬ b = 0)))) y)) := by
  refine xWp.gc rfl trivial rfl (s_contains n _ _ hc) (by decide) ?_
  refine xWp.gc rfl trivial rfl (s_with n _ _ b c) (by decide) ?_
  exact xWp.gf rfl trivial rfl (Or.inr bI_z) ⟨rfl, rfl⟩
/-- two changes clash from now on, or not -/
def cClash (x : xX) (a b : Nat) (f : Bool) : xX := sA (sA x 9 a (wth (x.2 9 a) b f)) 9 b (wth (upd (x.2 9) a (wth (x.2 9 a) b f) b) a f)
set_option maxHeartbeats 4000000 in
theorem s_replaceClash (n : Nat) (hx : cWF x N C Q) {a b : Nat} (ha : a < C) (hb : b < C) (f : Int32) : xCW sc (n + 3) k_X1_replaceClash [.ref 9, .int (nI a), .int (nI b), .int f] (wW x y) (xIs (.inl (some (.int (bI (bt (x.2 9 a) b))))) (wW (cClash x a b (decide (¬ f = 0))) y)) := by
  have hx0 := hx
  obtain ⟨-, -, hN, hN2, -⟩ := hx
  refine xWp.gc rfl trivial rfl (s_ghas (n + 1) hx0 ha) (by decide) ?_
  refine xWp.gb rfl trivial rfl (fun h => absurd h (by decide)) (fun _ => ?_)
  refine xWp.gc rfl trivial rfl (s_ghas (n + 1) hx0 hb) (by decide) ?_
  refine xWp.gb rfl trivial rfl (fun h => absurd h (by decide)) (fun _ => ?_)
  refine xWp.gc rfl ⟨in_nI (by omega) (by omega), trivial⟩ rfl (s_contains n _ _ (by omega)) (by decide) ?_
  refine xWp.gc rfl ⟨in_nI (by omega) (by omega), trivial⟩ rfl (s_with n _ _ f b) (by decide) ?_
  refine xWp.gc rfl ⟨in_nI (by omega) (by omega), in_nI (by omega) (by omega), trivial⟩ rfl (s_with n _ _ f a) (by decide) ?_
  refine xWp.gf rfl ⟨in_nI (by omega) (by omega), trivial⟩ rfl (Or.inr bI_z) ⟨?_, ?_⟩
  · rw [cl_nI (by omega)]
  · rw [cl_nI (by omega), cl_nI (by omega)]
    rfl
end GA
