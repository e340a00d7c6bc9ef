/-! the reference: how its state goes with the class's; what it reads -/
section MO
def Rel (N C : Nat) (q : List Nat) (t : Nat) (x y : xX) : Prop :=
  cInv N C q t x ∧
  (y.1 0 = nI N ∧ y.1 1 = nI t ∧ y.1 2 = nI C ∧ y.1 3 = nI q.length ∧ y.1 4 = x.1 0) ∧
  (y.2 0 = x.2 0 ∧ y.2 1 = x.2 1 ∧ y.2 3 = x.2 4 ∧ y.2 4 = x.2 5 ∧ y.2 6 = x.2 6 ∧ y.2 7 = x.2 7 ∧ y.2 8 = x.2 10) ∧
  ((∀ k, k < N → y.2 2 k = x.2 2 k + nI 1) ∧ (∀ i v, q[i]? = some v → y.2 12 i = nI v)) ∧
  ((∀ k c, k < 20 → c < 30 → y.2 5 (30 * k + c) = bI (bt (x.2 3 k) c)) ∧
  (∀ c, c < 30 → y.2 9 c = bI (bt (x.1 3) c)) ∧
  (∀ c d, c < 30 → d < 30 → y.2 10 (30 * c + d) = bI (bt (x.2 8 c) d)) ∧
  (∀ c d, c < 30 → d < 30 → y.2 11 (30 * c + d) = bI (bt (x.2 9 c) d)))
/-- what reading names and columns needs -/
def mRd (N C : Nat) (x y : xX) : Prop := y.1 0 = nI N ∧ N ≤ 20 ∧ y.1 2 = nI C ∧ C ≤ 30 ∧ y.2 1 = x.2 1 ∧ (∀ k c, k < 20 → c < 30 → y.2 5 (30 * k + c) = bI (bt (x.2 3 k) c))
variable {x x0 y : xX} {o : Nat → Int64} {N C : Nat} {q : List Nat} {t : Nat} {w : xW}
theorem Rel.rd (h : Rel N C q t x y) : mRd N C x y := ⟨h.2.1.1, h.1.n, h.2.1.2.2.1, h.1.c, h.2.2.1.2.1, h.2.2.2.2.1⟩
def gL (a b c : Bool) : Int32 := match a, b, c with
  | false, _, _ => nI 1
  | true, false, _ => nI 2
  | true, true, true => nI 0
  | true, true, false => nI 3
set_option maxHeartbeats 8000000 in
theorem m_goes (n : Nat) (a b c : Bool) : xCW (n + 1) k_X3_goes [.ref 15, .int (bI a), .int (bI b), .int (bI c)] (wW x0 y o) (xIs (.inl (some (.int (bI (a && (b && c)))))) (wW x0 (sI y 7 (gL a b c)) o)) := by
  cases a
  · refine xWp.gb rfl trivial rfl (fun _ => ?_) (fun h => absurd (by decide) h)
    refine xWp.gb rfl trivial rfl (fun h => absurd h (by decide)) (fun _ => ?_)
    exact xWp.gf rfl trivial rfl (Or.inr (Or.inl rfl)) ⟨rfl, rfl⟩
  · refine xWp.gb rfl trivial rfl (fun h => absurd h (by decide)) (fun _ => ?_)
    cases b
    · refine xWp.gb rfl trivial rfl (fun _ => ?_) (fun h => absurd (by decide) h)
      refine xWp.gb rfl trivial rfl (fun h => absurd h (by decide)) (fun _ => ?_)
      exact xWp.gf rfl trivial rfl (Or.inr (Or.inl rfl)) ⟨rfl, rfl⟩
    · refine xWp.gb rfl trivial rfl (fun h => absurd h (by decide)) (fun _ => ?_)
      cases c
      · refine xWp.gb rfl trivial rfl (fun _ => ?_) (fun h => absurd (by decide) h)
        refine xWp.gb rfl trivial rfl (fun h => absurd h (by decide)) (fun _ => ?_)
        exact xWp.gf rfl trivial rfl (Or.inr (Or.inl rfl)) ⟨rfl, rfl⟩
      · refine xWp.gb rfl trivial rfl (fun h => absurd h (by decide)) (fun _ => ?_)
        refine xWp.gb rfl trivial rfl (fun _ => ?_) (fun h => absurd (by decide) h)
        exact xWp.gf rfl trivial rfl (Or.inr (Or.inr rfl)) ⟨rfl, rfl⟩
def inR (v lo hi : Int32) : Bool := decide (¬ v < lo) && decide (¬ hi < v)
set_option maxHeartbeats 4000000 in
theorem m_in (n : Nat) (v lo hi : Int32) : xCW (n + 1) k_X3_in [.int v, .int lo, .int hi] w (xIs (.inl (some (.int (bI (inR v lo hi))))) w) := by
  refine xWp.gb rfl trivial rfl (fun h => ?_) (fun h => ?_)
  · exact xWp.gf rfl trivial rfl (Or.inr (Or.inl rfl)) ⟨by rw [bI_f (by unfold inR; simp [h])]; rfl, rfl⟩
  · refine xWp.gb rfl trivial rfl (fun h2 => ?_) (fun h2 => ?_)
    · exact xWp.gf rfl trivial rfl (Or.inr (Or.inl rfl)) ⟨by rw [bI_f (by unfold inR; simp [h2])]; rfl, rfl⟩
    · exact xWp.gf rfl trivial rfl (Or.inr (Or.inr rfl)) ⟨by rw [bI_t (by unfold inR; simp [h, h2])]; rfl, rfl⟩
theorem inR_pre {v : Int32} {n : Nat} (hn : n ≤ 900) : inR v (nI 0) (nI n - nI 1) = inB v (nI n) := by
  unfold inR inB
  have h1 := pk_sub_toInt (a := n) (b := 1) (by omega) (by omega)
  have h2 : (nI n).toInt = (n : Int) := nI_toInt (by omega)
  have h3 : (nI 0).toInt = 0 := rfl
  have h4 : (0 : Int32).toInt = 0 := rfl
  rw [Bool.eq_iff_iff]
  simp only [Bool.and_eq_true, decide_eq_true_eq, fa_lt, fa_le, h1, h2, h3, h4]
  omega
set_option maxHeartbeats 4000000 in
theorem m_isCard (n : Nat) (hn : y.1 0 = nI N) (hN : N ≤ 20) (v : Int32) : xCW (n + 2) k_X3_isCard [.ref 15, .int v] (wW x0 y o) (xIs (.inl (some (.int (bI (inB v (nI N)))))) (wW x0 y o)) := by
  have h := m_in n v (nI 0) (y.1 0 - nI 1) (w := wW x0 y o)
  refine xWp.gc rfl trivial rfl h (by decide) ?_
  rw [hn, inR_pre (by omega)]
  exact xWp.gf rfl trivial rfl (Or.inr bI_z) ⟨rfl, rfl⟩
set_option maxHeartbeats 4000000 in
theorem m_isChange (n : Nat) (hn : y.1 2 = nI C) (hN : C ≤ 30) (v : Int32) : xCW (n + 2) k_X3_isChange [.ref 15, .int v] (wW x0 y o) (xIs (.inl (some (.int (bI (inB v (nI C)))))) (wW x0 y o)) := by
  have h := m_in n v (nI 0) (y.1 2 - nI 1) (w := wW x0 y o)
  refine xWp.gc rfl trivial rfl h (by decide) ?_
  rw [hn, inR_pre (by omega)]
  exact xWp.gf rfl trivial rfl (Or.inr bI_z) ⟨rfl, rfl⟩
theorem ix30 (k c : Nat) : xk 30 0 * nI k + nI c = nI (30 * k + c) := by
  show nI 30 * nI k + nI c = nI (30 * k + c)
  rw [← nI_add]
  congr 1
  exact (Int32.ofNat_mul 30 k).symm
theorem ix30_in {k c K : Nat} (hk : k < K) (hc : c < 30) (hK : K ≤ 30) : vp_in (xk 30 0 * nI k + nI c) (30 * K) := by rw [ix30]; exact in_nI (by omega) (by omega)
theorem ix30_cl {k c K : Nat} (hk : k < K) (hc : c < 30) (hK : K ≤ 30) : (xk 30 0 * nI k + nI c).toNatClampNeg = 30 * k + c := by rw [ix30]; exact cl_nI (by omega)
set_option maxHeartbeats 4000000 in
theorem m_named (n : Nat) (h : mRd N C x y) {k c : Nat} (hk : k < 20) (hc : c < 30) : xCW (n + 1) k_X3_named [.ref 15, .int (nI k), .int (nI c)] (wW x0 y o) (xIs (.inl (some (.int (bI (bt (x.2 3 k) c))))) (wW x0 y o)) := by
  have h1 := h.2.2.2.2.2 k c hk hc
  have h2 := ix30_cl (K := 20) hk hc (by omega)
  refine xWp.gf rfl ⟨ix30_in (K := 20) hk hc (by omega), trivial⟩ rfl (Or.inr (by rw [h2, h1]; exact bI_z)) ⟨?_, rfl⟩
  rw [h2, h1]
theorem nI_z (n : Nat) : nI n + xk 0 0 = nI n := Int32.add_zero _
set_option maxHeartbeats 4000000 in
theorem m_count (n : Nat) (h : mRd N C x y) (col : Int32) : xCW (n + 1) k_X3_count [.ref 15, .int col] (wW x0 y o) (xIs (.inl (some (.int (nI (cSz x N col))))) (wW x0 y o)) := by
  obtain ⟨hn, hN, -, -, hcol, -⟩ := h
  refine xWp.go 4 rfl trivial ?_
  refine xWp.loop N (fun j => (4, [some (.ref 15), some (.int col), some (.int (nI (cSz x j col))), some (.int (nI j))], [], wW x0 y o, 0)) (fun j hj ih => ?_) ?_
  · refine xWp.gb rfl trivial rfl (fun h => ?_) (fun _ => ?_)
    · have h' : y.1 0 ≤ nI j := h
      rw [hn, le_nI (by omega) (by omega)] at h'; omega
    · rw [nI_s j] at ih
      refine xWp.gb rfl ⟨in_nI (by omega) (by omega), trivial⟩ rfl (fun h => ?_) (fun h => ?_)
      · rw [cl_nI (by omega), hcol] at h
        have e : cSz x (j + 1) col = cSz x j col + 1 := by unfold cSz; rw [fb_ct_succ]; simp [h]
        rw [e, nI_s] at ih
        exact xWp.go 4 rfl trivial ih
      · rw [cl_nI (by omega), hcol] at h
        have e : cSz x (j + 1) col = cSz x j col := by unfold cSz; rw [fb_ct_succ]; simp [h]
        rw [e, ← nI_z (cSz x j col)] at ih
        exact xWp.go 4 rfl trivial ih
  · refine xWp.gb rfl trivial rfl (fun _ => ?_) (fun h => ?_)
    · exact xWp.gf rfl trivial rfl (Or.inl rfl) ⟨rfl, rfl⟩
    · have h' : ¬ y.1 0 ≤ nI N := h
      rw [hn, le_nI (by omega) (by omega)] at h'; omega
theorem anyB_s {p : Nat → Bool} {j : Nat} {b : Bool} (h : b = (anyB p j || p j)) : bI b = bI (anyB p (j + 1)) := by rw [h]; rfl
def xNA (x : xX) (col : Int32) (c : Nat) (k : Nat) : Bool := decide (x.2 1 k = col) && bt (x.2 3 k) c
set_option maxHeartbeats 8000000 in
theorem m_isNamedAt (n : Nat) (h : mRd N C x y) (col : Int32) {c : Nat} (hc : c < 30) : xCW (n + 2) k_X3_isNamedAt [.ref 15, .int col, .int (nI c)] (wW x0 y o) (xIs (.inl (some (.int (bI (anyB (xNA x col c) N))))) (wW x0 y o)) := by
  have hh := h
  obtain ⟨hn, hN, -, -, hcol, -⟩ := h
  refine xWp.go 5 rfl trivial ?_
  refine xWp.loop N (fun j => (5, [some (.ref 15), some (.int col), some (.int (nI c)), some (.int (bI (anyB (xNA x col c) j))), some (.int (nI j))], [], wW x0 y o, 0)) (fun j hj ih => ?_) ?_
  · refine xWp.gb rfl trivial rfl (fun h => ?_) (fun _ => ?_)
    · have h' : y.1 0 ≤ nI j := h
      rw [hn, le_nI (by omega) (by omega)] at h'; omega
    rw [nI_s j] at ih
    have yes : (anyB (xNA x col c) j || xNA x col c j) = true → xAt k_X3_isNamedAt (n + 1) (xIs (.inl (some (.int (bI (anyB (xNA x col c) N))))) (wW x0 y o)) (39, [some (.ref 15), some (.int col), some (.int (nI c)), some (.int (bI (anyB (xNA x col c) j))), some (.int (nI j))], [], wW x0 y o, 0) := fun e => by
      refine xWp.go 5 rfl trivial ?_
      have e2 : bI (anyB (xNA x col c) (j + 1)) = nI 1 := bI_t e
      rw [e2] at ih
      exact ih
    have no : (anyB (xNA x col c) j || xNA x col c j) = false → xAt k_X3_isNamedAt (n + 1) (xIs (.inl (some (.int (bI (anyB (xNA x col c) N))))) (wW x0 y o)) (43, [some (.ref 15), some (.int col), some (.int (nI c)), some (.int (bI (anyB (xNA x col c) j))), some (.int (nI j))], [], wW x0 y o, 0) := fun e => by
      refine xWp.go 5 rfl trivial ?_
      have e2 : bI (anyB (xNA x col c) (j + 1)) = nI 0 := bI_f e
      rw [e2] at ih
      exact ih
    refine xWp.gb rfl trivial rfl (fun h => ?_) (fun h => ?_)
    · rw [bI_0] at h
      refine xWp.gb rfl ⟨in_nI (by omega) (by omega), trivial⟩ rfl (fun h2 => ?_) (fun h2 => ?_)
      · rw [cl_nI (by omega), hcol] at h2
        refine xWp.gc rfl trivial rfl (m_named n hh (k := j) (by omega) hc) (by decide) ?_
        refine xWp.gb rfl trivial rfl (fun h3 => ?_) (fun h3 => ?_)
        · rw [bI_0] at h3
          exact no (by rw [h]; unfold xNA; simp [h3])
        · rw [bI_0, Bool.not_eq_false] at h3
          exact yes (by rw [h]; unfold xNA; simp [h2, h3])
      · rw [cl_nI (by omega), hcol] at h2
        exact no (by rw [h]; unfold xNA; simp [h2])
    · rw [bI_0, Bool.not_eq_false] at h
      exact yes (by rw [h]; rfl)
  · refine xWp.gb rfl trivial rfl (fun _ => ?_) (fun h => ?_)
    · exact xWp.gf rfl trivial rfl (Or.inr bI_z) ⟨rfl, rfl⟩
    · have h' : ¬ y.1 0 ≤ nI N := h
      rw [hn, le_nI (by omega) (by omega)] at h'; omega
set_option maxHeartbeats 4000000 in
theorem m_namesOf (n : Nat) (h : mRd N C x y) {k : Nat} (hk : k < 20) : xCW (n + 2) k_X3_namesOf [.ref 15, .int (nI k)] (wW x0 y o) (xIs (.inl (some (.int (nI (fb_ct (bt (x.2 3 k)) C))))) (wW x0 y o)) := by
  have hh := h
  obtain ⟨-, -, hn, hN, -, -⟩ := h
  refine xWp.go 4 rfl trivial ?_
  refine xWp.loop C (fun j => (4, [some (.ref 15), some (.int (nI k)), some (.int (nI (fb_ct (bt (x.2 3 k)) j))), some (.int (nI j))], [], wW x0 y o, 0)) (fun j hj ih => ?_) ?_
  · refine xWp.gb rfl trivial rfl (fun h => ?_) (fun _ => ?_)
    · have h' : y.1 2 ≤ nI j := h
      rw [hn, le_nI (by omega) (by omega)] at h'; omega
    · rw [nI_s j] at ih
      refine xWp.gc rfl trivial rfl (m_named n hh hk (c := j) (by omega)) (by decide) ?_
      refine xWp.gb rfl trivial rfl (fun h => ?_) (fun h => ?_)
      · rw [bI_0] at h
        have e : fb_ct (bt (x.2 3 k)) (j + 1) = fb_ct (bt (x.2 3 k)) j := by rw [fb_ct_succ, h]; rfl
        rw [e, ← nI_z (fb_ct (bt (x.2 3 k)) j)] at ih
        exact xWp.go 4 rfl trivial ih
      · rw [bI_0, Bool.not_eq_false] at h
        have e : fb_ct (bt (x.2 3 k)) (j + 1) = fb_ct (bt (x.2 3 k)) j + 1 := by rw [fb_ct_succ, h]; rfl
        rw [e, nI_s] at ih
        exact xWp.go 4 rfl trivial ih
  · refine xWp.gb rfl trivial rfl (fun _ => ?_) (fun h => ?_)
    · exact xWp.gf rfl trivial rfl (Or.inl rfl) ⟨rfl, rfl⟩
    · have h' : ¬ y.1 2 ≤ nI C := h
      rw [hn, le_nI (by omega) (by omega)] at h'; omega
set_option maxHeartbeats 4000000 in
theorem m_namedByNow (n : Nat) (h : mRd N C x y) {c : Nat} (hc : c < 30) : xCW (n + 2) k_X3_namedByNow [.ref 15, .int (nI c)] (wW x0 y o) (xIs (.inl (some (.int (nI (cCN x N c))))) (wW x0 y o)) := by
  have hh := h
  obtain ⟨hn, hN, -, -, -, -⟩ := h
  refine xWp.go 4 rfl trivial ?_
  refine xWp.loop N (fun j => (4, [some (.ref 15), some (.int (nI c)), some (.int (nI (cCN x j c))), some (.int (nI j))], [], wW x0 y o, 0)) (fun j hj ih => ?_) ?_
  · refine xWp.gb rfl trivial rfl (fun h => ?_) (fun _ => ?_)
    · have h' : y.1 0 ≤ nI j := h
      rw [hn, le_nI (by omega) (by omega)] at h'; omega
    · rw [nI_s j] at ih
      refine xWp.gc rfl trivial rfl (m_named n hh (k := j) (by omega) hc) (by decide) ?_
      refine xWp.gb rfl trivial rfl (fun h => ?_) (fun h => ?_)
      · rw [bI_0] at h
        have e : cCN x (j + 1) c = cCN x j c := by unfold cCN; rw [fb_ct_succ, h]; rfl
        rw [e, ← nI_z (cCN x j c)] at ih
        exact xWp.go 4 rfl trivial ih
      · rw [bI_0, Bool.not_eq_false] at h
        have e : cCN x (j + 1) c = cCN x j c + 1 := by unfold cCN; rw [fb_ct_succ, h]; rfl
        rw [e, nI_s] at ih
        exact xWp.go 4 rfl trivial ih
  · refine xWp.gb rfl trivial rfl (fun _ => ?_) (fun h => ?_)
    · exact xWp.gf rfl trivial rfl (Or.inl rfl) ⟨rfl, rfl⟩
    · have h' : ¬ y.1 0 ≤ nI N := h
      rw [hn, le_nI (by omega) (by omega)] at h'; omega
/-- how many of a card's changes are not in -/
def xLk (x : xX) (k c : Nat) : Bool := bt (x.2 3 k) c && decide (¬ x.2 10 c = nI 2)
set_option maxHeartbeats 8000000 in
theorem m_lacksOf (n : Nat) (h : mRd N C x y) (hs : y.2 8 = x.2 10) {k : Nat} (hk : k < 20) : xCW (n + 2) k_X3_lacksOf [.ref 15, .int (nI k)] (wW x0 y o) (xIs (.inl (some (.int (nI (fb_ct (xLk x k) C))))) (wW x0 y o)) := by
  have hh := h
  obtain ⟨-, -, hn, hN, -, -⟩ := h
  refine xWp.go 4 rfl trivial ?_
  refine xWp.loop C (fun j => (4, [some (.ref 15), some (.int (nI k)), some (.int (nI (fb_ct (xLk x k) j))), some (.int (nI j))], [], wW x0 y o, 0)) (fun j hj ih => ?_) ?_
  · refine xWp.gb rfl trivial rfl (fun h => ?_) (fun _ => ?_)
    · have h' : y.1 2 ≤ nI j := h
      rw [hn, le_nI (by omega) (by omega)] at h'; omega
    · rw [nI_s j] at ih
      have no : xLk x k j = false → xAt k_X3_lacksOf (n + 1) (xIs (.inl (some (.int (nI (fb_ct (xLk x k) C))))) (wW x0 y o)) (36, [some (.ref 15), some (.int (nI k)), some (.int (nI (fb_ct (xLk x k) j))), some (.int (nI j))], [.int (nI (fb_ct (xLk x k) j))], wW x0 y o, 0) := fun e0 => by
        have e : fb_ct (xLk x k) (j + 1) = fb_ct (xLk x k) j := by rw [fb_ct_succ, e0]; rfl
        rw [e, ← nI_z (fb_ct (xLk x k) j)] at ih
        exact xWp.go 4 rfl trivial ih
      refine xWp.gc rfl trivial rfl (m_named n hh hk (c := j) (by omega)) (by decide) ?_
      refine xWp.gb rfl trivial rfl (fun h => ?_) (fun h => ?_)
      · rw [bI_0] at h
        exact no (by unfold xLk; rw [h]; rfl)
      · rw [bI_0, Bool.not_eq_false] at h
        refine xWp.gb rfl ⟨in_nI (by omega) (by omega), trivial⟩ rfl (fun h2 => ?_) (fun h2 => ?_)
        · rw [cl_nI (by omega), hs] at h2
          exact no (by unfold xLk; rw [h]; simp only [show x.2 10 j = nI 2 from h2]; rfl)
        · rw [cl_nI (by omega), hs] at h2
          have e : fb_ct (xLk x k) (j + 1) = fb_ct (xLk x k) j + 1 := by rw [fb_ct_succ, if_pos (by unfold xLk; rw [h]; simp only [show ¬ x.2 10 j = nI 2 from h2]; rfl)]
          rw [e, nI_s] at ih
          exact xWp.go 4 rfl trivial ih
  · refine xWp.gb rfl trivial rfl (fun _ => ?_) (fun h => ?_)
    · exact xWp.gf rfl trivial rfl (Or.inl rfl) ⟨rfl, rfl⟩
    · have h' : ¬ y.1 2 ≤ nI C := h
      rw [hn, le_nI (by omega) (by omega)] at h'; omega
set_option maxHeartbeats 8000000 in
theorem m_isNeededIn (n : Nat) (h : Rel N C q t x y) {c : Nat} (hc : c < 30) : xCW (n + 1) k_X3_isNeededIn [.ref 15, .int (nI c)] (wW x0 y o) (xIs (.inl (some (.int (bI (cNeeded x C c))))) (wW x0 y o)) := by
  obtain ⟨-, -, hn, hN, -, -⟩ := h.rd
  have hs := h.2.2.1.2.2.2.2.2.2
  have hd := h.2.2.2.2.2.2.1
  refine xWp.go 4 rfl trivial ?_
  refine xWp.loop C (fun j => (4, [some (.ref 15), some (.int (nI c)), some (.int (bI (cNeeded x j c))), some (.int (nI j))], [], wW x0 y o, 0)) (fun j hj ih => ?_) ?_
  · refine xWp.gb rfl trivial rfl (fun h => ?_) (fun _ => ?_)
    · have h' : y.1 2 ≤ nI j := h
      rw [hn, le_nI (by omega) (by omega)] at h'; omega
    rw [nI_s j] at ih
    have yes : (cNeeded x j c || (decide (x.2 10 j = nI 2) && bt (x.2 8 j) c)) = true → xAt k_X3_isNeededIn n (xIs (.inl (some (.int (bI (cNeeded x C c))))) (wW x0 y o)) (40, [some (.ref 15), some (.int (nI c)), some (.int (bI (cNeeded x j c))), some (.int (nI j))], [], wW x0 y o, 0) := fun e => by
      refine xWp.go 4 rfl trivial ?_
      have e2 : bI (cNeeded x (j + 1) c) = nI 1 := bI_t e
      rw [e2] at ih
      exact ih
    have no : (cNeeded x j c || (decide (x.2 10 j = nI 2) && bt (x.2 8 j) c)) = false → xAt k_X3_isNeededIn n (xIs (.inl (some (.int (bI (cNeeded x C c))))) (wW x0 y o)) (44, [some (.ref 15), some (.int (nI c)), some (.int (bI (cNeeded x j c))), some (.int (nI j))], [], wW x0 y o, 0) := fun e => by
      refine xWp.go 4 rfl trivial ?_
      have e2 : bI (cNeeded x (j + 1) c) = nI 0 := bI_f e
      rw [e2] at ih
      exact ih
    refine xWp.gb rfl trivial rfl (fun h => ?_) (fun h => ?_)
    · rw [bI_0] at h
      refine xWp.gb rfl ⟨in_nI (by omega) (by omega), trivial⟩ rfl (fun h2 => ?_) (fun h2 => ?_)
      · rw [cl_nI (by omega), hs] at h2
        refine xWp.gb rfl ⟨ix30_in (K := 30) (by omega) hc (by omega), trivial⟩ rfl (fun h3 => ?_) (fun h3 => ?_)
        · rw [ix30_cl (K := 30) (by omega) hc (by omega), hd j c (by omega) hc, bI_0] at h3
          exact no (by rw [h]; simp [h3])
        · rw [ix30_cl (K := 30) (by omega) hc (by omega), hd j c (by omega) hc, bI_0, Bool.not_eq_false] at h3
          exact yes (by rw [h]; simp only [show x.2 10 j = nI 2 from h2, h3]; rfl)
      · rw [cl_nI (by omega), hs] at h2
        exact no (by rw [h]; simp only [show ¬ x.2 10 j = nI 2 from h2]; rfl)
    · rw [bI_0, Bool.not_eq_false] at h
      exact yes (by rw [h]; rfl)
  · refine xWp.gb rfl trivial rfl (fun _ => ?_) (fun h => ?_)
    · exact xWp.gf rfl trivial rfl (Or.inr bI_z) ⟨rfl, rfl⟩
    · have h' : ¬ y.1 2 ≤ nI C := h
      rw [hn, le_nI (by omega) (by omega)] at h'; omega
end MO
