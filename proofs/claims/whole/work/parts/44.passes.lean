/-! the reference's trials: whether a row passes -/
section PA
variable {x x0 y : xX} {o : Nat → Int64} {N C : Nat} {q : List Nat} {t : Nat} {w : xW} {S : Int32}
/-- what is in, in the reference's trial -/
def tOk (C : Nat) (S : Int32) (y : xX) : Prop := (∀ c, c < C → y.2 13 c = bI (bt S c)) ∧ ∀ c, bt S c = true → c < C
def Tb (x : xX) (S : Int32) (f k j : Nat) : Bool := bt S j || anyB (fun i => decide (cq x (f + i) = j)) k
def bd (x : xX) (S : Int32) (f k c j : Nat) : Bool := !((Tb x S f k j || !(bt (x.2 8 c) j)) && !(Tb x S f k j && bt (x.2 9 c) j))
theorem bt_row (hq : cQF x C q.length) (hC : C ≤ 30) {f : Nat} : ∀ k, f + k ≤ q.length → ∀ j, bt (cRow x f k) j = anyB (fun i => decide (cq x (f + i) = j)) k
  | 0, _, j => b_0 j
  | k + 1, hk, j => by
    have ih := bt_row hq hC (f := f) k (by omega) j
    have e : cRow x f (k + 1) = cRow x f k ||| bitI (cq x (f + k)) := orIf_t rfl
    rw [e, b_or, ih, bt_bitI (by have := (hq (f + k) (by omega)).2; omega)]
    rw [anyB]
    congr 1
    rw [decide_eq_decide]
    exact eq_comm
theorem holds_eq (h : Rel N C q t x y) (hS : ∀ c, bt S c = true → c < C) {f k c : Nat} (hk : f + k ≤ q.length) (hc : c < C) : (!(bt (x.1 3) c) && !(anyB (bd x S f k c) C)) = cHolds x S c (cRow x f k) := by
  have hC := h.1.c
  have hq := h.1.qf
  have hnd := h.1.2.2.2.1
  have hT : ∀ j, bt (S ||| cRow x f k) j = Tb x S f k j := fun j => by
    rw [b_or, bt_row hq hC k hk]; rfl
  have hTC : ∀ j, Tb x S f k j = true → j < C := fun j hj => by
    unfold Tb at hj
    rw [Bool.or_eq_true] at hj
    rcases hj with hj | hj
    · exact hS j hj
    · obtain ⟨i, h1, h2⟩ := anyB_iff.mp hj
      rw [decide_eq_true_eq] at h2
      rw [← h2]
      exact (hq (f + i) (by omega)).2
  unfold cHolds
  congr 1
  rw [Bool.eq_iff_iff, Bool.not_eq_true', anyB_eq, Bool.and_eq_true, decide_eq_true_eq, decide_eq_true_eq, and_zero, and_zero]
  constructor
  · intro h1
    refine ⟨fun i hi hb => ?_, fun i hi hb => ?_⟩
    · have := hnd c i hb
      have g := h1 i (by omega)
      unfold bd at g
      rw [hb] at g
      rw [b_xor, b_m1 i hi, hT, Bool.xor_true]
      cases e : Tb x S f k i
      · rw [e] at g; simp at g
      · rfl
    · rw [hT]
      cases e : Tb x S f k i
      · rfl
      · have g := h1 i (hTC i e)
        unfold bd at g
        rw [e, hb] at g
        simp at g
  · rintro ⟨h1, h2⟩ j hj
    unfold bd
    cases e : Tb x S f k j
    · cases e2 : bt (x.2 8 c) j
      · simp
      · have := h1 j (by omega) e2
        rw [b_xor, b_m1 j (by omega), hT, e] at this
        simp at this
    · cases e2 : bt (x.2 9 c) j
      · simp
      · have := h2 j (by omega) e2
        rw [hT, e] at this
        cases this
set_option maxHeartbeats 4000000 in
theorem m_pIn (n : Nat) (h : Rel N C q t x y) {f k j : Nat} (hk : f + k ≤ q.length) (hj : j < C) (l p cc : Int32) {R : xR → xW → Prop} : ∀ m i, i + m = k → xAt k_X3_passes n R (103, [some (.ref 15), some (.int (nI f)), some (.int l), some (.int p), some (.int (nI (f + k))), some (.int cc), some (.int (nI j)), some (.int (bI (Tb x S f k j))), some (.int (nI (f + k)))], [], wW x0 y o, 0) → xAt k_X3_passes n R (66, [some (.ref 15), some (.int (nI f)), some (.int l), some (.int p), some (.int (nI (f + k))), some (.int cc), some (.int (nI j)), some (.int (bI (Tb x S f i j))), some (.int (nI (f + i)))], [], wW x0 y o, 0) := by
  have hq30 := h.1.q30
  have hC := h.1.c
  intro m
  induction m with
  | zero =>
    intro i hi hR
    have ei : i = k := by omega
    subst ei
    exact xWp.gb rfl trivial rfl (fun _ => hR) (fun h9 => absurd ((le_nI (by omega) (by omega)).mpr (Nat.le_refl _)) h9)
  | succ m ih =>
    intro i hi hR
    have h9 := ih (i + 1) (by omega) hR
    have hqi := h.1.qf (f + i) (by omega)
    have hyq : y.2 12 (f + i) = nI (cq x (f + i)) := by
      have e := h.1.cqv (f + i) _ (List.getElem?_eq_getElem (by omega))
      rw [e]
      exact h.2.2.2.1.2 _ _ (List.getElem?_eq_getElem (by omega))
    rw [show f + (i + 1) = (f + i) + 1 by omega, nI_s (f + i)] at h9
    have eT : Tb x S f (i + 1) j = (Tb x S f i j || decide (cq x (f + i) = j)) := by
      unfold Tb
      rw [anyB, Bool.or_assoc]
    rw [eT] at h9
    refine xWp.gb rfl trivial rfl (fun h8 => ?_) (fun _ => ?_)
    · rw [le_nI (by omega) (by omega)] at h8
      omega
    refine xWp.gb rfl trivial rfl (fun hb => ?_) (fun hb => ?_)
    · rw [bI_0] at hb
      rw [hb, Bool.false_or] at h9
      refine xWp.gb rfl ⟨in_nI (by omega) (by omega), trivial⟩ rfl (fun h1 => ?_) (fun h1 => ?_)
      · have h1' : y.2 12 (nI (f + i)).toNatClampNeg = nI j := h1
        rw [cl_nI (by omega), hyq, eq_nI (by omega) (by omega)] at h1'
        rw [show decide (cq x (f + i) = j) = true by simpa using h1'] at h9
        exact xWp.go 66 rfl trivial h9
      · have h1' : ¬ y.2 12 (nI (f + i)).toNatClampNeg = nI j := h1
        rw [cl_nI (by omega), hyq, eq_nI (by omega) (by omega)] at h1'
        rw [show decide (cq x (f + i) = j) = false by simpa using h1'] at h9
        exact xWp.go 66 rfl trivial h9
    · rw [bI_0, Bool.not_eq_false] at hb
      rw [hb, Bool.true_or] at h9
      exact xWp.go 66 rfl trivial h9
set_option maxHeartbeats 4000000 in
theorem m_pMid (n : Nat) (h : Rel N C q t x y) (ht : tOk C S y) {f k c : Nat} (hk : f + k ≤ q.length) (hc : c < C) (l : Int32) (p0 : Bool) {R : xR → xW → Prop} : ∀ m j z7 z8, j + m = C → (∀ z7 z8, xAt k_X3_passes n R (161, [some (.ref 15), some (.int (nI f)), some (.int l), some (.int (bI (p0 && !(anyB (bd x S f k c) C)))), some (.int (nI (f + k))), some (.int (nI c)), some (.int (nI C)), z7, z8], [], wW x0 y o, 0)) → xAt k_X3_passes n R (45, [some (.ref 15), some (.int (nI f)), some (.int l), some (.int (bI (p0 && !(anyB (bd x S f k c) j)))), some (.int (nI (f + k))), some (.int (nI c)), some (.int (nI j)), z7, z8], [], wW x0 y o, 0) := by
  have hq30 := h.1.q30
  have hC := h.1.c
  have n2 := h.2.1.2.2.1
  have hnd := h.2.2.2.2.2.2.1
  have hcs := h.2.2.2.2.2.2.2
  intro m
  induction m with
  | zero =>
    intro j z7 z8 hj hR
    have ej : j = C := by omega
    subst ej
    refine xWp.gb rfl trivial rfl (fun _ => hR z7 z8) (fun h9 => ?_)
    have h9' : ¬ y.1 2 ≤ nI j := h9
    rw [n2, le_nI (by omega) (by omega)] at h9'
    omega
  | succ m ih =>
    intro j z7 z8 hj hR
    refine xWp.gb rfl trivial rfl (fun h9 => ?_) (fun _ => ?_)
    · have h9' : y.1 2 ≤ nI j := h9
      rw [n2, le_nI (by omega) (by omega)] at h9'
      omega
    refine xWp.go 66 rfl ⟨in_nI (by omega) (by omega), trivial⟩ ?_
    rw [cl_nI (by omega), ht.1 j (by omega)]
    have eT0 : bt S j = Tb x S f 0 j := by unfold Tb; rw [anyB, Bool.or_false]
    rw [eT0]
    refine m_pIn (S := S) n h (k := k) hk (by omega) l _ _ k 0 (by omega) ?_
    have e1 : (p0 && !(anyB (bd x S f k c) (j + 1))) = ((p0 && !(anyB (bd x S f k c) j)) && !(bd x S f k c j)) := by
      rw [anyB, Bool.not_or, Bool.and_assoc]
    have yes : ((p0 && !(anyB (bd x S f k c) j)) && !(bd x S f k c j)) = true → ∀ z8, xAt k_X3_passes n R (149, [some (.ref 15), some (.int (nI f)), some (.int l), some (.int (bI (p0 && !(anyB (bd x S f k c) j)))), some (.int (nI (f + k))), some (.int (nI c)), some (.int (nI j)), some (.int (bI (Tb x S f k j))), z8], [], wW x0 y o, 0) := fun e z8 => by
      have h9 := ih (j + 1) (some (.int (bI (Tb x S f k j)))) z8 (by omega) hR
      rw [e1, e, nI_s j] at h9
      exact xWp.go 45 rfl trivial h9
    have no : ((p0 && !(anyB (bd x S f k c) j)) && !(bd x S f k c j)) = false → ∀ z8, xAt k_X3_passes n R (153, [some (.ref 15), some (.int (nI f)), some (.int l), some (.int (bI (p0 && !(anyB (bd x S f k c) j)))), some (.int (nI (f + k))), some (.int (nI c)), some (.int (nI j)), some (.int (bI (Tb x S f k j))), z8], [], wW x0 y o, 0) := fun e z8 => by
      have h9 := ih (j + 1) (some (.int (bI (Tb x S f k j)))) z8 (by omega) hR
      rw [e1, e, nI_s j] at h9
      exact xWp.go 45 rfl trivial h9
    generalize (p0 && !(anyB (bd x S f k c) j)) = p at yes no ⊢
    refine xWp.gb rfl trivial rfl (fun hp => ?_) (fun hp => ?_)
    · rw [bI_0] at hp
      exact no (by rw [hp]; rfl) _
    rw [bI_0, Bool.not_eq_false] at hp
    refine xWp.gb rfl trivial rfl (fun hT => ?_) (fun hT => ?_)
    · rw [bI_0] at hT
      refine xWp.gb rfl ⟨ix30_in (K := 30) (by omega) (by omega) (by omega), trivial⟩ rfl (fun h1 => ?_) (fun h1 => ?_)
      · rw [ix30_cl (K := 30) (by omega) (by omega) (by omega), hnd c j (by omega) (by omega), bI_0] at h1
        refine xWp.gb rfl trivial rfl (fun _ => ?_) (fun h9 => absurd (bI_0.mpr hT) h9)
        exact yes (by rw [hp]; unfold bd; rw [hT, h1]; rfl) _
      · rw [ix30_cl (K := 30) (by omega) (by omega) (by omega), hnd c j (by omega) (by omega), bI_0, Bool.not_eq_false] at h1
        exact no (by rw [hp]; unfold bd; rw [hT, h1]; rfl) _
    · rw [bI_0, Bool.not_eq_false] at hT
      refine xWp.gb rfl trivial rfl (fun h9 => ?_) (fun _ => ?_)
      · rw [bI_0, hT] at h9
        cases h9
      refine xWp.gb rfl ⟨ix30_in (K := 30) (by omega) (by omega) (by omega), trivial⟩ rfl (fun h1 => ?_) (fun h1 => ?_)
      · rw [ix30_cl (K := 30) (by omega) (by omega) (by omega), hcs c j (by omega) (by omega), bI_0] at h1
        exact yes (by rw [hp]; unfold bd; rw [hT, h1]; rfl) _
      · rw [ix30_cl (K := 30) (by omega) (by omega) (by omega), hcs c j (by omega) (by omega), bI_0, Bool.not_eq_false] at h1
        exact no (by rw [hp]; unfold bd; rw [hT, h1]; simp) _
set_option maxHeartbeats 4000000 in
theorem m_passes (n : Nat) (h : Rel N C q t x y) (ht : tOk C S y) {f l : Nat} (hl : f + l ≤ q.length) : xCW (n + 1) k_X3_passes [.ref 15, .int (nI f), .int (nI l)] (wW x0 y o) (xIs (.inl (some (.int (bI (cPass x S f l))))) (wW x0 y o)) := by
  have hq30 := h.1.q30
  have hC := h.1.c
  have hbr := h.2.2.2.2.2.1
  refine xWp.go 5 rfl trivial ?_
  have key : ∀ m k z5 z6 z7 z8, k + m = l → xAt k_X3_passes n (xIs (.inl (some (.int (bI (cPass x S f l))))) (wW x0 y o)) (5, [some (.ref 15), some (.int (nI f)), some (.int (nI l)), some (.int (bI (cPass x S f k))), some (.int (nI (f + k))), z5, z6, z7, z8], [], wW x0 y o, 0) := by
    intro m
    induction m with
    | zero =>
      intro k z5 z6 z7 z8 hk
      have ek : k = l := by omega
      subst ek
      refine xWp.gb rfl trivial rfl (fun _ => ?_) (fun h9 => ?_)
      · exact xWp.gf rfl trivial rfl (Or.inr bI_z) ⟨rfl, rfl⟩
      · have h9' : ¬ nI f + nI k ≤ nI (f + k) := h9
        rw [nI_add, le_nI (by omega) (by omega)] at h9'
        omega
    | succ m ih =>
      intro k z5 z6 z7 z8 hk
      have hqi := h.1.qf (f + k) (by omega)
      have hyq : y.2 12 (f + k) = nI (cq x (f + k)) := by
        have e := h.1.cqv (f + k) _ (List.getElem?_eq_getElem (by omega))
        rw [e]
        exact h.2.2.2.1.2 _ _ (List.getElem?_eq_getElem (by omega))
      refine xWp.gb rfl trivial rfl (fun h9 => ?_) (fun _ => ?_)
      · have h9' : nI f + nI l ≤ nI (f + k) := h9
        rw [nI_add, le_nI (by omega) (by omega)] at h9'
        omega
      refine xWp.go 22 rfl ⟨in_nI (by omega) (by omega), trivial⟩ ?_
      rw [cl_nI (by omega), hyq]
      generalize hc0 : cq x (f + k) = c at hqi
      have hcC : c < C := hqi.2
      have eP : cPass x S f (k + 1) = (cPass x S f k && cHolds x S c (cRow x f k)) := by
        unfold cPass
        rw [anyB, Bool.not_or, Bool.not_not, hc0]
      have hh := holds_eq h ht.2 (f := f) (k := k) (c := c) (by omega) hcC
      have nxt : ∀ p0 : Bool, p0 = (cPass x S f k && !(bt (x.1 3) c)) → xAt k_X3_passes n (xIs (.inl (some (.int (bI (cPass x S f l))))) (wW x0 y o)) (41, [some (.ref 15), some (.int (nI f)), some (.int (nI l)), some (.int (bI (cPass x S f k))), some (.int (nI (f + k))), some (.int (nI c)), z6, z7, z8], [.int (bI p0)], wW x0 y o, 0) := fun p0 e0 => by
        refine xWp.go 45 rfl trivial ?_
        have h9 := m_pMid (x0 := x0) (o := o) n h ht (f := f) (k := k) (c := c) (by omega) hcC (nI l) p0 (R := xIs (.inl (some (.int (bI (cPass x S f l))))) (wW x0 y o)) C 0 z7 z8 (by omega) (fun z7 z8 => by
          have h8 := ih (k + 1) (some (.int (nI c))) (some (.int (nI C))) z7 z8 (by omega)
          rw [eP, ← hh, ← Bool.and_assoc, ← e0, show f + (k + 1) = (f + k) + 1 by omega, nI_s (f + k)] at h8
          exact xWp.go 5 rfl trivial h8)
        rw [show (p0 && !(anyB (bd x S f k c) 0)) = p0 by rw [anyB]; simp] at h9
        exact h9
      refine xWp.gb rfl trivial rfl (fun hp => ?_) (fun hp => ?_)
      · have hp2 := bI_0.mp hp
        refine xWp.go 41 rfl trivial ?_
        exact nxt false (by rw [hp2]; rfl)
      · have hp2 : cPass x S f k = true := by
          have := fun z => hp (bI_0.mpr z)
          simpa using this
        refine xWp.gb rfl ⟨in_nI (by omega) (by omega), trivial⟩ rfl (fun hb => ?_) (fun hb => ?_)
        · have hb' : y.2 9 (nI c).toNatClampNeg = 0 := hb
          rw [cl_nI (by omega), hbr c (by omega), bI_0] at hb'
          refine xWp.go 41 rfl trivial ?_
          exact nxt true (by rw [hp2, hb']; rfl)
        · have hb' : ¬ y.2 9 (nI c).toNatClampNeg = 0 := hb
          rw [cl_nI (by omega), hbr c (by omega), bI_0, Bool.not_eq_false] at hb'
          refine xWp.go 41 rfl trivial ?_
          exact nxt false (by rw [hp2, hb']; rfl)
  exact key l 0 none none none none (by omega)
end PA
