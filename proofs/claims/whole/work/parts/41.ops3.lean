/-! calls on both sides, 3 -/
section O3
variable {x x0 y : xX} {o : Nat → Int64} {N C : Nat} {q : List Nat} {t : Nat} {w : xW}
theorem rBrk (h : Rel N C q t x y) {k : Nat} (hk : k < C) (b : Bool) : Rel N C q t (cBrk x k b) (sA y 9 k (bI b)) := by
  have hC := h.1.c
  obtain ⟨i, ns, rs, rr, ⟨s5, s9, s10, s11⟩⟩ := h
  refine ⟨i, ns, rs, rr, ⟨s5, fun c hc => ?_, s10, s11⟩⟩
  show upd (y.2 9) k (bI b) c = bI (bt (wth (x.1 3) k b) c)
  rw [bt_wth (by omega)]
  by_cases e : c = k
  · subst e; rw [pk_us, if_pos rfl]
  · rw [pk_un e, if_neg e]; exact s9 c hc
set_option maxHeartbeats 4000000 in
theorem op_setBroken {T : Nat} (h : Rel N C q t x y) (hT : t + 100 ≤ T) (c : Int32) (b : Bool) : opR k_X2_setBroken k_X3_setBroken [.int c, .int (bI b)] esI T x y := by
  have n2 := h.2.1.2.2.1
  have hC := h.1.c
  have hs := h.2.2.1.2.2.2.2.2.2
  have hbr := h.2.2.2.2.2.1
  cases hc : inB c (nI C)
  · refine opR.thr (e := 2) (code := 1) h (by omega) rfl (by omega) (fun _ _ => c_setBroken_2 h.1.wf hc) (fun x0 o => ⟨nI 0, ?_⟩)
    refine xWp.gc rfl trivial rfl (m_isChange _ n2 hC _) (by decide) ?_
    rw [hc]
    refine xWp.gb rfl trivial rfl (fun _ => ?_) (fun h => absurd (by decide) h)
    refine xWp.gc rfl trivial rfl (m_goes _ false false true) (by decide) ?_
    refine xWp.gb rfl trivial rfl (fun _ => ?_) (fun h => absurd (by decide) h)
    exact xWp.gf rfl trivial rfl (Or.inr (Or.inl rfl)) ⟨rfl, rfl⟩
  obtain ⟨k, hk, rfl⟩ := inB_ok hc (by omega)
  by_cases h2 : x.2 10 k = nI 2
  · refine opR.thr (e := 1) (code := 2) h (by omega) rfl (by omega) (fun _ _ => c_setBroken_1 h.1.wf hk h2) (fun x0 o => ⟨nI 0, ?_⟩)
    refine xWp.gc rfl trivial rfl (m_isChange _ n2 hC _) (by decide) ?_
    rw [hc]
    refine xWp.gb rfl trivial rfl (fun h => absurd h (by decide)) (fun _ => ?_)
    refine xWp.gb rfl ⟨in_nI (by omega) (by omega), trivial⟩ rfl (fun _ => ?_) (fun h9 => ?_)
    · refine xWp.gc rfl trivial rfl (m_goes _ true false true) (by decide) ?_
      refine xWp.gb rfl trivial rfl (fun _ => ?_) (fun h => absurd (by decide) h)
      exact xWp.gf rfl trivial rfl (Or.inr (Or.inl rfl)) ⟨rfl, rfl⟩
    · have h9' : ¬ y.2 8 (nI k).toNatClampNeg = nI 2 := h9
      rw [cl_nI (by omega), hs] at h9'
      exact absurd h2 h9'
  · have hcl := fun (y0 : xX) (o : Nat → Int64) => c_setBroken (y := y0) (o := o) (b := bI b) h.1.wf hk h2
    rw [bI_ne] at hcl
    refine opR.ok hcl (fun x0 o => ?_)
    refine xWp.gc rfl trivial rfl (m_isChange _ n2 hC _) (by decide) ?_
    rw [hc]
    refine xWp.gb rfl trivial rfl (fun h => absurd h (by decide)) (fun _ => ?_)
    refine xWp.gb rfl ⟨in_nI (by omega) (by omega), trivial⟩ rfl (fun h9 => ?_) (fun _ => ?_)
    · have h9' : y.2 8 (nI k).toNatClampNeg = nI 2 := h9
      rw [cl_nI (by omega), hs] at h9'
      exact absurd h9' h2
    refine xWp.gc rfl trivial rfl (m_goes _ true true true) (by decide) ?_
    refine xWp.gb rfl trivial rfl (fun h => absurd h (by decide)) (fun _ => ?_)
    have hr := rBrk h hk b
    have hr2 : Rel N C q t (cBrk x k b) (sA (sI y 7 (nI 0)) 9 k (bI b)) := hr
    have ek : (nI k).toNatClampNeg = k := cl_nI (by omega)
    have ev : y.2 9 (nI k).toNatClampNeg = bI (bt (x.1 3) k) := by rw [ek]; exact hbr k (by omega)
    refine xWp.gf rfl ⟨in_nI (by omega) (by omega), ⟨in_nI (by omega) (by omega), bI_z⟩, trivial⟩ rfl (Or.inr (by
      show xz (y.2 9 (nI k).toNatClampNeg)
      rw [ev]; exact bI_z)) ⟨sA (sI y 7 (nI 0)) 9 (nI k).toNatClampNeg (bI b), y.2 9 (nI k).toNatClampNeg, rfl, rfl, fun _ => ev, rfl, N, C, q, t, by omega, by rw [ek]; exact hr2⟩
theorem rClash (h : Rel N C q t x y) {k d : Nat} (hk : k < C) (hd : d < C) (hkd : k ≠ d) (b : Bool) : Rel N C q t (cClash x k d b) (sA (sA y 11 (30 * k + d) (bI b)) 11 (30 * d + k) (bI b)) := by
  have hC := h.1.c
  obtain ⟨i, ns, rs, rr, ⟨s5, s9, s10, s11⟩⟩ := h
  refine ⟨i, ns, rs, rr, ⟨s5, s9, s10, fun k' c hk' hc => ?_⟩⟩
  show upd (upd (y.2 11) (30 * k + d) (bI b)) (30 * d + k) (bI b) (30 * k' + c) = bI (bt (upd (upd (x.2 9) k (wth (x.2 9 k) d b)) d (wth (upd (x.2 9) k (wth (x.2 9 k) d b) d) k b) k') c)
  have i1 := ix_inj (k := k) (k' := k') (c := d) (c' := c) (by omega) hc
  have i2 := ix_inj (k := d) (k' := k') (c := k) (c' := c) (by omega) hc
  rw [pk_un (f := x.2 9) (k := k) (j := d) (fun z => hkd z.symm)]
  by_cases e : k' = d
  · subst e
    rw [pk_us, bt_wth (by omega)]
    by_cases e2 : c = k
    · subst e2; rw [pk_us, if_pos rfl]
    · rw [pk_un (fun z => e2 (i2.mp z).2), if_neg e2, pk_un (fun z => hkd (i1.mp z).1.symm)]
      exact s11 _ _ hk' hc
  · rw [pk_un (fun z => e (i2.mp z).1), pk_un e]
    by_cases e3 : k' = k
    · subst e3
      rw [pk_us, bt_wth (by omega)]
      by_cases e2 : c = d
      · subst e2; rw [pk_us, if_pos rfl]
      · rw [pk_un (fun z => e2 (i1.mp z).2), if_neg e2]
        exact s11 _ _ hk' hc
    · rw [pk_un (fun z => e3 (i1.mp z).1), pk_un e3]
      exact s11 _ _ hk' hc
set_option maxHeartbeats 4000000 in
theorem op_setClash {T : Nat} (h : Rel N C q t x y) (hT : t + 100 ≤ T) (c d : Int32) (b : Bool) : opR k_X2_setClash k_X3_setClash [.int c, .int d, .int (bI b)] esN T x y := by
  have n2 := h.2.1.2.2.1
  have hC := h.1.c
  have hs := h.2.2.1.2.2.2.2.2.2
  have hcs := h.2.2.2.2.2.2.2
  have tail : ∀ (known lt can : Bool) (code : Nat) x0 o, gL known lt can = nI code → (known && (lt && can)) = false → xAt k_X3_setClash 19 (xIs (.inl (some (.int (nI 0)))) (wW x0 (sI y 7 (nI code)) o)) (66, [some (.ref 15), some (.int c), some (.int d), some (.int (bI b)), some (.int (bI known)), none], [.int (bI can), .int (bI lt), .int (bI known), .ref 15], wW x0 y o, 0) := fun known lt can code x0 o e1 e2 => by
    refine xWp.gc rfl trivial rfl (m_goes _ known lt can) (by decide) ?_
    rw [e1, e2]
    refine xWp.gb rfl trivial rfl (fun _ => ?_) (fun h => absurd (by decide) h)
    exact xWp.gf rfl trivial rfl (Or.inr (Or.inl rfl)) ⟨rfl, rfl⟩
  have thr1 : ∀ x0 o, xAt k_X3_setClash 19 (xIs (.inl (some (.int (nI 0)))) (wW x0 (sI y 7 (nI 1)) o)) (20, [some (.ref 15), some (.int c), some (.int d), some (.int (bI b)), none, none], [], wW x0 y o, 0) := fun x0 o => by
    refine xWp.gb rfl trivial rfl (fun _ => ?_) (fun _ => ?_)
    · refine xWp.gb rfl trivial rfl (fun _ => ?_) (fun h => absurd (by decide) h)
      refine xWp.go 66 rfl trivial ?_
      exact tail false false false 1 x0 o rfl rfl
    · refine xWp.gb rfl trivial rfl (fun _ => ?_) (fun h => absurd (by decide) h)
      refine xWp.go 66 rfl trivial ?_
      exact tail false true false 1 x0 o rfl rfl
  cases hc : inB c (nI C)
  · refine opR.thr (e := 2) (code := 1) h (by omega) rfl (by omega) (fun _ _ => c_setClash_2a h.1.wf hc) (fun x0 o => ⟨nI 0, ?_⟩)
    refine xWp.gc rfl trivial rfl (m_isChange _ n2 hC _) (by decide) ?_
    rw [hc]
    exact xWp.gb rfl trivial rfl (fun _ => thr1 x0 o) (fun h => absurd (by decide) h)
  obtain ⟨k, hk, rfl⟩ := inB_ok hc (by omega)
  cases hd : inB d (nI C)
  · refine opR.thr (e := 2) (code := 1) h (by omega) rfl (by omega) (fun _ _ => c_setClash_2b h.1.wf hk hd) (fun x0 o => ⟨nI 0, ?_⟩)
    refine xWp.gc rfl trivial rfl (m_isChange _ n2 hC _) (by decide) ?_
    rw [hc]
    refine xWp.gb rfl trivial rfl (fun h => absurd h (by decide)) (fun _ => ?_)
    refine xWp.gc rfl trivial rfl (m_isChange _ n2 hC _) (by decide) ?_
    rw [hd]
    exact xWp.gb rfl trivial rfl (fun _ => thr1 x0 o) (fun h => absurd (by decide) h)
  obtain ⟨c, hc2, rfl⟩ := inB_ok hd (by omega)
  have heq : nI k = nI c ↔ k = c := eq_nI (by omega) (by omega)
  have both : ∀ (lt : Bool) x0 o (R : xR → xW → Prop), lt = decide (¬ k = c) → ((x.2 10 k = nI 2 ∧ x.2 10 c = nI 2) → xAt k_X3_setClash 19 R (66, [some (.ref 15), some (.int (nI k)), some (.int (nI c)), some (.int (bI b)), some (.int (bI true)), none], [.int (bI false), .int (bI lt), .int (bI true), .ref 15], wW x0 y o, 0)) → (¬ (x.2 10 k = nI 2 ∧ x.2 10 c = nI 2) → xAt k_X3_setClash 19 R (66, [some (.ref 15), some (.int (nI k)), some (.int (nI c)), some (.int (bI b)), some (.int (bI true)), none], [.int (bI true), .int (bI lt), .int (bI true), .ref 15], wW x0 y o, 0)) → xCW 20 k_X3_setClash [.ref 15, .int (nI k), .int (nI c), .int (bI b)] (wW x0 y o) R := fun lt x0 o R elt r1 r2 => by
    refine xWp.gc rfl trivial rfl (m_isChange _ n2 hC _) (by decide) ?_
    rw [hc]
    refine xWp.gb rfl trivial rfl (fun h => absurd h (by decide)) (fun _ => ?_)
    refine xWp.gc rfl trivial rfl (m_isChange _ n2 hC _) (by decide) ?_
    rw [hd]
    refine xWp.gb rfl trivial rfl (fun h => absurd h (by decide)) (fun _ => ?_)
    have mid : ∀ lt, ((x.2 10 k = nI 2 ∧ x.2 10 c = nI 2) → xAt k_X3_setClash 19 R (66, [some (.ref 15), some (.int (nI k)), some (.int (nI c)), some (.int (bI b)), some (.int (bI true)), none], [.int (bI false), .int (bI lt), .int (bI true), .ref 15], wW x0 y o, 0)) → (¬ (x.2 10 k = nI 2 ∧ x.2 10 c = nI 2) → xAt k_X3_setClash 19 R (66, [some (.ref 15), some (.int (nI k)), some (.int (nI c)), some (.int (bI b)), some (.int (bI true)), none], [.int (bI true), .int (bI lt), .int (bI true), .ref 15], wW x0 y o, 0)) → xAt k_X3_setClash 19 R (36, [some (.ref 15), some (.int (nI k)), some (.int (nI c)), some (.int (bI b)), some (.int (bI true)), none], [.int (bI lt), .int (bI true), .ref 15], wW x0 y o, 0) := fun lt r1 r2 => by
      refine xWp.gb rfl trivial rfl (fun h => absurd h (by decide)) (fun _ => ?_)
      refine xWp.gb rfl ⟨in_nI (by omega) (by omega), trivial⟩ rfl (fun h1 => ?_) (fun h1 => ?_)
      · have h1' : y.2 8 (nI k).toNatClampNeg = nI 2 := h1
        rw [cl_nI (by omega), hs] at h1'
        refine xWp.gb rfl ⟨in_nI (by omega) (by omega), trivial⟩ rfl (fun h2 => ?_) (fun h2 => ?_)
        · have h2' : y.2 8 (nI c).toNatClampNeg = nI 2 := h2
          rw [cl_nI (by omega), hs] at h2'
          exact xWp.go 66 rfl trivial (r1 ⟨h1', h2'⟩)
        · have h2' : ¬ y.2 8 (nI c).toNatClampNeg = nI 2 := h2
          rw [cl_nI (by omega), hs] at h2'
          exact xWp.go 66 rfl trivial (r2 (fun z => h2' z.2))
      · have h1' : ¬ y.2 8 (nI k).toNatClampNeg = nI 2 := h1
        rw [cl_nI (by omega), hs] at h1'
        exact xWp.go 66 rfl trivial (r2 (fun z => h1' z.1))
    refine xWp.gb rfl trivial rfl (fun h9 => ?_) (fun h9 => ?_)
    · have h9' : nI k = nI c := h9
      rw [heq] at h9'
      have e : lt = false := by rw [elt]; simp [h9']
      subst e
      exact xWp.go 36 rfl trivial (mid false r1 r2)
    · have h9' : ¬ nI k = nI c := h9
      rw [heq] at h9'
      have e : lt = true := by rw [elt]; simp [h9']
      rw [e] at r1 r2
      exact xWp.go 36 rfl trivial (mid true r1 r2)
  by_cases hkc : k = c
  · subst hkc
    refine opR.thr (e := 0) (code := 2) h (by omega) rfl (by omega) (fun _ _ => c_setClash_0 h.1.wf hk) (fun x0 o => ⟨nI 0, ?_⟩)
    exact both false x0 o _ (by simp) (fun _ => tail true false false 2 x0 o rfl rfl) (fun _ => tail true false true 2 x0 o rfl rfl)
  by_cases h12 : x.2 10 k = nI 2 ∧ x.2 10 c = nI 2
  · refine opR.thr (e := 1) (code := 3) h (by omega) rfl (by omega) (fun _ _ => c_setClash_1 h.1.wf hk hc2 hkc h12.1 h12.2) (fun x0 o => ⟨nI 0, ?_⟩)
    exact both true x0 o _ (by simp [hkc]) (fun _ => tail true true false 3 x0 o rfl rfl) (fun z => absurd h12 z)
  · have hcl := fun (y0 : xX) (o : Nat → Int64) => c_setClash (y := y0) (o := o) (b := bI b) h.1.wf hk hc2 hkc h12
    rw [bI_ne] at hcl
    refine opR.ok hcl (fun x0 o => ?_)
    refine both true x0 o _ (by simp [hkc]) (fun z => absurd z h12) (fun _ => ?_)
    refine xWp.gc rfl trivial rfl (m_goes _ true true true) (by decide) ?_
    refine xWp.gb rfl trivial rfl (fun h => absurd h (by decide)) (fun _ => ?_)
    have hr := rClash h hk hc2 hkc b
    have hr2 : Rel N C q t (cClash x k c b) (sA (sA (sI y 7 (nI 0)) 11 (30 * k + c) (bI b)) 11 (30 * c + k) (bI b)) := hr
    have e1 := ix30_cl (k := k) (c := c) (K := 30) (by omega) (by omega) (by omega)
    have e2 := ix30_cl (k := c) (c := k) (K := 30) (by omega) (by omega) (by omega)
    have ev : y.2 11 (xk 30 0 * nI k + nI c).toNatClampNeg = bI (bt (x.2 9 k) c) := by rw [e1]; exact hcs k c (by omega) (by omega)
    refine xWp.gf rfl ⟨ix30_in (K := 30) (by omega) (by omega) (by omega), ⟨ix30_in (K := 30) (by omega) (by omega) (by omega), bI_z⟩, ⟨ix30_in (K := 30) (by omega) (by omega) (by omega), bI_z⟩, trivial⟩ rfl (Or.inr (by
      show xz (y.2 11 (xk 30 0 * nI k + nI c).toNatClampNeg)
      rw [ev]; exact bI_z)) ⟨sA (sA (sI y 7 (nI 0)) 11 (xk 30 0 * nI k + nI c).toNatClampNeg (bI b)) 11 (xk 30 0 * nI c + nI k).toNatClampNeg (bI b), y.2 11 (xk 30 0 * nI k + nI c).toNatClampNeg, rfl, rfl, fun _ => ev, rfl, N, C, q, t, by omega, by rw [e1, e2]; exact hr2⟩
theorem rState (h : Rel N C q t x y) {k s : Nat} (hk : k < C) (h1 : ¬ x.2 10 k = nI 1) (hs : s ≤ 3) (hs1 : s ≠ 1) : Rel N C q t (sA x 10 k (nI s)) (sA y 8 k (nI s)) := by
  have hi := iState h.1 hk h1 hs hs1
  obtain ⟨-, ns, ⟨r0, r1, r3, r4, r6, r7, r8⟩, rr, s⟩ := h
  refine ⟨hi, ns, ⟨r0, r1, r3, r4, r6, r7, ?_⟩, rr, s⟩
  show upd (y.2 8) k _ = upd (x.2 10) k _
  rw [r8]
set_option maxHeartbeats 4000000 in
theorem op_mend {T : Nat} (h : Rel N C q t x y) (hT : t + 100 ≤ T) (c : Int32) : opR k_X2_mend k_X3_mend [.int c] esI T x y := by
  have n2 := h.2.1.2.2.1
  have hC := h.1.c
  have hs := h.2.2.1.2.2.2.2.2.2
  cases hc : inB c (nI C)
  · refine opR.thr (e := 2) (code := 1) h (by omega) rfl (by omega) (fun _ _ => c_mend_2 h.1.wf hc) (fun x0 o => ⟨nI 0, ?_⟩)
    refine xWp.gc rfl trivial rfl (m_isChange _ n2 hC _) (by decide) ?_
    rw [hc]
    refine xWp.gb rfl trivial rfl (fun _ => ?_) (fun h => absurd (by decide) h)
    refine xWp.gc rfl trivial rfl (m_goes _ false false true) (by decide) ?_
    refine xWp.gb rfl trivial rfl (fun _ => ?_) (fun h => absurd (by decide) h)
    exact xWp.gf rfl trivial rfl (Or.inl rfl) ⟨rfl, rfl⟩
  obtain ⟨k, hk, rfl⟩ := inB_ok hc (by omega)
  by_cases h3 : x.2 10 k = nI 3
  · refine opR.ok (fun _ _ => c_mend h.1.wf hk h3) (fun x0 o => ?_)
    refine xWp.gc rfl trivial rfl (m_isChange _ n2 hC _) (by decide) ?_
    rw [hc]
    refine xWp.gb rfl trivial rfl (fun h => absurd h (by decide)) (fun _ => ?_)
    refine xWp.gb rfl ⟨in_nI (by omega) (by omega), trivial⟩ rfl (fun _ => ?_) (fun h9 => ?_)
    · refine xWp.gc rfl trivial rfl (m_goes _ true true true) (by decide) ?_
      refine xWp.gb rfl trivial rfl (fun h => absurd h (by decide)) (fun _ => ?_)
      have hr := rBrk (rState h hk (by rw [h3]; decide) (s := 0) (by omega) (by omega)) hk false
      have hr2 : Rel N C q t (cMend x k) (sA (sA (sI y 7 (nI 0)) 8 k (nI 0)) 9 k (bI false)) := hr
      refine xWp.go 50 rfl ⟨in_nI (by omega) (by omega), ⟨in_nI (by omega) (by omega), Or.inl rfl⟩, trivial⟩ ?_
      rw [cl_nI (by omega)]
      have hm := m_namedByNow (x0 := x0) (o := o) 17 hr2.rd (c := k) (by omega)
      refine xWp.gc rfl trivial rfl hm (by decide) ?_
      exact xWp.gf rfl trivial rfl (Or.inl rfl) (opP.mk hr2 (by omega) rfl)
    · have h9' : ¬ y.2 8 (nI k).toNatClampNeg = nI 3 := h9
      rw [cl_nI (by omega), hs] at h9'
      exact absurd h3 h9'
  · refine opR.thr (e := 1) (code := 2) h (by omega) rfl (by omega) (fun _ _ => c_mend_1 h.1.wf hk h3) (fun x0 o => ⟨nI 0, ?_⟩)
    refine xWp.gc rfl trivial rfl (m_isChange _ n2 hC _) (by decide) ?_
    rw [hc]
    refine xWp.gb rfl trivial rfl (fun h => absurd h (by decide)) (fun _ => ?_)
    refine xWp.gb rfl ⟨in_nI (by omega) (by omega), trivial⟩ rfl (fun h9 => ?_) (fun _ => ?_)
    · have h9' : y.2 8 (nI k).toNatClampNeg = nI 3 := h9
      rw [cl_nI (by omega), hs] at h9'
      exact absurd h9' h3
    · refine xWp.gc rfl trivial rfl (m_goes _ true false true) (by decide) ?_
      refine xWp.gb rfl trivial rfl (fun _ => ?_) (fun h => absurd (by decide) h)
      exact xWp.gf rfl trivial rfl (Or.inl rfl) ⟨rfl, rfl⟩
end O3
