/-! calls on both sides, 8: as it stands -/
section O8
variable {x x0 y : xX} {o : Nat → Int64} {N C : Nat} {q : List Nat} {t : Nat} {w : xW} {S : Int32}
def esO : Nat → Nat
  | 2 => 1
  | _ => 0
set_option maxHeartbeats 4000000 in
theorem op_queued {T : Nat} (h : Rel N C q t x y) (hT : t + 100 ≤ T) : opR k_X2_queued k_X3_queued [] esZ T x y :=
  opR.ok (fun _ _ => c_queued) (fun x0 o => xWp.gf rfl trivial rfl (Or.inl rfl) ⟨sI y 7 (nI 0), _, rfl, rfl, fun _ => h.2.1.2.2.2.1.trans h.1.wf.2.2.2.2.1.symm, rfl, N, C, q, t, by omega, h⟩)
set_option maxHeartbeats 4000000 in
theorem op_hours {T : Nat} (h : Rel N C q t x y) (hT : t + 100 ≤ T) : opR k_X2_hours k_X3_hours [] esZ T x y :=
  opR.ok (fun _ _ => c_hours) (fun x0 o => xWp.gf rfl trivial rfl (Or.inl rfl) ⟨sI y 7 (nI 0), _, rfl, rfl, fun _ => h.2.1.2.2.2.2, rfl, N, C, q, t, by omega, h⟩)
set_option maxHeartbeats 4000000 in
theorem op_cards {T : Nat} (h : Rel N C q t x y) (hT : t + 100 ≤ T) : opR k_X2_cards k_X3_cards [] esZ T x y :=
  opR.ok (fun _ _ => c_cards) (fun x0 o => xWp.gf rfl trivial rfl (Or.inl rfl) ⟨sI y 7 (nI 0), _, rfl, rfl, fun _ => h.2.1.1.trans h.1.wf.1.symm, rfl, N, C, q, t, by omega, h⟩)
set_option maxHeartbeats 4000000 in
theorem op_changes {T : Nat} (h : Rel N C q t x y) (hT : t + 100 ≤ T) : opR k_X2_changes k_X3_changes [] esZ T x y :=
  opR.ok (fun _ _ => c_changes) (fun x0 o => xWp.gf rfl trivial rfl (Or.inl rfl) ⟨sI y 7 (nI 0), _, rfl, rfl, fun _ => h.2.1.2.2.1.trans h.1.wf.2.2.1.symm, rfl, N, C, q, t, by omega, h⟩)
set_option maxHeartbeats 4000000 in
theorem op_queuedAt {T : Nat} (h : Rel N C q t x y) (hT : t + 100 ≤ T) (v : Int32) : opR k_X2_queuedAt k_X3_queuedAt [.int v] esO T x y := by
  have hq30 := h.1.q30
  have e3 : y.1 3 = nI q.length := h.2.1.2.2.2.1
  have e5 : x.1 5 = nI q.length := h.1.wf.2.2.2.2.1
  have hin := fun w => m_in 18 v (nI 0) (y.1 3 - nI 1) (w := w)
  rw [e3, inR_pre (by omega)] at hin
  rw [← e3] at hin
  cases hc : inB v (nI q.length)
  · rw [e3, hc] at hin
    rw [← e3] at hin
    refine opR.thr (e := 2) (code := 1) h (by omega) rfl (by omega) (fun _ _ => c_queuedAt_2 (by rw [e5]; exact hc)) (fun x0 o => ⟨nI 0, ?_⟩)
    refine xWp.gc rfl trivial rfl (hin _) (by decide) ?_
    refine xWp.gc rfl trivial rfl (m_goes _ false true true) (by decide) ?_
    refine xWp.gb rfl trivial rfl (fun _ => ?_) (fun h => absurd (by decide) h)
    exact xWp.gf rfl trivial rfl (Or.inl rfl) ⟨rfl, rfl⟩
  · rw [e3, hc] at hin
    rw [← e3] at hin
    obtain ⟨i, hi, rfl⟩ := inB_ok hc (by omega)
    have hy := qat h hi
    have e1 : (nI i).toNatClampNeg = i := cl_nI (by omega)
    refine opR.ok (fun _ _ => c_queuedAt h.1.wf h.1.qf hi) (fun x0 o => ?_)
    refine xWp.gc rfl trivial rfl (hin _) (by decide) ?_
    refine xWp.gc rfl trivial rfl (m_goes _ true true true) (by decide) ?_
    refine xWp.gb rfl trivial rfl (fun h => absurd h (by decide)) (fun _ => ?_)
    exact xWp.gf rfl ⟨in_nI (by omega) (by omega), trivial⟩ rfl (Or.inl rfl) ⟨sI y 7 (nI 0), _, rfl, rfl, fun _ => by rw [e1]; exact hy, rfl, N, C, q, t, by omega, h⟩
set_option maxHeartbeats 4000000 in
theorem op_columnOf {T : Nat} (h : Rel N C q t x y) (hT : t + 100 ≤ T) (c : Int32) : opR k_X2_columnOf k_X3_columnOf [.int c] esO T x y := by
  have hN := h.1.n
  have hC := h.1.c
  have n0 := h.2.1.1
  have n2 := h.2.1.2.2.1
  cases hc : inB c (nI N)
  · refine opR.thr (e := 2) (code := 1) h (by omega) rfl (by omega) (fun _ _ => c_columnOf_2 h.1.wf hc) (fun x0 o => ⟨nI 0, ?_⟩)
    refine xWp.gc rfl trivial rfl (m_isCard 17 n0 hN c) (by decide) ?_
    rw [hc]
    refine xWp.gc rfl trivial rfl (m_goes _ false true true) (by decide) ?_
    refine xWp.gb rfl trivial rfl (fun _ => ?_) (fun h => absurd (by decide) h)
    exact xWp.gf rfl trivial rfl (Or.inl rfl) ⟨rfl, rfl⟩
  · obtain ⟨k, hk, rfl⟩ := inB_ok hc (by omega)
    have e1 : (nI k).toNatClampNeg = k := cl_nI (by omega)
    refine opR.ok (fun _ _ => c_columnOf h.1.wf hk) (fun x0 o => ?_)
    refine xWp.gc rfl trivial rfl (m_isCard 17 n0 hN _) (by decide) ?_
    rw [hc]
    refine xWp.gc rfl trivial rfl (m_goes _ true true true) (by decide) ?_
    refine xWp.gb rfl trivial rfl (fun h => absurd h (by decide)) (fun _ => ?_)
    have h7 : Rel N C q t x (sI y 7 (nI 0)) := h
    exact xWp.gf rfl ⟨in_nI (by omega) (by omega), trivial⟩ rfl (Or.inl rfl) ⟨sI y 7 (nI 0), _, rfl, rfl, fun _ => by rw [e1]; exact congrFun h.2.2.1.2.1 k, rfl, N, C, q, t, by omega, h⟩
set_option maxHeartbeats 4000000 in
theorem op_falls {T : Nat} (h : Rel N C q t x y) (hT : t + 100 ≤ T) (c : Int32) : opR k_X2_falls k_X3_falls [.int c] esO T x y := by
  have hN := h.1.n
  have hC := h.1.c
  have n0 := h.2.1.1
  have n2 := h.2.1.2.2.1
  cases hc : inB c (nI N)
  · refine opR.thr (e := 2) (code := 1) h (by omega) rfl (by omega) (fun _ _ => c_falls_2 h.1.wf hc) (fun x0 o => ⟨nI 0, ?_⟩)
    refine xWp.gc rfl trivial rfl (m_isCard 17 n0 hN c) (by decide) ?_
    rw [hc]
    refine xWp.gc rfl trivial rfl (m_goes _ false true true) (by decide) ?_
    refine xWp.gb rfl trivial rfl (fun _ => ?_) (fun h => absurd (by decide) h)
    exact xWp.gf rfl trivial rfl (Or.inl rfl) ⟨rfl, rfl⟩
  · obtain ⟨k, hk, rfl⟩ := inB_ok hc (by omega)
    have e1 : (nI k).toNatClampNeg = k := cl_nI (by omega)
    refine opR.ok (fun _ _ => c_falls h.1.wf hk) (fun x0 o => ?_)
    refine xWp.gc rfl trivial rfl (m_isCard 17 n0 hN _) (by decide) ?_
    rw [hc]
    refine xWp.gc rfl trivial rfl (m_goes _ true true true) (by decide) ?_
    refine xWp.gb rfl trivial rfl (fun h => absurd h (by decide)) (fun _ => ?_)
    have h7 : Rel N C q t x (sI y 7 (nI 0)) := h
    exact xWp.gf rfl ⟨in_nI (by omega) (by omega), trivial⟩ rfl (Or.inl rfl) ⟨sI y 7 (nI 0), _, rfl, rfl, fun _ => by rw [e1]; exact congrFun h.2.2.1.2.2.1 k, rfl, N, C, q, t, by omega, h⟩
set_option maxHeartbeats 4000000 in
theorem op_pushes {T : Nat} (h : Rel N C q t x y) (hT : t + 100 ≤ T) (c : Int32) : opR k_X2_pushes k_X3_pushes [.int c] esO T x y := by
  have hN := h.1.n
  have hC := h.1.c
  have n0 := h.2.1.1
  have n2 := h.2.1.2.2.1
  cases hc : inB c (nI N)
  · refine opR.thr (e := 2) (code := 1) h (by omega) rfl (by omega) (fun _ _ => c_pushes_2 h.1.wf hc) (fun x0 o => ⟨nI 0, ?_⟩)
    refine xWp.gc rfl trivial rfl (m_isCard 17 n0 hN c) (by decide) ?_
    rw [hc]
    refine xWp.gc rfl trivial rfl (m_goes _ false true true) (by decide) ?_
    refine xWp.gb rfl trivial rfl (fun _ => ?_) (fun h => absurd (by decide) h)
    exact xWp.gf rfl trivial rfl (Or.inl rfl) ⟨rfl, rfl⟩
  · obtain ⟨k, hk, rfl⟩ := inB_ok hc (by omega)
    have e1 : (nI k).toNatClampNeg = k := cl_nI (by omega)
    refine opR.ok (fun _ _ => c_pushes h.1.wf hk) (fun x0 o => ?_)
    refine xWp.gc rfl trivial rfl (m_isCard 17 n0 hN _) (by decide) ?_
    rw [hc]
    refine xWp.gc rfl trivial rfl (m_goes _ true true true) (by decide) ?_
    refine xWp.gb rfl trivial rfl (fun h => absurd h (by decide)) (fun _ => ?_)
    have h7 : Rel N C q t x (sI y 7 (nI 0)) := h
    exact xWp.gf rfl ⟨in_nI (by omega) (by omega), trivial⟩ rfl (Or.inl rfl) ⟨sI y 7 (nI 0), _, rfl, rfl, fun _ => by rw [e1]; exact congrFun h.2.2.1.2.2.2.1 k, rfl, N, C, q, t, by omega, h⟩
set_option maxHeartbeats 4000000 in
theorem op_state {T : Nat} (h : Rel N C q t x y) (hT : t + 100 ≤ T) (c : Int32) : opR k_X2_state k_X3_state [.int c] esO T x y := by
  have hN := h.1.n
  have hC := h.1.c
  have n0 := h.2.1.1
  have n2 := h.2.1.2.2.1
  cases hc : inB c (nI C)
  · refine opR.thr (e := 2) (code := 1) h (by omega) rfl (by omega) (fun _ _ => c_state_2 h.1.wf hc) (fun x0 o => ⟨nI 0, ?_⟩)
    refine xWp.gc rfl trivial rfl (m_isChange 17 n2 hC c) (by decide) ?_
    rw [hc]
    refine xWp.gc rfl trivial rfl (m_goes _ false true true) (by decide) ?_
    refine xWp.gb rfl trivial rfl (fun _ => ?_) (fun h => absurd (by decide) h)
    exact xWp.gf rfl trivial rfl (Or.inl rfl) ⟨rfl, rfl⟩
  · obtain ⟨k, hk, rfl⟩ := inB_ok hc (by omega)
    have e1 : (nI k).toNatClampNeg = k := cl_nI (by omega)
    refine opR.ok (fun _ _ => c_state h.1.wf hk) (fun x0 o => ?_)
    refine xWp.gc rfl trivial rfl (m_isChange 17 n2 hC _) (by decide) ?_
    rw [hc]
    refine xWp.gc rfl trivial rfl (m_goes _ true true true) (by decide) ?_
    refine xWp.gb rfl trivial rfl (fun h => absurd h (by decide)) (fun _ => ?_)
    have h7 : Rel N C q t x (sI y 7 (nI 0)) := h
    exact xWp.gf rfl ⟨in_nI (by omega) (by omega), trivial⟩ rfl (Or.inl rfl) ⟨sI y 7 (nI 0), _, rfl, rfl, fun _ => by rw [e1]; exact congrFun h.2.2.1.2.2.2.2.2.2 k, rfl, N, C, q, t, by omega, h⟩
set_option maxHeartbeats 4000000 in
theorem op_namedBy {T : Nat} (h : Rel N C q t x y) (hT : t + 100 ≤ T) (c : Int32) : opR k_X2_namedBy k_X3_namedBy [.int c] esO T x y := by
  have hN := h.1.n
  have hC := h.1.c
  have n0 := h.2.1.1
  have n2 := h.2.1.2.2.1
  cases hc : inB c (nI C)
  · refine opR.thr (e := 2) (code := 1) h (by omega) rfl (by omega) (fun _ _ => c_namedBy_2 h.1.wf hc) (fun x0 o => ⟨nI 0, ?_⟩)
    refine xWp.gc rfl trivial rfl (m_isChange 17 n2 hC c) (by decide) ?_
    rw [hc]
    refine xWp.gc rfl trivial rfl (m_goes _ false true true) (by decide) ?_
    refine xWp.gb rfl trivial rfl (fun _ => ?_) (fun h => absurd (by decide) h)
    exact xWp.gf rfl trivial rfl (Or.inl rfl) ⟨rfl, rfl⟩
  · obtain ⟨k, hk, rfl⟩ := inB_ok hc (by omega)
    have e1 : (nI k).toNatClampNeg = k := cl_nI (by omega)
    refine opR.ok (fun _ _ => c_namedBy h.1.wf hk) (fun x0 o => ?_)
    refine xWp.gc rfl trivial rfl (m_isChange 17 n2 hC _) (by decide) ?_
    rw [hc]
    refine xWp.gc rfl trivial rfl (m_goes _ true true true) (by decide) ?_
    refine xWp.gb rfl trivial rfl (fun h => absurd h (by decide)) (fun _ => ?_)
    have h7 : Rel N C q t x (sI y 7 (nI 0)) := h
    refine xWp.gc rfl trivial rfl (m_namedByNow 17 h7.rd (c := k) (by omega)) (by decide) ?_
    exact xWp.gf rfl trivial rfl (Or.inl rfl) (opP.mk h7 (by omega) rfl)
set_option maxHeartbeats 4000000 in
theorem op_canMove {T : Nat} (h : Rel N C q t x y) (hT : t + 100 ≤ T) (c : Int32) : opR k_X2_canMove k_X3_canMove [.int c] esO T x y := by
  have hN := h.1.n
  have hC := h.1.c
  have n0 := h.2.1.1
  have n2 := h.2.1.2.2.1
  cases hc : inB c (nI N)
  · refine opR.thr (e := 2) (code := 1) h (by omega) rfl (by omega) (fun _ _ => c_canMove_2 h.1.wf hc) (fun x0 o => ⟨nI 0, ?_⟩)
    refine xWp.gc rfl trivial rfl (m_isCard 17 n0 hN c) (by decide) ?_
    rw [hc]
    refine xWp.gc rfl trivial rfl (m_goes _ false true true) (by decide) ?_
    refine xWp.gb rfl trivial rfl (fun _ => ?_) (fun h => absurd (by decide) h)
    exact xWp.gf rfl trivial rfl (Or.inr (Or.inl rfl)) ⟨rfl, rfl⟩
  · obtain ⟨k, hk, rfl⟩ := inB_ok hc (by omega)
    have e1 : (nI k).toNatClampNeg = k := cl_nI (by omega)
    refine opR.ok (fun _ _ => c_canMove h.1 hk) (fun x0 o => ?_)
    refine xWp.gc rfl trivial rfl (m_isCard 17 n0 hN _) (by decide) ?_
    rw [hc]
    refine xWp.gc rfl trivial rfl (m_goes _ true true true) (by decide) ?_
    refine xWp.gb rfl trivial rfl (fun h => absurd h (by decide)) (fun _ => ?_)
    have h7 : Rel N C q t x (sI y 7 (nI 0)) := h
    refine xWp.gc rfl trivial rfl (m_isMovable 16 h7 hk) (by decide) ?_
    cases hm : cMov x N C k
    · refine xWp.gb rfl trivial rfl (fun _ => ?_) (fun h => absurd (by decide) h)
      exact xWp.gf rfl trivial rfl (Or.inr (Or.inl rfl)) (opP.mk h7 (by omega) rfl)
    · refine xWp.gb rfl trivial rfl (fun h => absurd h (by decide)) (fun _ => ?_)
      exact xWp.gf rfl trivial rfl (Or.inr (Or.inr rfl)) (opP.mk h7 (by omega) rfl)
set_option maxHeartbeats 4000000 in
theorem op_lacks {T : Nat} (h : Rel N C q t x y) (hT : t + 100 ≤ T) (c : Int32) : opR k_X2_lacks k_X3_lacks [.int c] esO T x y := by
  have hN := h.1.n
  have hC := h.1.c
  have n0 := h.2.1.1
  have n2 := h.2.1.2.2.1
  cases hc : inB c (nI N)
  · refine opR.thr (e := 2) (code := 1) h (by omega) rfl (by omega) (fun _ _ => c_lacks_2 h.1.wf hc) (fun x0 o => ⟨nI 0, ?_⟩)
    refine xWp.gc rfl trivial rfl (m_isCard 17 n0 hN c) (by decide) ?_
    rw [hc]
    refine xWp.gc rfl trivial rfl (m_goes _ false true true) (by decide) ?_
    refine xWp.gb rfl trivial rfl (fun _ => ?_) (fun h => absurd (by decide) h)
    exact xWp.gf rfl trivial rfl (Or.inl rfl) ⟨rfl, rfl⟩
  · obtain ⟨k, hk, rfl⟩ := inB_ok hc (by omega)
    have e1 : (nI k).toNatClampNeg = k := cl_nI (by omega)
    refine opR.ok (fun _ _ => c_lacks h.1.wf hk) (fun x0 o => ?_)
    refine xWp.gc rfl trivial rfl (m_isCard 17 n0 hN _) (by decide) ?_
    rw [hc]
    refine xWp.gc rfl trivial rfl (m_goes _ true true true) (by decide) ?_
    refine xWp.gb rfl trivial rfl (fun h => absurd h (by decide)) (fun _ => ?_)
    have h7 : Rel N C q t x (sI y 7 (nI 0)) := h
    refine xWp.gc rfl trivial rfl (m_lacksOf 17 h7.rd h7.2.2.1.2.2.2.2.2.2 (k := k) (by omega)) (by decide) ?_
    have e : fb_ct (bt (x.2 3 k &&& (cAll x C (nI 2) ^^^ -1))) 32 = fb_ct (xLk x k) C := by
      have hb : ∀ i, i < 32 → bt (x.2 3 k &&& (cAll x C (nI 2) ^^^ -1)) i = (bt (x.2 3 k) i && !(bt (cAll x C (nI 2)) i)) := fun i hi => by rw [b_and, b_xor, b_m1 i hi, Bool.xor_true]
      rw [ct_bits (C := C) (fun i hi => by
        rw [b_and, Bool.and_eq_true] at hi
        exact (h.1.2.2.1.2.2.1 k i hi.1).2) (by omega)]
      refine fb_ct_cong (fun i hi => ?_)
      rw [hb i (by omega)]
      unfold xLk
      congr 1
      rw [Bool.eq_iff_iff, Bool.not_eq_true', decide_eq_true_eq]
      constructor
      · intro z z2
        rw [(bt_all hC (nI 2) i).mpr ⟨hi, z2⟩] at z
        cases z
      · intro z
        cases e : bt (cAll x C (nI 2)) i
        · rfl
        · exact absurd ((bt_all hC (nI 2) i).mp e).2 z
    rw [e]
    exact xWp.gf rfl trivial rfl (Or.inl rfl) (opP.mk h7 (by omega) rfl)
set_option maxHeartbeats 4000000 in
theorem op_cardsIn {T : Nat} (h : Rel N C q t x y) (hT : t + 100 ≤ T) (c : Int32) : opR k_X2_cardsIn k_X3_cardsIn [.int c] esO T x y := by
  have hN := h.1.n
  have hi := fun w => m_in 18 c (nI 0) (nI 4) (w := w)
  cases hc : inR c (nI 0) (nI 4)
  · rw [hc] at hi
    refine opR.thr (e := 2) (code := 1) h (by omega) rfl (by omega) (fun _ _ => c_cardsIn_2 (inR_no hc)) (fun x0 o => ⟨nI 0, ?_⟩)
    refine xWp.gc rfl trivial rfl (hi _) (by decide) ?_
    refine xWp.gc rfl trivial rfl (m_goes _ false true true) (by decide) ?_
    refine xWp.gb rfl trivial rfl (fun _ => ?_) (fun h => absurd (by decide) h)
    exact xWp.gf rfl trivial rfl (Or.inl rfl) ⟨rfl, rfl⟩
  · rw [hc] at hi
    obtain ⟨v1, v2⟩ := inR_iff.mp hc
    obtain ⟨j, hj, rfl⟩ := nI_of2 (M := nI 4) (n := 4) rfl v1 v2
    have h7 : Rel N C q t x (sI y 7 (nI 0)) := h
    refine opR.ok (fun _ _ => c_cardsIn h.1.wf hj) (fun x0 o => ?_)
    refine xWp.gc rfl trivial rfl (hi _) (by decide) ?_
    refine xWp.gc rfl trivial rfl (m_goes _ true true true) (by decide) ?_
    refine xWp.gb rfl trivial rfl (fun h => absurd h (by decide)) (fun _ => ?_)
    refine xWp.gc rfl trivial rfl (m_count 18 h7.rd (nI j)) (by decide) ?_
    exact xWp.gf rfl trivial rfl (Or.inl rfl) (opP.mk h7 (by omega) rfl)
def xAd (x : xX) (col : Int32) (k j : Nat) : Bool := decide (x.2 1 j = col) && cLs x j k
set_option maxHeartbeats 4000000 in
theorem m_ahead (h : Rel N C q t x y) {R : xR → xW → Prop} (col p kn its : Int32) {k : Nat} (hk : k < N) (hR : ∀ z8, xAt k_X3_cardAt 19 R (162, [some (.ref 15), some (.int col), some (.int p), some (.int kn), some (.int its), some (.int (nI k)), some (.int (nI (fb_ct (xAd x col k) N))), some (.int (nI N)), z8], [], wW x0 y o, 0)) : ∀ m j z8, j + m = N → xAt k_X3_cardAt 19 R (63, [some (.ref 15), some (.int col), some (.int p), some (.int kn), some (.int its), some (.int (nI k)), some (.int (nI (fb_ct (xAd x col k) j))), some (.int (nI j)), z8], [], wW x0 y o, 0) := by
  obtain ⟨hn, hN, -, -, hcol, -⟩ := h.rd
  have r0 := h.2.2.1.1
  intro m
  induction m with
  | zero =>
    intro j z8 hj
    have ej : j = N := by omega
    subst ej
    refine xWp.gb rfl trivial rfl (fun _ => hR z8) (fun h9 => ?_)
    have h9' : ¬ y.1 0 ≤ nI j := h9
    rw [hn, le_nI (by omega) (by omega)] at h9'
    omega
  | succ m ih =>
    intro j z8 hj
    refine xWp.gb rfl trivial rfl (fun h9 => ?_) (fun _ => ?_)
    · have h9' : y.1 0 ≤ nI j := h9
      rw [hn, le_nI (by omega) (by omega)] at h9'
      omega
    have mid : ∀ b : Bool, b = cLs x j k → xAt k_X3_cardAt 19 R (128, [some (.ref 15), some (.int col), some (.int p), some (.int kn), some (.int its), some (.int (nI k)), some (.int (nI (fb_ct (xAd x col k) j))), some (.int (nI j)), z8], [.int (bI b)], wW x0 y o, 0) := fun b eb => by
      have no : xAd x col k j = false → xAt k_X3_cardAt 19 R (152, [some (.ref 15), some (.int col), some (.int p), some (.int kn), some (.int its), some (.int (nI k)), some (.int (nI (fb_ct (xAd x col k) j))), some (.int (nI j)), some (.int (bI b))], [.int (nI (fb_ct (xAd x col k) j))], wW x0 y o, 0) := fun e => by
        have h9 := ih (j + 1) (some (.int (bI b))) (by omega)
        rw [fb_ct_succ, e, nI_s j] at h9
        have h99 : xAt k_X3_cardAt 19 R (63, [some (.ref 15), some (.int col), some (.int p), some (.int kn), some (.int its), some (.int (nI k)), some (.int (nI (fb_ct (xAd x col k) j))), some (.int (nI j + xk 1 0)), some (.int (bI b))], [], wW x0 y o, 0) := h9
        rw [← nI_z (fb_ct (xAd x col k) j)] at h99
        exact xWp.go 63 rfl trivial h99
      refine xWp.gb rfl ⟨in_nI (by omega) (by omega), trivial⟩ rfl (fun h1 => ?_) (fun h1 => ?_)
      · have h1' : y.2 1 (nI j).toNatClampNeg = col := h1
        rw [cl_nI (by omega), hcol] at h1'
        refine xWp.gb rfl trivial rfl (fun hb => ?_) (fun hb => ?_)
        · rw [bI_0] at hb
          exact no (by unfold xAd; rw [← eb, hb, Bool.and_false])
        · rw [bI_0, Bool.not_eq_false] at hb
          have e : xAd x col k j = true := by unfold xAd; rw [← eb, hb]; simp [h1']
          have h9 := ih (j + 1) (some (.int (bI b))) (by omega)
          rw [fb_ct_succ, e, nI_s j] at h9
          have h99 : xAt k_X3_cardAt 19 R (63, [some (.ref 15), some (.int col), some (.int p), some (.int kn), some (.int its), some (.int (nI k)), some (.int (nI (fb_ct (xAd x col k) j + 1))), some (.int (nI j + xk 1 0)), some (.int (bI b))], [], wW x0 y o, 0) := h9
          rw [nI_s (fb_ct (xAd x col k) j)] at h99
          exact xWp.go 63 rfl trivial h99
      · have h1' : ¬ y.2 1 (nI j).toNatClampNeg = col := h1
        rw [cl_nI (by omega), hcol] at h1'
        exact no (by unfold xAd; simp [h1'])
    refine xWp.gb rfl ⟨in_nI (by omega) (by omega), in_nI (by omega) (by omega), trivial⟩ rfl (fun h1 => ?_) (fun h1 => ?_)
    · have h1' : y.2 0 (nI k).toNatClampNeg < y.2 0 (nI j).toNatClampNeg := h1
      rw [cl_nI (k := k) (by omega), cl_nI (k := j) (by omega), r0] at h1'
      refine xWp.go 128 rfl trivial ?_
      exact mid true (cLs_iff.mpr (Or.inl h1')).symm
    · have h1' : ¬ y.2 0 (nI k).toNatClampNeg < y.2 0 (nI j).toNatClampNeg := h1
      rw [cl_nI (k := k) (by omega), cl_nI (k := j) (by omega), r0] at h1'
      have ng : (¬ (x.2 0 j = x.2 0 k ∧ x.2 2 j < x.2 2 k)) → false = cLs x j k := fun hz => by
        cases e : cLs x j k
        · rfl
        · exact absurd (cLs_iff.mp e) (fun z => z.elim h1' hz)
      refine xWp.gb rfl ⟨in_nI (by omega) (by omega), in_nI (by omega) (by omega), trivial⟩ rfl (fun h2 => ?_) (fun h2 => ?_)
      · have h2' : y.2 0 (nI j).toNatClampNeg = y.2 0 (nI k).toNatClampNeg := h2
        rw [cl_nI (k := j) (by omega), cl_nI (k := k) (by omega), r0] at h2'
        refine xWp.gb rfl ⟨in_nI (by omega) (by omega), in_nI (by omega) (by omega), trivial⟩ rfl (fun h3 => ?_) (fun h3 => ?_)
        · have h3' : y.2 2 (nI k).toNatClampNeg ≤ y.2 2 (nI j).toNatClampNeg := h3
          rw [cl_nI (k := j) (by omega), cl_nI (k := k) (by omega), came_le h (by omega) (by omega)] at h3'
          refine xWp.go 128 rfl trivial ?_
          exact mid false (ng (fun z => h3' z.2))
        · have h3' : ¬ y.2 2 (nI k).toNatClampNeg ≤ y.2 2 (nI j).toNatClampNeg := h3
          rw [cl_nI (k := j) (by omega), cl_nI (k := k) (by omega), came_le h (by omega) (by omega), Decidable.not_not] at h3'
          refine xWp.go 128 rfl trivial ?_
          exact mid true (cLs_iff.mpr (Or.inr ⟨h2', h3'⟩)).symm
      · have h2' : ¬ y.2 0 (nI j).toNatClampNeg = y.2 0 (nI k).toNatClampNeg := h2
        rw [cl_nI (k := j) (by omega), cl_nI (k := k) (by omega), r0] at h2'
        refine xWp.go 128 rfl trivial ?_
        exact mid false (ng (fun z => h2' z.1))
set_option maxHeartbeats 4000000 in
theorem op_cardAt {T : Nat} (h : Rel N C q t x y) (hT : t + 100 ≤ T) (c p : Int32) : opR k_X2_cardAt k_X3_cardAt [.int c, .int p] esO T x y := by
  have hN := h.1.n
  obtain ⟨hn, -, -, -, hcol, -⟩ := h.rd
  have hi := fun w => m_in 18 c (nI 0) (nI 4) (w := w)
  have bad : ∀ x0 o, xAt k_X3_cardAt 19 (xIs (.inl (some (.int (nI 0)))) (wW x0 (sI y 7 (nI 1)) o)) (28, [some (.ref 15), some (.int c), some (.int p), none, none, none, none, none, none], [], wW x0 y o, 0) := fun x0 o => by
    refine xWp.gc rfl trivial rfl (m_goes _ false true true) (by decide) ?_
    refine xWp.gb rfl trivial rfl (fun _ => ?_) (fun h => absurd (by decide) h)
    exact xWp.gf rfl trivial rfl (Or.inl rfl) ⟨rfl, rfl⟩
  cases hc : inR c (nI 0) (nI 4)
  · rw [hc] at hi
    refine opR.thr (e := 2) (code := 1) h (by omega) rfl (by omega) (fun _ _ => c_cardAt_2a (inR_no hc)) (fun x0 o => ⟨nI 0, ?_⟩)
    refine xWp.gc rfl trivial rfl (hi _) (by decide) ?_
    exact xWp.gb rfl trivial rfl (fun _ => bad x0 o) (fun h => absurd (by decide) h)
  rw [hc] at hi
  obtain ⟨v1, v2⟩ := inR_iff.mp hc
  obtain ⟨j, hj, rfl⟩ := nI_of2 (M := nI 4) (n := 4) rfl v1 v2
  have hs := cSz_le (x := x) (N := N) (nI j)
  have hin := fun w => m_in 18 p (nI 0) (nI (cSz x N (nI j)) - nI 1) (w := w)
  rw [inR_pre (by omega)] at hin
  cases hp : inB p (nI (cSz x N (nI j)))
  · rw [hp] at hin
    refine opR.thr (e := 2) (code := 1) h (by omega) rfl (by omega) (fun _ _ => c_cardAt_2b h.1.wf hj hp) (fun x0 o => ⟨nI 0, ?_⟩)
    refine xWp.gc rfl trivial rfl (hi _) (by decide) ?_
    refine xWp.gb rfl trivial rfl (fun h => absurd h (by decide)) (fun _ => ?_)
    refine xWp.gc rfl trivial rfl (m_count 18 h.rd (nI j)) (by decide) ?_
    refine xWp.gc rfl trivial rfl (hin _) (by decide) ?_
    exact xWp.gb rfl trivial rfl (fun _ => bad x0 o) (fun h => absurd (by decide) h)
  rw [hp] at hin
  obtain ⟨p, hps, rfl⟩ := inB_ok hp (by omega)
  obtain ⟨k0, hk0, hck0, hah0⟩ := h.1.at (col := nI j) hps
  have h7 : Rel N C q t x (sI y 7 (nI 0)) := h
  refine opR.ok (fun _ _ => c_cardAt h.1 hj hk0 hck0 hah0 hps) (fun x0 o => ?_)
  refine xWp.gc rfl trivial rfl (hi _) (by decide) ?_
  refine xWp.gb rfl trivial rfl (fun h => absurd h (by decide)) (fun _ => ?_)
  refine xWp.gc rfl trivial rfl (m_count 18 h.rd (nI j)) (by decide) ?_
  refine xWp.gc rfl trivial rfl (hin _) (by decide) ?_
  refine xWp.gb rfl trivial rfl (fun h => absurd h (by decide)) (fun _ => ?_)
  refine xWp.gc rfl trivial rfl (m_goes _ true true true) (by decide) ?_
  refine xWp.gb rfl trivial rfl (fun h => absurd h (by decide)) (fun _ => ?_)
  have fin : opP x T 0 (nI k0) x0 o (.inl (some (.int (nI k0)))) (wW x0 (sI y 7 (nI 0)) o) := opP.mk h7 (by omega) rfl
  have hn7 : (sI y 7 (nI 0)).1 0 = nI N := hn
  have hcol7 : (sI y 7 (nI 0)).2 1 = x.2 1 := hcol
  refine xWp.go 48 rfl trivial ?_
  show xAt k_X3_cardAt 19 (opP x T 0 (nI k0) x0 o) (48, [some (.ref 15), some (.int (nI j)), some (.int (nI p)), some (.int (nI 1)), some (.int (nI (if k0 < 0 then k0 else 0))), some (.int (nI 0)), none, none, none], [], wW x0 (sI y 7 (nI 0)) o, 0)
  generalize sI y 7 (nI 0) = y1 at h7 fin hn7 hcol7 ⊢
  have key : ∀ m k z6 z7 z8, k + m = N → xAt k_X3_cardAt 19 (opP x T 0 (nI k0) x0 o) (48, [some (.ref 15), some (.int (nI j)), some (.int (nI p)), some (.int (nI 1)), some (.int (nI (if k0 < k then k0 else 0))), some (.int (nI k)), z6, z7, z8], [], wW x0 y1 o, 0) := by
    intro m
    induction m with
    | zero =>
      intro k z6 z7 z8 hk
      have ek : k = N := by omega
      subst ek
      rw [if_pos hk0]
      refine xWp.gb rfl trivial rfl (fun _ => ?_) (fun h9 => ?_)
      · exact xWp.gf rfl trivial rfl (Or.inl rfl) fin
      · have h9' : ¬ y1.1 0 ≤ nI k := h9
        rw [hn7, le_nI (by omega) (by omega)] at h9'
        omega
    | succ m ih =>
      intro k z6 z7 z8 hk
      have hkN : k < N := by omega
      refine xWp.gb rfl trivial rfl (fun h9 => ?_) (fun _ => ?_)
      · have h9' : y1.1 0 ≤ nI k := h9
        rw [hn7, le_nI (by omega) (by omega)] at h9'
        omega
      refine xWp.go 63 rfl trivial ?_
      refine m_ahead h7 (nI j) (nI p) (nI 1) (nI (if k0 < k then k0 else 0)) hkN (fun z8 => ?_) N 0 z8 (by omega)
      have hle := fb_ct_le (xAd x (nI j) k) N
      have other : k ≠ k0 → (if k0 < k + 1 then k0 else 0) = (if k0 < k then k0 else 0) := fun e => by
        by_cases e2 : k0 < k
        · rw [if_pos e2, if_pos (by omega)]
        · rw [if_neg e2, if_neg (by omega)]
      have keep : k ≠ k0 → xAt k_X3_cardAt 19 (opP x T 0 (nI k0) x0 o) (184, [some (.ref 15), some (.int (nI j)), some (.int (nI p)), some (.int (nI 1)), some (.int (nI (if k0 < k then k0 else 0))), some (.int (nI k)), some (.int (nI (fb_ct (xAd x (nI j) k) N))), some (.int (nI N)), z8], [], wW x0 y1 o, 0) := fun e => by
        have h9 := ih (k + 1) (some (.int (nI (fb_ct (xAd x (nI j) k) N)))) (some (.int (nI N))) z8 (by omega)
        rw [other e, nI_s k] at h9
        exact xWp.go 48 rfl trivial h9
      refine xWp.gb rfl ⟨in_nI (by omega) (by omega), trivial⟩ rfl (fun h1 => ?_) (fun h1 => ?_)
      · have h1' : y1.2 1 (nI k).toNatClampNeg = nI j := h1
        rw [cl_nI (by omega), hcol7] at h1'
        have eah : fb_ct (xAd x (nI j) k) N = cAh x N k := by rw [cAh_eq h1']; rfl
        refine xWp.gb rfl trivial rfl (fun h2 => ?_) (fun h2 => ?_)
        · have h2' : nI (fb_ct (xAd x (nI j) k) N) = nI p := h2
          rw [eq_nI (by omega) (by omega), eah] at h2'
          have ek : k = k0 := h.1.one hkN hk0 h1' hck0 (by rw [h2', hah0])
          have h9 := ih (k + 1) (some (.int (nI (fb_ct (xAd x (nI j) k) N)))) (some (.int (nI N))) z8 (by omega)
          rw [if_pos (by omega), ← ek, nI_s k] at h9
          rw [← ek]
          exact xWp.go 48 rfl trivial h9
        · have h2' : ¬ nI (fb_ct (xAd x (nI j) k) N) = nI p := h2
          rw [eq_nI (by omega) (by omega), eah] at h2'
          exact keep (fun e => h2' (by rw [e]; exact hah0))
      · have h1' : ¬ y1.2 1 (nI k).toNatClampNeg = nI j := h1
        rw [cl_nI (by omega), hcol7] at h1'
        exact keep (fun e => h1' (by rw [e]; exact hck0))
  exact key N 0 none none none (by omega)
end O8
