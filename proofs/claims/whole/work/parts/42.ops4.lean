/-! calls on both sides, 4: move, moveBack, setLimit, takeOut -/
section O4
variable {x x0 y : xX} {o : Nat → Int64} {N C : Nat} {q : List Nat} {t : Nat} {w : xW}
theorem cShift_1 (h : cInv N C q t x) {k j : Nat} (hk : k < N) (hj : j ≤ 4) (ht : t < 1000000) : (cShift x N k (nI j)).2 1 = upd (x.2 1) k (nI j) := by
  have hp := iPut h hk hj ht
  unfold cShift
  rw [cQn_of h.wf]
  split
  · exact (cUnq_fl hp _).2.2.2 1 (by decide) (by decide)
  · rfl
theorem cShift_r (h : cInv N C q t x) {k j : Nat} (hk : k < N) (hj : j ≤ 4) (ht : t < 1000000) {r : Nat} (h1 : r ≠ 1) (h2 : r ≠ 2) (h10 : r ≠ 10) (h11 : r ≠ 11) : (cShift x N k (nI j)).2 r = x.2 r := by
  have hp := iPut h hk hj ht
  have e : (cPut x k (nI j)).2 r = x.2 r := by
    show va_up (va_up x.2 1 _) 2 _ r = x.2 r
    unfold va_up
    rw [if_neg h2, if_neg h1]
  unfold cShift
  rw [cQn_of h.wf]
  split
  · rw [(cUnq_fl hp _).2.2.2 r h10 h11]; exact e
  · exact e
theorem m_comesJ (n : Nat) (h : Rel N C q t x y) {k j : Nat} {cc : Int32} (e : cc = nI j) (hk : k < N) (hj : j ≤ 4) (ht : t < 1000000) : xCW (n + 3) k_X3_comes [.ref 15, .int (nI k), .int cc] (wW x0 y o) (mQ none (mCome N C (t + 1) (cShift x N k (nI j)) y) x0 o) := by
  rw [e]; exact m_comes n h hk hj ht
theorem m_countJ (n : Nat) (h : mRd N C x y) {cc : Int32} {i : Nat} (e : cc = nI i) : xCW (n + 1) k_X3_count [.ref 15, .int cc] (wW x0 y o) (xIs (.inl (some (.int (nI (cSz x N (nI i)))))) (wW x0 y o)) := by
  rw [e]; exact m_count n h _
theorem cEnq_r (m : Int32) {r : Nat} (h10 : r ≠ 10) (h11 : r ≠ 11) : ∀ j, (cEnq x m j).2 r = x.2 r
  | 0 => rfl
  | j + 1 => by
    have ih := cEnq_r m h10 h11 j
    rw [cEnq]
    split
    · show va_up (va_up (cEnq x m j).2 10 _) 11 _ r = x.2 r
      unfold va_up
      rw [if_neg h11, if_neg h10]
      exact ih
    · exact ih
theorem allIn_iff (h : cInv N C q t x) (k : Nat) : cAllIn x C k = true ↔ fb_ct (xLk x k) C = 0 := by
  have hC := h.c
  have hnm := h.2.2.1.2.2.1
  unfold cAllIn
  rw [decide_eq_true_eq, and_zero, fb_ct_zero]
  constructor
  · intro h1 c hc
    unfold xLk
    cases hb : bt (x.2 3 k) c
    · rfl
    · have := h1 c (by omega) hb
      rw [b_xor, b_m1 c (by omega), Bool.xor_true, Bool.not_eq_false'] at this
      have := ((bt_all hC (nI 2) c).mp this).2
      simp [this]
  · intro h1 i hi hb
    have hc := (hnm k i hb).2
    have := h1 i hc
    unfold xLk at this
    rw [hb, Bool.true_and, decide_eq_false_iff_not, Decidable.not_not] at this
    rw [b_xor, b_m1 i hi, Bool.xor_true, (bt_all hC (nI 2) i).mpr ⟨hc, this⟩]
    rfl
theorem rEq1 {z : xX} (h : Rel N C q t z y) {c : Nat} (hc : c < C) (hs : z.2 10 c = nI 0) : Rel N C (q ++ [c]) t (cEq1 z c) (sI (sA (sA y 8 c (nI 1)) 12 q.length (nI c)) 3 (y.1 3 + nI 1)) := by
  have hi := (iEq1 h.1 hc hs).1
  obtain ⟨-, ⟨n0, n1, n2, n3, n4⟩, ⟨r0, r1, r3, r4, r6, r7, r8⟩, ⟨ra, rq⟩, s⟩ := h
  refine ⟨hi, ⟨n0, n1, n2, ?_, n4⟩, ⟨r0, r1, r3, r4, r6, r7, ?_⟩, ⟨ra, fun i v hv => ?_⟩, s⟩
  · show y.1 3 + nI 1 = nI (q ++ [c]).length
    rw [n3, nI_add, List.length_append]
    rfl
  · show upd (y.2 8) c (nI 1) = upd (z.2 10) c (nI 1)
    rw [r8]
  · show upd (y.2 12) q.length (nI c) i = nI v
    rcases Nat.lt_or_ge i q.length with hi | hi
    · rw [List.getElem?_append_left hi] at hv
      rw [pk_un (by omega)]
      exact rq i v hv
    · rw [List.getElem?_append_right hi] at hv
      by_cases e : i = q.length
      · subst e
        simp at hv
        rw [pk_us, hv]
      · rw [List.getElem?_eq_none (by simp; omega)] at hv
        cases hv
set_option maxHeartbeats 4000000 in
theorem op_move {T : Nat} (h : Rel N C q t x y) (hT : t + 100 ≤ T) (hT2 : T ≤ 1000000) (c : Int32) : opR k_X2_move k_X3_move [.int c] esI T x y := by
  have n0 := h.2.1.1
  have hN := h.1.n
  have hC := h.1.c
  have hcol := h.2.2.1.2.1
  cases hc : inB c (nI N)
  · refine opR.thr (e := 2) (code := 1) h (by omega) rfl (by omega) (fun _ _ => c_move_2 h.1.wf hc) (fun x0 o => ⟨nI 0, ?_⟩)
    refine xWp.gc rfl trivial rfl (m_isCard _ n0 hN c) (by decide) ?_
    rw [hc]
    refine xWp.gb rfl trivial rfl (fun _ => ?_) (fun h => absurd (by decide) h)
    refine xWp.gc rfl trivial rfl (m_goes _ false false true) (by decide) ?_
    refine xWp.gb rfl trivial rfl (fun _ => ?_) (fun h => absurd (by decide) h)
    exact xWp.gf rfl trivial rfl (Or.inl rfl) ⟨rfl, rfl⟩
  obtain ⟨k, hk, rfl⟩ := inB_ok hc (by omega)
  cases hm : cMov x N C k
  · refine opR.thr (e := 1) (code := 2) h (by omega) rfl (by omega) (fun _ _ => c_move_1 h.1 hk hm) (fun x0 o => ⟨nI 0, ?_⟩)
    refine xWp.gc rfl trivial rfl (m_isCard _ n0 hN _) (by decide) ?_
    rw [hc]
    refine xWp.gb rfl trivial rfl (fun h => absurd h (by decide)) (fun _ => ?_)
    refine xWp.gc rfl trivial rfl (m_isMovable _ h hk) (by decide) ?_
    rw [hm]
    refine xWp.gb rfl trivial rfl (fun _ => ?_) (fun h => absurd (by decide) h)
    refine xWp.gc rfl trivial rfl (m_goes _ true false true) (by decide) ?_
    refine xWp.gb rfl trivial rfl (fun _ => ?_) (fun h => absurd (by decide) h)
    exact xWp.gf rfl trivial rfl (Or.inl rfl) ⟨rfl, rfl⟩
  obtain ⟨j, hj, hcj⟩ := h.1.col k
  have hj2 : j ≤ 2 := by
    rcases Nat.lt_or_ge j 3 with z | z
    · omega
    · exfalso
      unfold cMov at hm
      rw [cCol_of hcj hj] at hm
      obtain ⟨i, rfl⟩ : ∃ i, j = i + 3 := ⟨j - 3, by omega⟩
      cases hm
  refine opR.ok (fun _ _ => c_move h.1 hk hm hcj hj2 (by omega)) (fun x0 o => ?_)
  refine xWp.gc rfl trivial rfl (m_isCard _ n0 hN _) (by decide) ?_
  rw [hc]
  refine xWp.gb rfl trivial rfl (fun h => absurd h (by decide)) (fun _ => ?_)
  refine xWp.gc rfl trivial rfl (m_isMovable _ h hk) (by decide) ?_
  rw [hm]
  refine xWp.gb rfl trivial rfl (fun h => absurd h (by decide)) (fun _ => ?_)
  refine xWp.gc rfl trivial rfl (m_goes _ true true true) (by decide) ?_
  refine xWp.gb rfl trivial rfl (fun h => absurd h (by decide)) (fun _ => ?_)
  have h7 : Rel N C q t x (sI y 7 (nI 0)) := h
  have ek : (nI k).toNatClampNeg = k := cl_nI (by omega)
  have earg : y.2 1 (nI k).toNatClampNeg + xk 1 0 = nI (j + 1) := by rw [ek, hcol, hcj, ← nI_s]
  refine xWp.gm rfl ⟨in_nI (by omega) (by omega), trivial⟩ rfl (m_comesJ 16 h7 earg hk (by omega) (by omega)) (by decide) (fun y1 hy1 => ?_)
  obtain ⟨⟨q1, h1⟩, kp1⟩ := hy1
  have e7 : y1.1 7 = nI 0 := by rw [kp1 7 (by omega)]; rfl
  have ec : y1.2 1 k = nI (j + 1) := by rw [h1.2.2.1.2.1, cShift_1 h.1 hk (by omega) (by omega), pk_us]
  have fin : ∀ (y2 x2 : xX) q2 t2 z3, t2 ≤ T → Rel N C q2 t2 x2 y2 → y2.1 7 = nI 0 → x2 = cMv x N C k j → xAt k_X3_move 19 (opP (cMv x N C k j) T 0 ((cMv x N C k j).2 1 k) x0 o) (132, [some (.ref 15), some (.int (nI k)), some (.int (nI 1)), z3], [], wW x0 y2 o, 0) := fun y2 x2 q2 t2 z3 ht2 hr e72 ex => by
    subst ex
    have ev : y2.2 1 (nI k).toNatClampNeg = (cMv x N C k j).2 1 k := by rw [ek, hr.2.2.1.2.1]
    exact xWp.gf rfl ⟨in_nI (by omega) (by omega), trivial⟩ rfl (Or.inl rfl) ⟨y2, _, rfl, rfl, fun _ => ev, e72, N, C, q2, t2, ht2, hr⟩
  refine xWp.gb rfl ⟨in_nI (by omega) (by omega), trivial⟩ rfl (fun h9 => ?_) (fun h9 => ?_)
  · have h9' : y1.2 1 (nI k).toNatClampNeg = nI 3 := h9
    rw [ek, ec, eq_nI (by omega) (by omega)] at h9'
    have ej : j = 2 := by omega
    subst ej
    have emv : cMv x N C k 2 = cOn (cEnq (cShift x N k (nI (2 + 1))) ((cShift x N k (nI (2 + 1))).2 3 k) C) C k := if_pos rfl
    have ecx : (cShift x N k (nI (2 + 1))).2 1 k = nI 3 := by rw [cShift_1 h.1 hk (by omega) (by omega), pk_us]
    generalize cShift x N k (nI (2 + 1)) = x1 at h1 emv ecx
    refine xWp.go 59 rfl trivial ?_
    have key : ∀ m i (z : xX) q2, i + m = C → Rel N C q2 (t + 1) (cEnq x1 (x1.2 3 k) i) z → z.1 7 = nI 0 → xAt k_X3_move 19 (opP (cMv x N C k 2) T 0 ((cMv x N C k 2).2 1 k) x0 o) (59, [some (.ref 15), some (.int (nI k)), some (.int (nI 1)), some (.int (nI i))], [], wW x0 z o, 0) := by
      intro m
      induction m with
      | zero =>
        intro i z q2 hi hr hz7
        have ei : i = C := by omega
        subst ei
        have zC : z.1 2 = nI i := hr.2.1.2.2.1
        generalize hx2 : cEnq x1 (x1.2 3 k) i = x2 at hr emv
        have ec2 : x2.2 1 k = nI 3 := by rw [← hx2, cEnq_r _ (by decide) (by decide)]; exact ecx
        refine xWp.gb rfl trivial rfl (fun _ => ?_) (fun h9 => ?_)
        · have hl := m_lacksOf (x0 := x0) (o := o) 17 hr.rd hr.2.2.1.2.2.2.2.2.2 (k := k) (by omega)
          refine xWp.gc rfl trivial rfl hl (by decide) ?_
          have hle := fb_ct_le (xLk x2 k) i
          refine xWp.gb rfl trivial rfl (fun h0 => ?_) (fun h0 => ?_)
          · have h0' : nI (fb_ct (xLk x2 k) i) = nI 0 := h0
            rw [eq_nI (by omega) (by omega)] at h0'
            have eo : cMv x N i k 2 = cPut x2 k (nI 4) := by rw [emv]; exact if_pos ⟨ec2, (allIn_iff hr.1 k).mpr h0'⟩
            refine xWp.gm rfl trivial rfl (m_comes 16 hr (j := 4) hk (by omega) (by omega)) (by decide) (fun y3 hy3 => ?_)
            obtain ⟨⟨q3, h3⟩, kp3⟩ := hy3
            rw [cShift_4] at h3
            exact fin y3 _ q3 _ _ (by omega) h3 (by rw [kp3 7 (by omega)]; exact hz7) eo.symm
          · have h0' : ¬ nI (fb_ct (xLk x2 k) i) = nI 0 := h0
            rw [eq_nI (by omega) (by omega)] at h0'
            have eo : cMv x N i k 2 = x2 := by rw [emv]; exact if_neg (fun z => h0' ((allIn_iff hr.1 k).mp z.2))
            exact fin z _ q2 _ _ (by omega) hr hz7 eo.symm
        · have h9' : ¬ z.1 2 ≤ nI i := h9
          rw [zC, le_nI (by omega) (by omega)] at h9'
          omega
      | succ m ih =>
        intro i z q2 hi hr hz7
        have zC : z.1 2 = nI C := hr.2.1.2.2.1
        have zs := hr.2.2.1.2.2.2.2.2.2
        have e3 : (cEnq x1 (x1.2 3 k) i).2 3 k = x1.2 3 k := by rw [cEnq_r _ (by decide) (by decide)]
        refine xWp.gb rfl trivial rfl (fun h9 => ?_) (fun _ => ?_)
        · have h9' : z.1 2 ≤ nI i := h9
          rw [zC, le_nI (by omega) (by omega)] at h9'
          omega
        have skip : ¬ (bt (x1.2 3 k) i = true ∧ (cEnq x1 (x1.2 3 k) i).2 10 i = nI 0) → xAt k_X3_move 19 (opP (cMv x N C k 2) T 0 ((cMv x N C k 2).2 1 k) x0 o) (112, [some (.ref 15), some (.int (nI k)), some (.int (nI 1)), some (.int (nI i))], [], wW x0 z o, 0) := fun hno => by
          have e9 : cEnq x1 (x1.2 3 k) (i + 1) = cEnq x1 (x1.2 3 k) i := by
            rw [cEnq]
            split
            · rename_i hcc
              simp only [Bool.and_eq_true, decide_eq_true_eq] at hcc
              exact absurd hcc.1 hno
            · rfl
          have h9 := ih (i + 1) z q2 (by omega) (by rw [e9]; exact hr) hz7
          rw [nI_s i] at h9
          exact xWp.go 59 rfl trivial h9
        have hnm := m_named (x0 := x0) (o := o) 18 hr.rd (k := k) (c := i) (by omega) (by omega)
        rw [e3] at hnm
        refine xWp.gc rfl trivial rfl hnm (by decide) ?_
        refine xWp.gb rfl trivial rfl (fun hb => ?_) (fun hb => ?_)
        · rw [bI_0] at hb
          exact skip (fun w => by rw [hb] at w; exact absurd w.1 (by decide))
        rw [bI_0, Bool.not_eq_false] at hb
        refine xWp.gb rfl ⟨in_nI (by omega) (by omega), trivial⟩ rfl (fun h0 => ?_) (fun h0 => ?_)
        · have h0' : z.2 8 (nI i).toNatClampNeg = nI 0 := h0
          rw [cl_nI (by omega), zs] at h0'
          obtain ⟨-, hlen⟩ := iEq1 hr.1 (c := i) (by omega) h0'
          have hr1 := rEq1 hr (c := i) (by omega) h0'
          have e9 : cEnq x1 (x1.2 3 k) (i + 1) = cEq1 (cEnq x1 (x1.2 3 k) i) i := by
            have e30 : decide (¬ nI 30 ≤ (cEnq x1 (x1.2 3 k) i).1 5) = true := by
              rw [decide_eq_true_eq, hr.1.wf.2.2.2.2.1, le_nI (by omega) (by omega)]
              omega
            rw [cEnq, hb, e30]
            simp only [h0']
            rfl
          have ei : (nI i).toNatClampNeg = i := cl_nI (by omega)
          have eq3 : (z.1 3).toNatClampNeg = q2.length := by rw [hr.2.1.2.2.2.1]; exact cl_nI (by omega)
          have hin : vp_in (z.1 3) 30 := by rw [hr.2.1.2.2.2.1]; exact in_nI hlen (by omega)
          have h9 := ih (i + 1) (sI (sA (sA z 8 i (nI 1)) 12 q2.length (nI i)) 3 (z.1 3 + nI 1)) (q2 ++ [i]) (by omega) (by rw [e9]; exact hr1) hz7
          rw [← eq3, nI_s i] at h9
          refine xWp.go 59 rfl ⟨in_nI (by omega) (by omega), hin, trivial⟩ ?_
          rw [ei]
          exact h9
        · have h0' : ¬ z.2 8 (nI i).toNatClampNeg = nI 0 := h0
          rw [cl_nI (by omega), zs] at h0'
          exact skip (fun w => h0' w.2)
    exact key C 0 y1 q1 (by omega) h1 e7
  · have h9' : ¬ y1.2 1 (nI k).toNatClampNeg = nI 3 := h9
    rw [ek, ec, eq_nI (by omega) (by omega)] at h9'
    exact fin y1 _ q1 _ _ (by omega) h1 e7 (if_neg (by omega)).symm
set_option maxHeartbeats 4000000 in
theorem op_moveBack {T : Nat} (h : Rel N C q t x y) (hT : t + 100 ≤ T) (hT2 : T ≤ 1000000) (c : Int32) : opR k_X2_moveBack k_X3_moveBack [.int c] esI T x y := by
  have n0 := h.2.1.1
  have hN := h.1.n
  have hC := h.1.c
  have hcol := h.2.2.1.2.1
  have hlim := h.2.2.1.2.2.2.2.1
  cases hc : inB c (nI N)
  · refine opR.thr (e := 2) (code := 1) h (by omega) rfl (by omega) (fun _ _ => c_moveBack_2 h.1.wf hc) (fun x0 o => ⟨nI 0, ?_⟩)
    refine xWp.gc rfl trivial rfl (m_isCard _ n0 hN c) (by decide) ?_
    rw [hc]
    refine xWp.gb rfl trivial rfl (fun _ => ?_) (fun h => absurd (by decide) h)
    refine xWp.gc rfl trivial rfl (m_goes _ false false true) (by decide) ?_
    refine xWp.gb rfl trivial rfl (fun _ => ?_) (fun h => absurd (by decide) h)
    exact xWp.gf rfl trivial rfl (Or.inl rfl) ⟨rfl, rfl⟩
  obtain ⟨k, hk, rfl⟩ := inB_ok hc (by omega)
  obtain ⟨j, hj, hcj⟩ := h.1.col k
  have ek : (nI k).toNatClampNeg = k := cl_nI (by omega)
  have eyc : y.2 1 (nI k).toNatClampNeg = nI j := by rw [ek, hcol, hcj]
  have flags : ∀ x0 o (R : xR → xW → Prop), (cBk x N j = false → xAt k_X3_moveBack 19 R (66, [some (.ref 15), some (.int (nI k)), some (.int (nI 1)), none], [], wW x0 y o, 0)) → (cBk x N j = true → xAt k_X3_moveBack 19 R (62, [some (.ref 15), some (.int (nI k)), some (.int (nI 1)), none], [], wW x0 y o, 0)) → xCW 20 k_X3_moveBack [.ref 15, .int (nI k)] (wW x0 y o) R := fun x0 o R r1 r2 => by
    refine xWp.gc rfl trivial rfl (m_isCard _ n0 hN _) (by decide) ?_
    rw [hc]
    refine xWp.gb rfl trivial rfl (fun h => absurd h (by decide)) (fun _ => ?_)
    refine xWp.go 16 rfl ⟨in_nI (by omega) (by omega), trivial⟩ ?_
    rw [eyc]
    refine xWp.gc rfl trivial rfl (m_in _ (nI j) (nI 1) (nI 3)) (by decide) ?_
    cases hr : inR (nI j) (nI 1) (nI 3)
    · refine xWp.gb rfl trivial rfl (fun _ => r1 ?_) (fun h => absurd (by decide) h)
      unfold cBk
      rcases inR_no hr with z | z
      · rw [lt_nI (by omega) (by omega)] at z
        simp [show ¬ 1 ≤ j by omega]
      · rw [le_nI (by omega) (by omega)] at z
        simp [show ¬ j ≤ 3 by omega]
    · obtain ⟨z1, z2⟩ := inR_iff.mp hr
      rw [lt_nI (by omega) (by omega)] at z1
      rw [le_nI (by omega) (by omega)] at z2
      refine xWp.gb rfl trivial rfl (fun h => absurd h (by decide)) (fun _ => ?_)
      refine xWp.go 30 rfl ⟨in_nI (by omega) (by omega), trivial⟩ ?_
      rw [eyc]
      obtain ⟨i, rfl⟩ : ∃ i, j = i + 1 := ⟨j - 1, by omega⟩
      refine xWp.gb rfl trivial rfl (fun h1 => ?_) (fun h1 => ?_)
      · have h1' : nI (i + 1) = nI 1 := h1
        rw [eq_nI (by omega) (by omega)] at h1'
        have ei : i = 0 := by omega
        subst ei
        exact r2 rfl
      · have h1' : ¬ nI (i + 1) = nI 1 := h1
        rw [eq_nI (by omega) (by omega)] at h1'
        have earg : y.2 1 (nI k).toNatClampNeg - xk 1 0 = nI i := by rw [eyc, nI_pre]
        have gin : vp_in (y.2 1 (nI k).toNatClampNeg - xk 1 0) 4 := by rw [earg]; exact in_nI (by omega) (by omega)
        refine xWp.gc rfl ⟨in_nI (by omega) (by omega), trivial⟩ rfl (m_countJ 18 h.rd earg) (by decide) ?_
        have ebk : cBk x N (i + 1) = !(cAt x N (nI i)) := by unfold cBk; simp [show i + 1 ≤ 3 by omega]
        refine xWp.gb rfl ⟨in_nI (by omega) (by omega), gin, trivial⟩ rfl (fun h2 => ?_) (fun h2 => ?_)
        · have h2' : y.2 6 (y.2 1 (nI k).toNatClampNeg - xk 1 0).toNatClampNeg ≤ nI (cSz x N (nI i)) := h2
          rw [earg, cl_nI (by omega), hlim] at h2'
          refine r1 ?_
          rw [ebk, cAt_eq (by omega) (by omega)]
          simpa using h2'
        · have h2' : ¬ y.2 6 (y.2 1 (nI k).toNatClampNeg - xk 1 0).toNatClampNeg ≤ nI (cSz x N (nI i)) := h2
          rw [earg, cl_nI (by omega), hlim] at h2'
          refine r2 ?_
          rw [ebk, cAt_eq (by omega) (by omega)]
          simpa using h2'
  cases hbk : cBk x N j
  · refine opR.thr (e := 1) (code := 2) h (by omega) rfl (by omega) (fun _ _ => c_moveBack_1 h.1 hk hcj hj hbk) (fun x0 o => ⟨nI 0, ?_⟩)
    refine flags x0 o _ (fun _ => ?_) (fun z => by rw [hbk] at z; cases z)
    refine xWp.gc rfl trivial rfl (m_goes _ true false true) (by decide) ?_
    refine xWp.gb rfl trivial rfl (fun _ => ?_) (fun h => absurd (by decide) h)
    exact xWp.gf rfl trivial rfl (Or.inl rfl) ⟨rfl, rfl⟩
  · have hb2 := hbk
    unfold cBk at hb2
    simp only [Bool.and_eq_true, decide_eq_true_eq, Bool.not_eq_true'] at hb2
    obtain ⟨i, rfl⟩ : ∃ i, j = i + 1 := ⟨j - 1, by omega⟩
    refine opR.ok (fun _ _ => c_moveBack h.1 hk hcj (by omega) hb2.2.2 (by omega)) (fun x0 o => ?_)
    refine flags x0 o _ (fun z => by rw [hbk] at z; cases z) (fun _ => ?_)
    refine xWp.gc rfl trivial rfl (m_goes _ true true true) (by decide) ?_
    refine xWp.gb rfl trivial rfl (fun h => absurd h (by decide)) (fun _ => ?_)
    have h7 : Rel N C q t x (sI y 7 (nI 0)) := h
    have earg : y.2 1 (nI k).toNatClampNeg - xk 1 0 = nI i := by rw [eyc, nI_pre]
    refine xWp.gm rfl ⟨in_nI (by omega) (by omega), trivial⟩ rfl (m_comesJ 16 h7 earg hk (by omega) (by omega)) (by decide) (fun y1 hy1 => ?_)
    obtain ⟨⟨q1, h1⟩, kp1⟩ := hy1
    have ev : y1.2 1 (nI k).toNatClampNeg = (cShift x N k (nI i)).2 1 k := by rw [ek, h1.2.2.1.2.1]
    exact xWp.gf rfl ⟨in_nI (by omega) (by omega), trivial⟩ rfl (Or.inl rfl) ⟨y1, _, rfl, rfl, fun _ => ev, by rw [kp1 7 (by omega)]; rfl, N, C, q1, t + 1, by omega, h1⟩
end O4
