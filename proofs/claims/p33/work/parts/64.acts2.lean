/-! the law acts: a limit, a move -/
section LAb
variable {sc : Option (Nat × (Nat → Int32))} {x xc : xX} {y : lY} {N C : Nat} {q od : List Nat} {t : Nat}
set_option maxHeartbeats 16000000 in
theorem l_aLim (h : LR N C q od t x y) {T : Nat} (hT : t + 40 ≤ T) (hT2 : T + 80 ≤ 1000000) {zz : Nat} (hz : zz < 2 ^ 31) (a8 a9 a10 a11 a12 : Option Value) : aA sc T 590 (aL 19 zz a8 a9 a10 a11 a12) [] x y 0 := by
  have hN := h.n
  have n3 : ¬ xk 3 0 = 0 := by decide
  have n2 : ¬ xk 2 0 = 0 := by decide
  have n9 : ¬ xk 9 0 = 0 := by decide
  have ea : xk 1 0 + (nI zz - nI zz / xk 3 0 * xk 3 0) = nI (zz % 3 + 1) := by
    have e : nI zz - nI zz / xk 3 0 * xk 3 0 = nI (zz % 3) := pk_rem hz (by omega) (by omega)
    rw [e, xk_nI, Nat.add_comm]
  have ga : vp_in (xk 3 0 + (xk 1 0 + (nI zz - nI zz / xk 3 0 * xk 3 0))) 7 := by rw [ea]; exact inA (by omega) (by omega)
  have eia : (xk 3 0 + (xk 1 0 + (nI zz - nI zz / xk 3 0 * xk 3 0))).toNatClampNeg = 3 + (zz % 3 + 1) := by rw [ea, xk_nI]; exact cl_nI (by omega)
  have eh : y 4 (xk 3 0 + (xk 1 0 + (nI zz - nI zz / xk 3 0 * xk 3 0))).toNatClampNeg = x.2 6 (zz % 3 + 1) := by rw [eia, h.lim (by omega) (by omega)]
  have e3 : nI zz / xk 3 0 = nI (zz / 3) := pk_div hz (by omega) (by omega)
  -- the end, with a limit that is known
  have fin : ∀ (l : Nat) (d : Nat) (V : Int32), V = nI l → 1 ≤ l → l ≤ 9 → (∀ Y x1, xCW sc 22 k_X2_setLimit [.ref 0, .int (nI (zz % 3 + 1)), .int V] (wY x Y []) (xIs (.inl (some (.int (x.2 6 (zz % 3 + 1))))) (wY x1 Y [])) → (∃ q od t', t' ≤ T ∧ LR N C q od t' x1 Y) → aA sc T 667 (aL 19 zz a8 a9 (some (.int (nI (zz % 3 + 1)))) (some (.int (x.2 6 (zz % 3 + 1)))) a12) [] x Y 0) → aA sc T 634 (aL 19 zz a8 a9 (some (.int (nI (zz % 3 + 1)))) (some (.int (x.2 6 (zz % 3 + 1)))) a12) [] x (yS y 4 (3 + (zz % 3 + 1)) V) 0 := fun l d V hV l1 l9 hend => by
    have h2 := rLimL h (a := zz % 3 + 1) (by omega) l1 l9
    rw [hV]
    have hs1 := cSz_le (x := x) (N := N) (nI (zz % 3 + 1))
    refine l_aLimLoop (x9 := cLim x N (zz % 3 + 1) l) l1 l9 (by omega) a8 a9 a12 (fun q' od' t' y' ht' hr => ?_) (cSz x N (nI (zz % 3 + 1)) - l) (x := sA x 6 (zz % 3 + 1) (nI l)) (t := t) rfl h2 (by show upd (x.2 6) (zz % 3 + 1) (nI l) (zz % 3 + 1) = _; exact pk_us) (by omega) (by omega) rfl
    refine hend y' (cLim x N (zz % 3 + 1) l) ?_ ⟨q', od', t', ht', hr⟩
    rw [hV]
    exact xCW.up2 (c_setLimit (sc := sc) (y := wL y' ++ []) h.inv (by omega) (by omega) l1 l9 (by omega))
  by_cases hev : nI zz - nI zz / xk 2 0 * xk 2 0 = 0
  · have eV : xk 1 0 + (nI zz / xk 3 0 - nI zz / xk 3 0 / xk 3 0 * xk 3 0) = nI (1 + zz / 3 % 3) := by
      have e : nI (zz / 3) - nI (zz / 3) / xk 3 0 * xk 3 0 = nI (zz / 3 % 3) := pk_rem (by omega) (by omega) (by omega)
      rw [e3, e, xk_nI]
    have f := fin (1 + zz / 3 % 3) 0 _ eV (by omega) (by omega) (fun Y x1 hw hr => by
      obtain ⟨q', od', t', ht', hr⟩ := hr
      refine xWp.gb rfl ⟨n3, n2, trivial⟩ rfl (fun _ => ?_) (fun h9 => absurd hev h9)
      refine xWp.gc rfl ⟨n3, trivial⟩ rfl hw (by decide) ?_
      refine xWp.gb rfl trivial rfl (fun _ => ?_) (fun h9 => absurd rfl h9)
      exact xWp.gf rfl trivial rfl (Or.inr (Or.inr rfl)) (lQ.mk (x' := x1) (y' := Y) (r' := []) (lAct.mk hr ht')))
    unfold aA aL at f
    rw [← eh, ← eia, ← ea] at f
    refine xWp.gb rfl ⟨n3, ga, n3, n2, trivial⟩ rfl (fun _ => ?_) (fun h9 => absurd hev h9)
    exact xWp.go 634 rfl ⟨n3, ga, trivial⟩ f
  · have eV : xk 1 0 + (nI zz / xk 3 0 - nI zz / xk 3 0 / xk 9 0 * xk 9 0) = nI (1 + zz / 3 % 9) := by
      have e : nI (zz / 3) - nI (zz / 3) / xk 9 0 * xk 9 0 = nI (zz / 3 % 9) := pk_rem (by omega) (by omega) (by omega)
      rw [e3, e, xk_nI]
    have f := fin (1 + zz / 3 % 9) 0 _ eV (by omega) (by omega) (fun Y x1 hw hr => by
      obtain ⟨q', od', t', ht', hr⟩ := hr
      refine xWp.gb rfl ⟨n3, n2, trivial⟩ rfl (fun h9 => absurd h9 hev) (fun _ => ?_)
      refine xWp.gc rfl ⟨n9, trivial⟩ rfl hw (by decide) ?_
      refine xWp.gb rfl trivial rfl (fun _ => ?_) (fun h9 => absurd rfl h9)
      exact xWp.gf rfl trivial rfl (Or.inr (Or.inr rfl)) (lQ.mk (x' := x1) (y' := Y) (r' := []) (lAct.mk hr ht')))
    unfold aA aL at f
    rw [← eh, ← eia, ← ea] at f
    refine xWp.gb rfl ⟨n3, ga, n3, n2, trivial⟩ rfl (fun h9 => absurd h9 hev) (fun _ => ?_)
    exact xWp.go 634 rfl ⟨n9, ga, trivial⟩ f
theorem rEnqL (h : LR N C q od t x y) {c : Nat} (hc : c < C) (hs : x.2 10 c = nI 0) : q.length < 12 ∧ LR N C (q ++ [c]) od t (cEq1 x c) (yS (yS (yS y 2 (5 * c + 1) (nI 1)) 3 q.length (nI c)) 4 2 (nI q.length + nI 1)) := by
  have hi := (iEq1 h.inv hc hs).1
  have hC := h.c
  have hl := nd_len hi.1.2.2.1 (fun d hd => hi.lt hd)
  rw [List.length_append] at hl
  have hl1 : ([c] : List Nat).length = 1 := rfl
  refine ⟨by omega, h.reb hi rfl rfl (fun r h10 h11 => ?_) ?_ ?_ (fun i hi => ?_) ?_ (fun d hd => ?_) (fun d i hd hi h1 => ?_) (fun i v hv => ?_)⟩
  · show va_up (va_up x.2 10 _) 11 _ r = x.2 r
    unfold va_up
    rw [if_neg h11, if_neg h10]
  · rw [yS_a (by decide), yS_a (by decide), yS_a (by decide)]
  · rw [yS_a (by decide), yS_a (by decide), yS_a (by decide)]
  · rw [yS_i hi, yS_a (by decide), yS_a (by decide)]
  · rw [yS_s, nI_add, List.length_append]; rfl
  · rw [yS_a (by decide), yS_a (by decide)]
    show _ = upd (x.2 10) c (nI 1) d
    by_cases e : d = c
    · subst e; rw [yS_s, pk_us]
    · rw [yS_i (by omega), pk_un e, h.sta hd]
  · rw [yS_a (by decide), yS_a (by decide), yS_i (by omega)]
  · rw [yS_a (by decide)]
    rcases Nat.lt_or_ge i q.length with hi2 | hi2
    · rw [List.getElem?_append_left hi2] at hv
      rw [yS_i (by omega), yS_a (by decide)]
      exact h.qu hv
    · rw [List.getElem?_append_right hi2] at hv
      have h1 : i - q.length < 1 := (List.getElem?_eq_some_iff.mp hv).1
      have ei : i = q.length := by omega
      rw [ei, Nat.sub_self] at hv
      have : c = v := by simpa using hv
      rw [ei, yS_s, this]
set_option maxHeartbeats 16000000 in
/-- the changes that a card names come into the queue -/
theorem l_aEnq {X1 : xX} {k T zz w : Nat} {M : Int32} (hk : k < N) (hcol : X1.2 1 k = nI 3) (hM : X1.2 3 k = M) (a10 a12 : Option Value) (hP : ∀ q od y a11, LR N C q od t (cEnq X1 M C) y → aA sc T 399 (aL w zz (some (.int (nI k))) (some (.int (xk 5 0 * nI k))) a10 a11 a12) [] xc y 0) : ∀ (m i : Nat) (q od : List Nat) (y : lY), i + m = C → LR N C q od t (cEnq X1 M i) y → aA sc T 322 (aL w zz (some (.int (nI k))) (some (.int (xk 5 0 * nI k))) a10 (some (.int (nI i))) a12) [] xc y 0
  | 0, i, q, od, y, hi, h => by
    have hC := h.c
    have ei : i = C := by omega
    subst ei
    refine xWp.gb rfl ⟨inx (by omega) (by omega), trivial⟩ rfl (fun _ => ?_) (fun h9 => ?_)
    · exact hP q od y _ h
    · have h9' : ¬ y 4 1 ≤ nI i := h9
      rw [h.hC, le_nI (by omega) (by omega)] at h9'; omega
  | m + 1, i, q, od, y, hi, h => by
    have hC := h.c
    have hN := h.n
    have hq := h.q12
    have g1 : vp_in (xk 5 0 * nI k + xk 1 0) 50 := in5 (K := 10) (by omega) (by omega) (by omega)
    have g2 : vp_in (xk 5 0 * nI k + xk 2 0) 50 := in5 (K := 10) (by omega) (by omega) (by omega)
    have gi : vp_in (xk 5 0 * nI i + xk 1 0) 60 := in5 (K := 12) (by omega) (by omega) (by omega)
    have r1 := cEnq_r (x := X1) M (r := 1) (by decide) (by decide) i
    have r3 := cEnq_r (x := X1) M (r := 3) (by decide) (by decide) i
    have e1 : y 1 (xk 5 0 * nI k + xk 1 0).toNatClampNeg = nI 3 := by rw [c5 (by omega) (by omega), h.col (by omega), r1, hcol]
    have e2 : y 1 (xk 5 0 * nI k + xk 2 0).toNatClampNeg = M := by rw [c5 (by omega) (by omega), h.nam (by omega), r3, hM]
    have es : y 2 (xk 5 0 * nI i + xk 1 0).toNatClampNeg = (cEnq X1 M i).2 10 i := by rw [c5 (by omega) (by omega), h.sta (by omega)]
    have ei : (xk 5 0 * nI i + xk 1 0).toNatClampNeg = 5 * i + 1 := c5 (by omega) (by omega)
    have hlen : decide (¬ nI 30 ≤ (cEnq X1 M i).1 5) = true := by
      rw [h.inv.wf.2.2.2.2.1, decide_eq_true_eq, le_nI (by omega) (by omega)]; omega
    have en : cEnq X1 M (i + 1) = match bt M i && decide ((cEnq X1 M i).2 10 i = nI 0) && decide (¬ nI 30 ≤ (cEnq X1 M i).1 5) with
        | true => cEq1 (cEnq X1 M i) i
        | false => cEnq X1 M i := rfl
    rw [hlen, Bool.and_true] at en
    have skip : (bt M i && decide ((cEnq X1 M i).2 10 i = nI 0)) = false → aA sc T 393 (aL w zz (some (.int (nI k))) (some (.int (xk 5 0 * nI k))) a10 (some (.int (nI i))) a12) [] xc y 0 := fun e => by
      rw [e] at en
      have ih := l_aEnq hk hcol hM a10 a12 hP m (i + 1) q od y (by omega) (by rw [en]; exact h)
      unfold aA aL at ih
      rw [nI_s i] at ih
      exact xWp.go 322 rfl trivial ih
    refine xWp.gb rfl ⟨inx (by omega) (by omega), trivial⟩ rfl (fun h9 => ?_) (fun _ => ?_)
    · have h9' : y 4 1 ≤ nI i := h9
      rw [h.hC, le_nI (by omega) (by omega)] at h9'; omega
    refine xWp.gb rfl ⟨g1, trivial⟩ rfl (fun _ => ?_) (fun h9 => absurd e1 h9)
    refine xWp.gb rfl ⟨g2, trivial⟩ rfl (fun h8 => ?_) (fun h8 => ?_)
    · have h8' : y 1 (xk 5 0 * nI k + xk 2 0).toNatClampNeg >>> (nI i &&& 31) &&& nI 1 = nI 1 := h8
      rw [e2, sbit (by omega)] at h8'
      have hb : bt M i = true := by
        cases e : bt M i
        · rw [e] at h8'; exact absurd h8' (by decide)
        · rfl
      refine xWp.gb rfl ⟨gi, trivial⟩ rfl (fun h7 => ?_) (fun h7 => ?_)
      · have h7' : y 2 (xk 5 0 * nI i + xk 1 0).toNatClampNeg = nI 0 := h7
        rw [es] at h7'
        rw [hb, decide_eq_true h7'] at en
        obtain ⟨hl, h2⟩ := rEnqL h (c := i) (by omega) h7'
        have ih := l_aEnq hk hcol hM a10 a12 hP m (i + 1) _ od _ (by omega) (by rw [en]; exact h2)
        have eQ : y 4 (xk 2 0).toNatClampNeg = nI q.length := h.hQ
        have eY : yS (yS (yS y 2 (xk 5 0 * nI i + xk 1 0).toNatClampNeg (xk 1 0)) 3 (y 4 (xk 2 0).toNatClampNeg).toNatClampNeg (nI i)) 4 (xk 2 0).toNatClampNeg (y 4 (xk 2 0).toNatClampNeg + xk 1 0) = yS (yS (yS y 2 (5 * i + 1) (nI 1)) 3 q.length (nI i)) 4 2 (nI q.length + nI 1) := by
          rw [ei, eQ, cl_nI (by omega)]; rfl
        unfold aA aL at ih
        rw [nI_s i, ← eY] at ih
        refine xWp.go 322 rfl ⟨gi, inx (by omega) (by omega), ?_, inx (by omega) (by omega), inx (by omega) (by omega), trivial⟩ ih
        show vp_in (y 4 (xk 2 0).toNatClampNeg) 12
        rw [eQ]; exact in_nI hl (by omega)
      · have h7' : ¬ y 2 (xk 5 0 * nI i + xk 1 0).toNatClampNeg = nI 0 := h7
        rw [es] at h7'
        exact skip (by rw [decide_eq_false h7', Bool.and_false])
    · have h8' : ¬ y 1 (xk 5 0 * nI k + xk 2 0).toNatClampNeg >>> (nI i &&& 31) &&& nI 1 = nI 1 := h8
      rw [e2, sbit (by omega)] at h8'
      have hb : bt M i = false := by
        cases e : bt M i
        · rfl
        · rw [e] at h8'; exact absurd rfl h8'
      exact skip (by rw [hb]; rfl)
set_option maxHeartbeats 16000000 in
theorem l_aMove (h : LR N C q od t x y) {T : Nat} (hT : t + 2 ≤ T) (hT2 : T + 2 ≤ 1000000) {w zz k : Nat} (hk : k < N) (a10 a11 a12 : Option Value) : aA sc T 283 (aL w zz (some (.int (nI k))) (some (.int (xk 5 0 * nI k))) a10 a11 a12) [] x y 0 := by
  have hN := h.n
  have hC := h.c
  obtain ⟨j, hj, hcol⟩ := h.col4 k
  have g1 : vp_in (xk 5 0 * nI k + xk 1 0) 50 := in5 (K := 10) (by omega) (by omega) (by omega)
  have g2 : vp_in (xk 5 0 * nI k + xk 2 0) 50 := in5 (K := 10) (by omega) (by omega) (by omega)
  have ei : (xk 5 0 * nI k + xk 1 0).toNatClampNeg = 5 * k + 1 := c5 (by omega) (by omega)
  have e1 : y 1 (xk 5 0 * nI k + xk 1 0).toNatClampNeg = nI j := by rw [ei, h.col (by omega), hcol]
  refine xWp.gc rfl trivial rfl (l_canMove 20 h hk) (by decide) ?_
  cases hcan : cMov x N C k
  · have hw := xCW.up (w_move_1 (sc := sc) (c_move_1 (sc := sc) (y := wL y ++ []) h.inv hk hcan))
    refine xWp.gb rfl trivial rfl (fun _ => ?_) (fun h9 => absurd rfl h9)
    refine xWp.gc rfl trivial rfl hw (by decide) ?_
    refine xWp.gb rfl trivial rfl (fun _ => ?_) (fun h9 => absurd rfl h9)
    refine xWp.gb rfl trivial rfl (fun _ => ?_) (fun h9 => absurd rfl h9)
    exact xWp.gf rfl trivial rfl (Or.inr (Or.inr rfl)) (lQ.mk (x' := x) (y' := y) (r' := []) (lAct.mk h (by omega)))
  · have hj2 : j ≤ 2 := by
      rcases Nat.lt_or_ge j 3 with z | z
      · omega
      · unfold cMov at hcan
        rw [cCol_of hcol hj] at hcan
        obtain ⟨j', rfl⟩ : ∃ j', j = j' + 3 := ⟨j - 3, by omega⟩
        cases hcan
    -- the call, once the rows are as the class will be
    have fin : ∀ (q2 od2 : List Nat) (t2 : Nat) (y2 : lY) (a11 : Option Value), t2 ≤ T → LR N C q2 od2 t2 (cMv x N C k j) y2 → aA sc T 441 (aL w zz (some (.int (nI k))) (some (.int (xk 5 0 * nI k))) (some (.int (bI true))) a11 a12) [] x y2 0 := fun q2 od2 t2 y2 a11 ht2 h2 => by
      have hw := xCW.up (w_move (sc := sc) (c_move (sc := sc) (y := wL y2 ++ []) h.inv hk hcan hcol hj2 (by omega)))
      have er : (cMv x N C k j).2 1 k = y2 1 (xk 5 0 * nI k + xk 1 0).toNatClampNeg := by rw [ei, h2.col (by omega)]
      refine xWp.gc rfl trivial rfl hw (by decide) ?_
      refine xWp.gb rfl trivial rfl (fun h9 => absurd h9 (by decide)) (fun _ => ?_)
      refine xWp.gb rfl ⟨g1, trivial⟩ rfl (fun _ => ?_) (fun h9 => absurd er h9)
      exact xWp.gf rfl trivial rfl (Or.inr (Or.inr rfl)) (lQ.mk (x' := cMv x N C k j) (y' := y2) (r' := []) (lAct.mk h2 ht2))
    have hc := l_come (sc := sc) (xc := x) (r := []) 21 h hk (j := j + 1) (by omega) (by omega)
    have ea : y 1 (xk 5 0 * nI k + xk 1 0).toNatClampNeg + xk 1 0 = nI (j + 1) := by rw [e1]; exact nI_xk j 1
    rw [← ea] at hc
    refine xWp.gb rfl trivial rfl (fun h9 => absurd h9 (by decide)) (fun _ => ?_)
    refine xWp.gm rfl ⟨g1, trivial⟩ rfl hc (by decide) (fun x1 y1 r1 h6 => ?_)
    obtain ⟨k1, k2, q1, od1, h1⟩ := h6
    rw [k1, k2]
    rw [ea] at h1
    have hr1 := cShift_1 h.inv hk (j := j + 1) (by omega) (by omega)
    have c1 : (cShift x N k (nI (j + 1))).2 1 k = nI (j + 1) := by rw [hr1, pk_us]
    by_cases e2 : j = 2
    · subst e2
      have emv : cMv x N C k 2 = cOn (cEnq (cShift x N k (nI 3)) ((cShift x N k (nI 3)).2 3 k) C) C k := if_pos rfl
      refine xWp.go 322 rfl trivial ?_
      refine l_aEnq (xc := x) hk c1 rfl _ a12 (fun q3 od3 y3 a11 h3 => ?_) C 0 q1 od1 y1 (by omega) h1
      have r1 := cEnq_r (x := cShift x N k (nI 3)) ((cShift x N k (nI 3)).2 3 k) (r := 1) (by decide) (by decide) C
      have c3 : y3 1 (xk 5 0 * nI k + xk 1 0).toNatClampNeg = nI 3 := by rw [ei, h3.col (by omega), r1, c1]
      have c3' : (cEnq (cShift x N k (nI 3)) ((cShift x N k (nI 3)).2 3 k) C).2 1 k = nI 3 := by rw [r1, c1]
      have n3 : y3 1 (xk 5 0 * nI k + xk 2 0).toNatClampNeg = (cEnq (cShift x N k (nI 3)) ((cShift x N k (nI 3)).2 3 k) C).2 3 k := by rw [c5 (by omega) (by omega), h3.nam (by omega)]
      refine xWp.gb rfl ⟨g1, trivial⟩ rfl (fun _ => ?_) (fun h9 => absurd c3 h9)
      refine xWp.gc rfl ⟨g2, trivial⟩ rfl (l_withStateR 21 h3 (nI 2)) (by decide) ?_
      refine xWp.gb rfl trivial rfl (fun h8 => ?_) (fun h8 => ?_)
      · have h8' : y3 1 (xk 5 0 * nI k + xk 2 0).toNatClampNeg &&& (cAll (cEnq (cShift x N k (nI 3)) ((cShift x N k (nI 3)).2 3 k) C) C (nI 2) ^^^ -1) = 0 := h8
        rw [n3] at h8'
        have eo : cMv x N C k 2 = cPut (cEnq (cShift x N k (nI 3)) ((cShift x N k (nI 3)).2 3 k) C) k (nI 4) := by
          rw [emv]
          exact if_pos ⟨c3', by unfold cAllIn; exact decide_eq_true h8'⟩
        have hc4 := l_come (sc := sc) (xc := x) (r := []) 21 h3 hk (j := 4) (by omega) (by omega)
        rw [cShift_4, ← eo] at hc4
        refine xWp.gm rfl trivial rfl hc4 (by decide) (fun x4 y4 r4 h7 => ?_)
        obtain ⟨m1, m2, q4, od4, h4⟩ := h7
        rw [m1, m2]
        exact fin q4 od4 _ y4 _ (by omega) h4
      · have h8' : ¬ y3 1 (xk 5 0 * nI k + xk 2 0).toNatClampNeg &&& (cAll (cEnq (cShift x N k (nI 3)) ((cShift x N k (nI 3)).2 3 k) C) C (nI 2) ^^^ -1) = 0 := h8
        rw [n3] at h8'
        have eo : cMv x N C k 2 = cEnq (cShift x N k (nI 3)) ((cShift x N k (nI 3)).2 3 k) C := by
          rw [emv]
          exact if_neg (fun z => h8' (by have := z.2; unfold cAllIn at this; exact of_decide_eq_true this))
        exact fin q3 od3 (t + 1) y3 _ (by omega) (by rw [eo]; exact h3)
    · have emv : cMv x N C k j = cShift x N k (nI (j + 1)) := if_neg e2
      have c1' : ¬ y1 1 (xk 5 0 * nI k + xk 1 0).toNatClampNeg = nI 3 := by
        rw [ei, h1.col (by omega), c1, eq_nI (by omega) (by omega)]; omega
      have out : aA sc T 399 (aL w zz (some (.int (nI k))) (some (.int (xk 5 0 * nI k))) (some (.int (bI true))) (some (.int (nI 0))) a12) [] x y1 0 := by
        refine xWp.gb rfl ⟨g1, trivial⟩ rfl (fun h9 => absurd h9 c1') (fun _ => ?_)
        exact fin q1 od1 (t + 1) y1 _ (by omega) (by rw [emv]; exact h1)
      refine xWp.gb rfl ⟨inx (by omega) (by omega), trivial⟩ rfl (fun _ => out) (fun _ => ?_)
      refine xWp.gb rfl ⟨g1, trivial⟩ rfl (fun h9 => absurd h9 c1') (fun _ => out)
end LAb
