/-! the law: its loop -/
section LP
variable {x x0 x' y : xX} {o : Nat → Int64} {N C : Nat} {q : List Nat} {t : Nat} {w : xW} {L j u : Nat} {xs : Nat → Int32} {Q : xR → xW → Prop}
abbrev lwA (L : Nat) (xs : Nat → Int32) (Q : xR → xW → Prop) (s : xS) : Prop := xWp i_L_law 2100 (some (L, xs)) [] (xCW 21) Q s
abbrev lwS (pc : Nat) (i : Int32) (z5 z6 : Option Value) (stk : List Value) (w : xW) (u : Nat) : xS := (pc, [some (.ref 77), some (.ref 0), some (.ref 15), some (.ref 32), some (.int i), z5, z6], stk, w, u)
/-- the loop goes on behind a call -/
def lwK (L : Nat) (xs : Nat → Int32) (Q : xR → xW → Prop) (j : Nat) : Prop := ∀ N' C' q' t' x' y' o' u' z5 z6, Rel N' C' q' t' x' y' → t' ≤ 100 * (j + 1) → u' ≤ 3 * (j + 1) + 510 → lwA L xs Q (lwS 23 (nI (4 * (j + 1))) z5 z6 [] (wW x' y' o') u')
theorem lw_fin (K : lwK L xs Q j) {N' C' q' t' x' y' o' u' z5 z6} (hr : Rel N' C' q' t' x' y') (ht : t' ≤ 100 * (j + 1)) (hu : u' ≤ 3 * (j + 1) + 510) : lwA L xs Q (lwS 1830 (nI (4 * j)) z5 z6 [] (wW x' y' o') u') := by
  refine xWp.go 23 rfl trivial ?_
  have h9 := K N' C' q' t' x' y' o' u' z5 z6 hr ht hu
  have e4 : nI (4 * (j + 1)) = nI (4 * j) + xk 4 0 := by rw [show 4 * (j + 1) = 4 * j + 4 by omega, ← nI_add]; rfl
  rw [e4] at h9
  exact h9
theorem lw_g1 (hj : 4 * j + 4 ≤ L) (hL : L ≤ 2048) : vp_in (nI (4 * j) + xk 1 0) L := by rw [← nI_s]; exact vp_in_nI (by omega) (by omega)
theorem lw_g2 (hj : 4 * j + 4 ≤ L) (hL : L ≤ 2048) : vp_in (nI (4 * j) + xk 2 0) L := by
  show vp_in (nI (4 * j) + nI 2) L
  rw [nI_add]; exact vp_in_nI (by omega) (by omega)
theorem lw_g3 (hj : 4 * j + 4 ≤ L) (hL : L ≤ 2048) : vp_in (nI (4 * j) + xk 3 0) L := by
  show vp_in (nI (4 * j) + nI 3) L
  rw [nI_add]; exact vp_in_nI (by omega) (by omega)
theorem cl0 : (xk 0 0).toNatClampNeg = 0 := by decide
theorem esA_le (e : Nat) : esA e ≤ 3 := by unfold esA; split <;> omega
theorem esI_le (e : Nat) : esI e ≤ 3 := by unfold esI; split <;> omega
theorem esL_le (e : Nat) : esL e ≤ 3 := by unfold esL; split <;> omega
theorem esN_le (e : Nat) : esN e ≤ 3 := by unfold esN; split <;> omega
theorem esO_le (e : Nat) : esO e ≤ 3 := by unfold esO; split <;> omega
theorem nI_code {n : Nat} (h : n ≤ 3) (e : nI n = 0) : n = 0 := (eq_nI (a := n) (b := 0) (by omega) (by omega)).mp e
set_option maxHeartbeats 4000000 in
theorem lc_card (h : Rel N C q t x y) (ht : t ≤ 100 * j) (hu : u ≤ 3 * j + 510) (hj : 4 * j + 4 ≤ L) (hL : L ≤ 2048) (K : lwK L xs Q j) (z5 z6 : Option Value) : lwA L xs Q (lwS 172 (nI (4 * j)) z5 z6 [] (wW x y o) u) := by
  obtain ⟨r, x', code, b, hc, hl, hm⟩ := op_card h (T := 100 * (j + 1)) (by omega) (by omega) (xs (nI (4 * j) + xk 1 0).toNatClampNeg)
  have hcode : code ≤ 3 := by
    rcases hl with ⟨-, rfl⟩ | ⟨e, -, rfl, -⟩
    · omega
    · exact esA_le e
  refine xWp.gw rfl ⟨lw_g1 hj hL, trivial⟩ rfl (w_card hc hl) (by omega) (fun o' ho => ?_)
  refine xWp.gp rfl ⟨lw_g1 hj hL, trivial⟩ rfl (hm x' o').up (by omega) (fun y' b2 N' C' q' t' hb2 h7 ht' hr' => ?_)
  refine xWp.gc rfl trivial rfl (m_thrown 20) (by omega) ?_
  refine xWp.gb rfl trivial rfl (fun _ => ?_) (fun h9 => absurd h7 h9)
  refine xWp.gb rfl trivial rfl (fun h0 => ?_) (fun _ => ?_)
  · have h0' := nI_code hcode h0
    refine xWp.gb rfl ⟨in_nI (k := 0) (by omega) (by omega), trivial⟩ rfl (fun _ => ?_) (fun h9 => absurd ((lg_cmp_eq _ _).mpr (by show o' (xk 0 0).toNatClampNeg = _; rw [cl0, ho h0', hb2 h0'])) h9)
    refine xWp.go 1830 rfl trivial ?_
    exact lw_fin K hr' ht' (by omega)
  · refine xWp.go 1830 rfl trivial ?_
    exact lw_fin K hr' ht' (by omega)
set_option maxHeartbeats 4000000 in
theorem lc_name (h : Rel N C q t x y) (ht : t ≤ 100 * j) (hu : u ≤ 3 * j + 510) (hj : 4 * j + 4 ≤ L) (hL : L ≤ 2048) (K : lwK L xs Q j) (z5 z6 : Option Value) : lwA L xs Q (lwS 228 (nI (4 * j)) z5 z6 [] (wW x y o) u) := by
  by_cases hv : xs (nI (4 * j) + xk 3 0).toNatClampNeg = 0
  · obtain ⟨r, x', code, b, hc, hl, hm⟩ := op_name h (T := 100 * (j + 1)) (by omega) (xs (nI (4 * j) + xk 1 0).toNatClampNeg) (xs (nI (4 * j) + xk 2 0).toNatClampNeg) false
    have hcode : code ≤ 3 := by
      rcases hl with ⟨-, rfl⟩ | ⟨e, -, rfl, -⟩
      · omega
      · exact esI_le e
    refine xWp.gb rfl ⟨lw_g1 hj hL, lw_g2 hj hL, lw_g3 hj hL, trivial⟩ rfl (fun _ => ?_) (fun h9 => absurd hv h9)
    refine xWp.gw rfl trivial rfl (w_name hc hl) (by omega) (fun o' ho => ?_)
    refine xWp.gb rfl ⟨lw_g1 hj hL, lw_g2 hj hL, lw_g3 hj hL, trivial⟩ rfl (fun _ => ?_) (fun h9 => absurd hv h9)
    refine xWp.gp rfl trivial rfl (hm x' o').up (by omega) (fun y' b2 N' C' q' t' hb2 h7 ht' hr' => ?_)
    refine xWp.gc rfl trivial rfl (m_thrown 20) (by omega) ?_
    refine xWp.gb rfl trivial rfl (fun _ => ?_) (fun h9 => absurd h7 h9)
    refine xWp.gb rfl trivial rfl (fun h0 => ?_) (fun _ => ?_)
    · have h0' := nI_code hcode h0
      refine xWp.gb rfl ⟨in_nI (k := 0) (by omega) (by omega), trivial⟩ rfl (fun _ => ?_) (fun h9 => absurd ((lg_cmp_eq _ _).mpr (by show o' (xk 0 0).toNatClampNeg = _; rw [cl0, ho h0', hb2 h0'])) h9)
      refine xWp.go 1830 rfl trivial ?_
      exact lw_fin K hr' ht' (by omega)
    · refine xWp.go 1830 rfl trivial ?_
      exact lw_fin K hr' ht' (by omega)
  · obtain ⟨r, x', code, b, hc, hl, hm⟩ := op_name h (T := 100 * (j + 1)) (by omega) (xs (nI (4 * j) + xk 1 0).toNatClampNeg) (xs (nI (4 * j) + xk 2 0).toNatClampNeg) true
    have hcode : code ≤ 3 := by
      rcases hl with ⟨-, rfl⟩ | ⟨e, -, rfl, -⟩
      · omega
      · exact esI_le e
    refine xWp.gb rfl ⟨lw_g1 hj hL, lw_g2 hj hL, lw_g3 hj hL, trivial⟩ rfl (fun h9 => absurd h9 hv) (fun _ => ?_)
    refine xWp.gw rfl trivial rfl (w_name hc hl) (by omega) (fun o' ho => ?_)
    refine xWp.gb rfl ⟨lw_g1 hj hL, lw_g2 hj hL, lw_g3 hj hL, trivial⟩ rfl (fun h9 => absurd h9 hv) (fun _ => ?_)
    refine xWp.gp rfl trivial rfl (hm x' o').up (by omega) (fun y' b2 N' C' q' t' hb2 h7 ht' hr' => ?_)
    refine xWp.gc rfl trivial rfl (m_thrown 20) (by omega) ?_
    refine xWp.gb rfl trivial rfl (fun _ => ?_) (fun h9 => absurd h7 h9)
    refine xWp.gb rfl trivial rfl (fun h0 => ?_) (fun _ => ?_)
    · have h0' := nI_code hcode h0
      refine xWp.gb rfl ⟨in_nI (k := 0) (by omega) (by omega), trivial⟩ rfl (fun _ => ?_) (fun h9 => absurd ((lg_cmp_eq _ _).mpr (by show o' (xk 0 0).toNatClampNeg = _; rw [cl0, ho h0', hb2 h0'])) h9)
      refine xWp.go 1830 rfl trivial ?_
      exact lw_fin K hr' ht' (by omega)
    · refine xWp.go 1830 rfl trivial ?_
      exact lw_fin K hr' ht' (by omega)
set_option maxHeartbeats 4000000 in
theorem lc_move (h : Rel N C q t x y) (ht : t ≤ 100 * j) (hu : u ≤ 3 * j + 510) (hj : 4 * j + 4 ≤ L) (hL : L ≤ 2048) (K : lwK L xs Q j) (z5 z6 : Option Value) : lwA L xs Q (lwS 324 (nI (4 * j)) z5 z6 [] (wW x y o) u) := by
  obtain ⟨r, x', code, b, hc, hl, hm⟩ := op_move h (T := 100 * (j + 1)) (by omega) (by omega) (xs (nI (4 * j) + xk 1 0).toNatClampNeg)
  have hcode : code ≤ 3 := by
    rcases hl with ⟨-, rfl⟩ | ⟨e, -, rfl, -⟩
    · omega
    · exact esI_le e
  refine xWp.gw rfl ⟨lw_g1 hj hL, trivial⟩ rfl (w_move hc hl) (by omega) (fun o' ho => ?_)
  refine xWp.gp rfl ⟨lw_g1 hj hL, trivial⟩ rfl (hm x' o').up (by omega) (fun y' b2 N' C' q' t' hb2 h7 ht' hr' => ?_)
  refine xWp.gc rfl trivial rfl (m_thrown 20) (by omega) ?_
  refine xWp.gb rfl trivial rfl (fun _ => ?_) (fun h9 => absurd h7 h9)
  refine xWp.gb rfl trivial rfl (fun h0 => ?_) (fun _ => ?_)
  · have h0' := nI_code hcode h0
    refine xWp.gb rfl ⟨in_nI (k := 0) (by omega) (by omega), trivial⟩ rfl (fun _ => ?_) (fun h9 => absurd ((lg_cmp_eq _ _).mpr (by show o' (xk 0 0).toNatClampNeg = _; rw [cl0, ho h0', hb2 h0'])) h9)
    refine xWp.go 1830 rfl trivial ?_
    exact lw_fin K hr' ht' (by omega)
  · refine xWp.go 1830 rfl trivial ?_
    exact lw_fin K hr' ht' (by omega)
set_option maxHeartbeats 4000000 in
theorem lc_moveBack (h : Rel N C q t x y) (ht : t ≤ 100 * j) (hu : u ≤ 3 * j + 510) (hj : 4 * j + 4 ≤ L) (hL : L ≤ 2048) (K : lwK L xs Q j) (z5 z6 : Option Value) : lwA L xs Q (lwS 380 (nI (4 * j)) z5 z6 [] (wW x y o) u) := by
  obtain ⟨r, x', code, b, hc, hl, hm⟩ := op_moveBack h (T := 100 * (j + 1)) (by omega) (by omega) (xs (nI (4 * j) + xk 1 0).toNatClampNeg)
  have hcode : code ≤ 3 := by
    rcases hl with ⟨-, rfl⟩ | ⟨e, -, rfl, -⟩
    · omega
    · exact esI_le e
  refine xWp.gw rfl ⟨lw_g1 hj hL, trivial⟩ rfl (w_moveBack hc hl) (by omega) (fun o' ho => ?_)
  refine xWp.gp rfl ⟨lw_g1 hj hL, trivial⟩ rfl (hm x' o').up (by omega) (fun y' b2 N' C' q' t' hb2 h7 ht' hr' => ?_)
  refine xWp.gc rfl trivial rfl (m_thrown 20) (by omega) ?_
  refine xWp.gb rfl trivial rfl (fun _ => ?_) (fun h9 => absurd h7 h9)
  refine xWp.gb rfl trivial rfl (fun h0 => ?_) (fun _ => ?_)
  · have h0' := nI_code hcode h0
    refine xWp.gb rfl ⟨in_nI (k := 0) (by omega) (by omega), trivial⟩ rfl (fun _ => ?_) (fun h9 => absurd ((lg_cmp_eq _ _).mpr (by show o' (xk 0 0).toNatClampNeg = _; rw [cl0, ho h0', hb2 h0'])) h9)
    refine xWp.go 1830 rfl trivial ?_
    exact lw_fin K hr' ht' (by omega)
  · refine xWp.go 1830 rfl trivial ?_
    exact lw_fin K hr' ht' (by omega)
set_option maxHeartbeats 4000000 in
theorem lc_setLimit (h : Rel N C q t x y) (ht : t ≤ 100 * j) (hu : u ≤ 3 * j + 510) (hj : 4 * j + 4 ≤ L) (hL : L ≤ 2048) (K : lwK L xs Q j) (z5 z6 : Option Value) : lwA L xs Q (lwS 436 (nI (4 * j)) z5 z6 [] (wW x y o) u) := by
  obtain ⟨r, x', code, b, hc, hl, hm⟩ := op_setLimit h (T := 100 * (j + 1)) (by omega) (by omega) (xs (nI (4 * j) + xk 1 0).toNatClampNeg) (xs (nI (4 * j) + xk 2 0).toNatClampNeg)
  have hcode : code ≤ 3 := by
    rcases hl with ⟨-, rfl⟩ | ⟨e, -, rfl, -⟩
    · omega
    · exact esL_le e
  refine xWp.gw rfl ⟨lw_g1 hj hL, lw_g2 hj hL, trivial⟩ rfl (w_setLimit hc hl) (by omega) (fun o' ho => ?_)
  refine xWp.gp rfl ⟨lw_g1 hj hL, lw_g2 hj hL, trivial⟩ rfl (hm x' o').up (by omega) (fun y' b2 N' C' q' t' hb2 h7 ht' hr' => ?_)
  refine xWp.gc rfl trivial rfl (m_thrown 20) (by omega) ?_
  refine xWp.gb rfl trivial rfl (fun _ => ?_) (fun h9 => absurd h7 h9)
  refine xWp.gb rfl trivial rfl (fun h0 => ?_) (fun _ => ?_)
  · have h0' := nI_code hcode h0
    refine xWp.gb rfl ⟨in_nI (k := 0) (by omega) (by omega), trivial⟩ rfl (fun _ => ?_) (fun h9 => absurd ((lg_cmp_eq _ _).mpr (by show o' (xk 0 0).toNatClampNeg = _; rw [cl0, ho h0', hb2 h0'])) h9)
    refine xWp.go 1830 rfl trivial ?_
    exact lw_fin K hr' ht' (by omega)
  · refine xWp.go 1830 rfl trivial ?_
    exact lw_fin K hr' ht' (by omega)
set_option maxHeartbeats 4000000 in
theorem lc_change (h : Rel N C q t x y) (ht : t ≤ 100 * j) (hu : u ≤ 3 * j + 510) (hj : 4 * j + 4 ≤ L) (hL : L ≤ 2048) (K : lwK L xs Q j) (z5 z6 : Option Value) : lwA L xs Q (lwS 504 (nI (4 * j)) z5 z6 [] (wW x y o) u) := by
  obtain ⟨r, x', code, b, hc, hl, hm⟩ := op_change h (T := 100 * (j + 1)) (by omega) (xs (nI (4 * j) + xk 1 0).toNatClampNeg)
  have hcode : code ≤ 3 := by
    rcases hl with ⟨-, rfl⟩ | ⟨e, -, rfl, -⟩
    · omega
    · exact esA_le e
  refine xWp.gw rfl ⟨lw_g1 hj hL, trivial⟩ rfl (w_change hc hl) (by omega) (fun o' ho => ?_)
  refine xWp.gp rfl ⟨lw_g1 hj hL, trivial⟩ rfl (hm x' o').up (by omega) (fun y' b2 N' C' q' t' hb2 h7 ht' hr' => ?_)
  refine xWp.gc rfl trivial rfl (m_thrown 20) (by omega) ?_
  refine xWp.gb rfl trivial rfl (fun _ => ?_) (fun h9 => absurd h7 h9)
  refine xWp.gb rfl trivial rfl (fun h0 => ?_) (fun _ => ?_)
  · have h0' := nI_code hcode h0
    refine xWp.gb rfl ⟨in_nI (k := 0) (by omega) (by omega), trivial⟩ rfl (fun _ => ?_) (fun h9 => absurd ((lg_cmp_eq _ _).mpr (by show o' (xk 0 0).toNatClampNeg = _; rw [cl0, ho h0', hb2 h0'])) h9)
    refine xWp.go 1830 rfl trivial ?_
    exact lw_fin K hr' ht' (by omega)
  · refine xWp.go 1830 rfl trivial ?_
    exact lw_fin K hr' ht' (by omega)
set_option maxHeartbeats 4000000 in
theorem lc_need (h : Rel N C q t x y) (ht : t ≤ 100 * j) (hu : u ≤ 3 * j + 510) (hj : 4 * j + 4 ≤ L) (hL : L ≤ 2048) (K : lwK L xs Q j) (z5 z6 : Option Value) : lwA L xs Q (lwS 560 (nI (4 * j)) z5 z6 [] (wW x y o) u) := by
  obtain ⟨r, x', code, b, hc, hl, hm⟩ := op_need h (T := 100 * (j + 1)) (by omega) (xs (nI (4 * j) + xk 1 0).toNatClampNeg) (xs (nI (4 * j) + xk 2 0).toNatClampNeg)
  have hcode : code ≤ 3 := by
    rcases hl with ⟨-, rfl⟩ | ⟨e, -, rfl, -⟩
    · omega
    · exact esN_le e
  refine xWp.gw rfl ⟨lw_g1 hj hL, lw_g2 hj hL, trivial⟩ rfl (w_need hc hl) (by omega) (fun o' ho => ?_)
  refine xWp.gp rfl ⟨lw_g1 hj hL, lw_g2 hj hL, trivial⟩ rfl (hm x' o').up (by omega) (fun y' b2 N' C' q' t' hb2 h7 ht' hr' => ?_)
  refine xWp.gc rfl trivial rfl (m_thrown 20) (by omega) ?_
  refine xWp.gb rfl trivial rfl (fun _ => ?_) (fun h9 => absurd h7 h9)
  refine xWp.gb rfl trivial rfl (fun h0 => ?_) (fun _ => ?_)
  · have h0' := nI_code hcode h0
    refine xWp.gb rfl ⟨in_nI (k := 0) (by omega) (by omega), trivial⟩ rfl (fun _ => ?_) (fun h9 => absurd ((lg_cmp_eq _ _).mpr (by show o' (xk 0 0).toNatClampNeg = _; rw [cl0, ho h0', hb2 h0'])) h9)
    refine xWp.go 1830 rfl trivial ?_
    exact lw_fin K hr' ht' (by omega)
  · refine xWp.go 1830 rfl trivial ?_
    exact lw_fin K hr' ht' (by omega)
set_option maxHeartbeats 4000000 in
theorem lc_setBroken (h : Rel N C q t x y) (ht : t ≤ 100 * j) (hu : u ≤ 3 * j + 510) (hj : 4 * j + 4 ≤ L) (hL : L ≤ 2048) (K : lwK L xs Q j) (z5 z6 : Option Value) : lwA L xs Q (lwS 628 (nI (4 * j)) z5 z6 [] (wW x y o) u) := by
  by_cases hv : xs (nI (4 * j) + xk 2 0).toNatClampNeg = 0
  · obtain ⟨r, x', code, b, hc, hl, hm⟩ := op_setBroken h (T := 100 * (j + 1)) (by omega) (xs (nI (4 * j) + xk 1 0).toNatClampNeg) false
    have hcode : code ≤ 3 := by
      rcases hl with ⟨-, rfl⟩ | ⟨e, -, rfl, -⟩
      · omega
      · exact esI_le e
    refine xWp.gb rfl ⟨lw_g1 hj hL, lw_g2 hj hL, trivial⟩ rfl (fun _ => ?_) (fun h9 => absurd hv h9)
    refine xWp.gw rfl trivial rfl (w_setBroken hc hl) (by omega) (fun o' ho => ?_)
    refine xWp.gb rfl ⟨lw_g1 hj hL, lw_g2 hj hL, trivial⟩ rfl (fun _ => ?_) (fun h9 => absurd hv h9)
    refine xWp.gp rfl trivial rfl (hm x' o').up (by omega) (fun y' b2 N' C' q' t' hb2 h7 ht' hr' => ?_)
    refine xWp.gc rfl trivial rfl (m_thrown 20) (by omega) ?_
    refine xWp.gb rfl trivial rfl (fun _ => ?_) (fun h9 => absurd h7 h9)
    refine xWp.gb rfl trivial rfl (fun h0 => ?_) (fun _ => ?_)
    · have h0' := nI_code hcode h0
      refine xWp.gb rfl ⟨in_nI (k := 0) (by omega) (by omega), trivial⟩ rfl (fun hz => ?_) (fun hz => ?_)
      · refine xWp.gb rfl trivial rfl (fun _ => ?_) (fun h9 => absurd ((lg_cmp_eq _ _).mpr (by show o' (xk 0 0).toNatClampNeg = _; rw [cl0, ho h0', ← hb2 h0']; exact if_pos hz)) h9)
        refine xWp.go 1830 rfl trivial ?_
        exact lw_fin K hr' ht' (by omega)
      · refine xWp.gb rfl trivial rfl (fun _ => ?_) (fun h9 => absurd ((lg_cmp_eq _ _).mpr (by show o' (xk 0 0).toNatClampNeg = _; rw [cl0, ho h0', ← hb2 h0']; exact if_neg hz)) h9)
        refine xWp.go 1830 rfl trivial ?_
        exact lw_fin K hr' ht' (by omega)
    · refine xWp.go 1830 rfl trivial ?_
      exact lw_fin K hr' ht' (by omega)
  · obtain ⟨r, x', code, b, hc, hl, hm⟩ := op_setBroken h (T := 100 * (j + 1)) (by omega) (xs (nI (4 * j) + xk 1 0).toNatClampNeg) true
    have hcode : code ≤ 3 := by
      rcases hl with ⟨-, rfl⟩ | ⟨e, -, rfl, -⟩
      · omega
      · exact esI_le e
    refine xWp.gb rfl ⟨lw_g1 hj hL, lw_g2 hj hL, trivial⟩ rfl (fun h9 => absurd h9 hv) (fun _ => ?_)
    refine xWp.gw rfl trivial rfl (w_setBroken hc hl) (by omega) (fun o' ho => ?_)
    refine xWp.gb rfl ⟨lw_g1 hj hL, lw_g2 hj hL, trivial⟩ rfl (fun h9 => absurd h9 hv) (fun _ => ?_)
    refine xWp.gp rfl trivial rfl (hm x' o').up (by omega) (fun y' b2 N' C' q' t' hb2 h7 ht' hr' => ?_)
    refine xWp.gc rfl trivial rfl (m_thrown 20) (by omega) ?_
    refine xWp.gb rfl trivial rfl (fun _ => ?_) (fun h9 => absurd h7 h9)
    refine xWp.gb rfl trivial rfl (fun h0 => ?_) (fun _ => ?_)
    · have h0' := nI_code hcode h0
      refine xWp.gb rfl ⟨in_nI (k := 0) (by omega) (by omega), trivial⟩ rfl (fun hz => ?_) (fun hz => ?_)
      · refine xWp.gb rfl trivial rfl (fun _ => ?_) (fun h9 => absurd ((lg_cmp_eq _ _).mpr (by show o' (xk 0 0).toNatClampNeg = _; rw [cl0, ho h0', ← hb2 h0']; exact if_pos hz)) h9)
        refine xWp.go 1830 rfl trivial ?_
        exact lw_fin K hr' ht' (by omega)
      · refine xWp.gb rfl trivial rfl (fun _ => ?_) (fun h9 => absurd ((lg_cmp_eq _ _).mpr (by show o' (xk 0 0).toNatClampNeg = _; rw [cl0, ho h0', ← hb2 h0']; exact if_neg hz)) h9)
        refine xWp.go 1830 rfl trivial ?_
        exact lw_fin K hr' ht' (by omega)
    · refine xWp.go 1830 rfl trivial ?_
      exact lw_fin K hr' ht' (by omega)
set_option maxHeartbeats 4000000 in
theorem lc_setClash (h : Rel N C q t x y) (ht : t ≤ 100 * j) (hu : u ≤ 3 * j + 510) (hj : 4 * j + 4 ≤ L) (hL : L ≤ 2048) (K : lwK L xs Q j) (z5 z6 : Option Value) : lwA L xs Q (lwS 719 (nI (4 * j)) z5 z6 [] (wW x y o) u) := by
  by_cases hv : xs (nI (4 * j) + xk 3 0).toNatClampNeg = 0
  · obtain ⟨r, x', code, b, hc, hl, hm⟩ := op_setClash h (T := 100 * (j + 1)) (by omega) (xs (nI (4 * j) + xk 1 0).toNatClampNeg) (xs (nI (4 * j) + xk 2 0).toNatClampNeg) false
    have hcode : code ≤ 3 := by
      rcases hl with ⟨-, rfl⟩ | ⟨e, -, rfl, -⟩
      · omega
      · exact esN_le e
    refine xWp.gb rfl ⟨lw_g1 hj hL, lw_g2 hj hL, lw_g3 hj hL, trivial⟩ rfl (fun _ => ?_) (fun h9 => absurd hv h9)
    refine xWp.gw rfl trivial rfl (w_setClash hc hl) (by omega) (fun o' ho => ?_)
    refine xWp.gb rfl ⟨lw_g1 hj hL, lw_g2 hj hL, lw_g3 hj hL, trivial⟩ rfl (fun _ => ?_) (fun h9 => absurd hv h9)
    refine xWp.gp rfl trivial rfl (hm x' o').up (by omega) (fun y' b2 N' C' q' t' hb2 h7 ht' hr' => ?_)
    refine xWp.gc rfl trivial rfl (m_thrown 20) (by omega) ?_
    refine xWp.gb rfl trivial rfl (fun _ => ?_) (fun h9 => absurd h7 h9)
    refine xWp.gb rfl trivial rfl (fun h0 => ?_) (fun _ => ?_)
    · have h0' := nI_code hcode h0
      refine xWp.gb rfl ⟨in_nI (k := 0) (by omega) (by omega), trivial⟩ rfl (fun hz => ?_) (fun hz => ?_)
      · refine xWp.gb rfl trivial rfl (fun _ => ?_) (fun h9 => absurd ((lg_cmp_eq _ _).mpr (by show o' (xk 0 0).toNatClampNeg = _; rw [cl0, ho h0', ← hb2 h0']; exact if_pos hz)) h9)
        refine xWp.go 1830 rfl trivial ?_
        exact lw_fin K hr' ht' (by omega)
      · refine xWp.gb rfl trivial rfl (fun _ => ?_) (fun h9 => absurd ((lg_cmp_eq _ _).mpr (by show o' (xk 0 0).toNatClampNeg = _; rw [cl0, ho h0', ← hb2 h0']; exact if_neg hz)) h9)
        refine xWp.go 1830 rfl trivial ?_
        exact lw_fin K hr' ht' (by omega)
    · refine xWp.go 1830 rfl trivial ?_
      exact lw_fin K hr' ht' (by omega)
  · obtain ⟨r, x', code, b, hc, hl, hm⟩ := op_setClash h (T := 100 * (j + 1)) (by omega) (xs (nI (4 * j) + xk 1 0).toNatClampNeg) (xs (nI (4 * j) + xk 2 0).toNatClampNeg) true
    have hcode : code ≤ 3 := by
      rcases hl with ⟨-, rfl⟩ | ⟨e, -, rfl, -⟩
      · omega
      · exact esN_le e
    refine xWp.gb rfl ⟨lw_g1 hj hL, lw_g2 hj hL, lw_g3 hj hL, trivial⟩ rfl (fun h9 => absurd h9 hv) (fun _ => ?_)
    refine xWp.gw rfl trivial rfl (w_setClash hc hl) (by omega) (fun o' ho => ?_)
    refine xWp.gb rfl ⟨lw_g1 hj hL, lw_g2 hj hL, lw_g3 hj hL, trivial⟩ rfl (fun h9 => absurd h9 hv) (fun _ => ?_)
    refine xWp.gp rfl trivial rfl (hm x' o').up (by omega) (fun y' b2 N' C' q' t' hb2 h7 ht' hr' => ?_)
    refine xWp.gc rfl trivial rfl (m_thrown 20) (by omega) ?_
    refine xWp.gb rfl trivial rfl (fun _ => ?_) (fun h9 => absurd h7 h9)
    refine xWp.gb rfl trivial rfl (fun h0 => ?_) (fun _ => ?_)
    · have h0' := nI_code hcode h0
      refine xWp.gb rfl ⟨in_nI (k := 0) (by omega) (by omega), trivial⟩ rfl (fun hz => ?_) (fun hz => ?_)
      · refine xWp.gb rfl trivial rfl (fun _ => ?_) (fun h9 => absurd ((lg_cmp_eq _ _).mpr (by show o' (xk 0 0).toNatClampNeg = _; rw [cl0, ho h0', ← hb2 h0']; exact if_pos hz)) h9)
        refine xWp.go 1830 rfl trivial ?_
        exact lw_fin K hr' ht' (by omega)
      · refine xWp.gb rfl trivial rfl (fun _ => ?_) (fun h9 => absurd ((lg_cmp_eq _ _).mpr (by show o' (xk 0 0).toNatClampNeg = _; rw [cl0, ho h0', ← hb2 h0']; exact if_neg hz)) h9)
        refine xWp.go 1830 rfl trivial ?_
        exact lw_fin K hr' ht' (by omega)
    · refine xWp.go 1830 rfl trivial ?_
      exact lw_fin K hr' ht' (by omega)
set_option maxHeartbeats 4000000 in
theorem lc_mend (h : Rel N C q t x y) (ht : t ≤ 100 * j) (hu : u ≤ 3 * j + 510) (hj : 4 * j + 4 ≤ L) (hL : L ≤ 2048) (K : lwK L xs Q j) (z5 z6 : Option Value) : lwA L xs Q (lwS 822 (nI (4 * j)) z5 z6 [] (wW x y o) u) := by
  obtain ⟨r, x', code, b, hc, hl, hm⟩ := op_mend h (T := 100 * (j + 1)) (by omega) (xs (nI (4 * j) + xk 1 0).toNatClampNeg)
  have hcode : code ≤ 3 := by
    rcases hl with ⟨-, rfl⟩ | ⟨e, -, rfl, -⟩
    · omega
    · exact esI_le e
  refine xWp.gw rfl ⟨lw_g1 hj hL, trivial⟩ rfl (w_mend hc hl) (by omega) (fun o' ho => ?_)
  refine xWp.gp rfl ⟨lw_g1 hj hL, trivial⟩ rfl (hm x' o').up (by omega) (fun y' b2 N' C' q' t' hb2 h7 ht' hr' => ?_)
  refine xWp.gc rfl trivial rfl (m_thrown 20) (by omega) ?_
  refine xWp.gb rfl trivial rfl (fun _ => ?_) (fun h9 => absurd h7 h9)
  refine xWp.gb rfl trivial rfl (fun h0 => ?_) (fun _ => ?_)
  · have h0' := nI_code hcode h0
    refine xWp.gb rfl ⟨in_nI (k := 0) (by omega) (by omega), trivial⟩ rfl (fun _ => ?_) (fun h9 => absurd ((lg_cmp_eq _ _).mpr (by show o' (xk 0 0).toNatClampNeg = _; rw [cl0, ho h0', hb2 h0'])) h9)
    refine xWp.go 1830 rfl trivial ?_
    exact lw_fin K hr' ht' (by omega)
  · refine xWp.go 1830 rfl trivial ?_
    exact lw_fin K hr' ht' (by omega)
set_option maxHeartbeats 4000000 in
theorem lc_takeOut (h : Rel N C q t x y) (ht : t ≤ 100 * j) (hu : u ≤ 3 * j + 510) (hj : 4 * j + 4 ≤ L) (hL : L ≤ 2048) (K : lwK L xs Q j) (z5 z6 : Option Value) : lwA L xs Q (lwS 878 (nI (4 * j)) z5 z6 [] (wW x y o) u) := by
  obtain ⟨r, x', code, b, hc, hl, hm⟩ := op_takeOut h (T := 100 * (j + 1)) (by omega) (by omega) (xs (nI (4 * j) + xk 1 0).toNatClampNeg)
  have hcode : code ≤ 3 := by
    rcases hl with ⟨-, rfl⟩ | ⟨e, -, rfl, -⟩
    · omega
    · exact esI_le e
  refine xWp.gw rfl ⟨lw_g1 hj hL, trivial⟩ rfl (w_takeOut hc hl) (by omega) (fun o' ho => ?_)
  refine xWp.gp rfl ⟨lw_g1 hj hL, trivial⟩ rfl (hm x' o').up (by omega) (fun y' b2 N' C' q' t' hb2 h7 ht' hr' => ?_)
  refine xWp.gc rfl trivial rfl (m_thrown 20) (by omega) ?_
  refine xWp.gb rfl trivial rfl (fun _ => ?_) (fun h9 => absurd h7 h9)
  refine xWp.gb rfl trivial rfl (fun h0 => ?_) (fun _ => ?_)
  · have h0' := nI_code hcode h0
    refine xWp.gb rfl ⟨in_nI (k := 0) (by omega) (by omega), trivial⟩ rfl (fun _ => ?_) (fun h9 => absurd ((lg_cmp_eq _ _).mpr (by show o' (xk 0 0).toNatClampNeg = _; rw [cl0, ho h0', hb2 h0'])) h9)
    refine xWp.go 1830 rfl trivial ?_
    exact lw_fin K hr' ht' (by omega)
  · refine xWp.go 1830 rfl trivial ?_
    exact lw_fin K hr' ht' (by omega)
set_option maxHeartbeats 4000000 in
theorem lc_merge (h : Rel N C q t x y) (ht : t ≤ 100 * j) (hu : u ≤ 3 * j + 510) (hj : 4 * j + 4 ≤ L) (hL : L ≤ 2048) (K : lwK L xs Q j) (z5 z6 : Option Value) : lwA L xs Q (lwS 934 (nI (4 * j)) z5 z6 [] (wW x y o) u) := by
  obtain ⟨r, x', code, b, hc, hl, hm⟩ := op_merge h (T := 100 * (j + 1)) (by omega) (by omega) (xs (nI (4 * j) + xk 1 0).toNatClampNeg)
  have hcode : code ≤ 3 := by
    rcases hl with ⟨-, rfl⟩ | ⟨e, -, rfl, -⟩
    · omega
    · exact esA_le e
  refine xWp.gw rfl ⟨lw_g1 hj hL, trivial⟩ rfl (w_merge hc hl) (by omega) (fun o' ho => ?_)
  refine xWp.gp rfl ⟨lw_g1 hj hL, trivial⟩ rfl (hm x' o').up (by omega) (fun y' b2 N' C' q' t' hb2 h7 ht' hr' => ?_)
  refine xWp.gc rfl trivial rfl (m_thrown 20) (by omega) ?_
  refine xWp.gb rfl trivial rfl (fun _ => ?_) (fun h9 => absurd h7 h9)
  refine xWp.gb rfl trivial rfl (fun h0 => ?_) (fun _ => ?_)
  · have h0' := nI_code hcode h0
    refine xWp.gb rfl ⟨in_nI (k := 0) (by omega) (by omega), trivial⟩ rfl (fun _ => ?_) (fun h9 => absurd ((lg_cmp_eq _ _).mpr (by show o' (xk 0 0).toNatClampNeg = _; rw [cl0, ho h0', hb2 h0'])) h9)
    refine xWp.go 1830 rfl trivial ?_
    exact lw_fin K hr' ht' (by omega)
  · refine xWp.go 1830 rfl trivial ?_
    exact lw_fin K hr' ht' (by omega)
set_option maxHeartbeats 4000000 in
theorem lc_queued (h : Rel N C q t x y) (ht : t ≤ 100 * j) (hu : u ≤ 3 * j + 510) (hj : 4 * j + 4 ≤ L) (hL : L ≤ 2048) (K : lwK L xs Q j) (z5 z6 : Option Value) : lwA L xs Q (lwS 990 (nI (4 * j)) z5 z6 [] (wW x y o) u) := by
  obtain ⟨r, x', code, b, hc, hl, hm⟩ := op_queued h (T := 100 * (j + 1)) (by omega)
  rcases hl with ⟨rfl, rfl⟩ | ⟨e, -, he, h1⟩
  · refine xWp.gc rfl trivial rfl (hc y o).up (by omega) ?_
    refine xWp.gp rfl trivial rfl (hm x' o).up (by omega) (fun y' b2 N' C' q' t' hb2 h7 ht' hr' => ?_)
    refine xWp.gb rfl trivial rfl (fun _ => ?_) (fun h9 => absurd (hb2 rfl).symm h9)
    exact lw_fin K hr' ht' (by omega)
  · have he' : 0 = code := he
    omega
set_option maxHeartbeats 4000000 in
theorem lc_queuedAt (h : Rel N C q t x y) (ht : t ≤ 100 * j) (hu : u ≤ 3 * j + 510) (hj : 4 * j + 4 ≤ L) (hL : L ≤ 2048) (K : lwK L xs Q j) (z5 z6 : Option Value) : lwA L xs Q (lwS 1003 (nI (4 * j)) z5 z6 [] (wW x y o) u) := by
  obtain ⟨r, x', code, b, hc, hl, hm⟩ := op_queuedAt h (T := 100 * (j + 1)) (by omega) (xs (nI (4 * j) + xk 1 0).toNatClampNeg)
  have hcode : code ≤ 3 := by
    rcases hl with ⟨-, rfl⟩ | ⟨e, -, rfl, -⟩
    · omega
    · exact esO_le e
  refine xWp.gw rfl ⟨lw_g1 hj hL, trivial⟩ rfl (w_queuedAt hc hl) (by omega) (fun o' ho => ?_)
  refine xWp.gp rfl ⟨lw_g1 hj hL, trivial⟩ rfl (hm x' o').up (by omega) (fun y' b2 N' C' q' t' hb2 h7 ht' hr' => ?_)
  refine xWp.gc rfl trivial rfl (m_thrown 20) (by omega) ?_
  refine xWp.gb rfl trivial rfl (fun _ => ?_) (fun h9 => absurd h7 h9)
  refine xWp.gb rfl trivial rfl (fun h0 => ?_) (fun _ => ?_)
  · have h0' := nI_code hcode h0
    refine xWp.gb rfl ⟨in_nI (k := 0) (by omega) (by omega), trivial⟩ rfl (fun _ => ?_) (fun h9 => absurd ((lg_cmp_eq _ _).mpr (by show o' (xk 0 0).toNatClampNeg = _; rw [cl0, ho h0', hb2 h0'])) h9)
    refine xWp.go 1830 rfl trivial ?_
    exact lw_fin K hr' ht' (by omega)
  · refine xWp.go 1830 rfl trivial ?_
    exact lw_fin K hr' ht' (by omega)
set_option maxHeartbeats 4000000 in
theorem lc_wouldPass (h : Rel N C q t x y) (ht : t ≤ 100 * j) (hu : u ≤ 3 * j + 510) (hj : 4 * j + 4 ≤ L) (hL : L ≤ 2048) (K : lwK L xs Q j) (z5 z6 : Option Value) : lwA L xs Q (lwS 1059 (nI (4 * j)) z5 z6 [] (wW x y o) u) := by
  obtain ⟨r, x', code, b, hc, hl, hm⟩ := op_wouldPass h (T := 100 * (j + 1)) (by omega) (xs (nI (4 * j) + xk 1 0).toNatClampNeg)
  have hcode : code ≤ 3 := by
    rcases hl with ⟨-, rfl⟩ | ⟨e, -, rfl, -⟩
    · omega
    · exact esA_le e
  refine xWp.gw rfl ⟨lw_g1 hj hL, trivial⟩ rfl (w_wouldPass hc hl) (by omega) (fun o' ho => ?_)
  refine xWp.gp rfl ⟨lw_g1 hj hL, trivial⟩ rfl (hm x' o').up (by omega) (fun y' b2 N' C' q' t' hb2 h7 ht' hr' => ?_)
  refine xWp.gc rfl trivial rfl (m_thrown 20) (by omega) ?_
  refine xWp.gb rfl trivial rfl (fun _ => ?_) (fun h9 => absurd h7 h9)
  refine xWp.gb rfl trivial rfl (fun h0 => ?_) (fun _ => ?_)
  · have h0' := nI_code hcode h0
    refine xWp.gb rfl ⟨in_nI (k := 0) (by omega) (by omega), trivial⟩ rfl (fun _ => ?_) (fun h9 => absurd ((lg_cmp_eq _ _).mpr (by show o' (xk 0 0).toNatClampNeg = _; rw [cl0, ho h0', hb2 h0'])) h9)
    refine xWp.go 1830 rfl trivial ?_
    exact lw_fin K hr' ht' (by omega)
  · refine xWp.go 1830 rfl trivial ?_
    exact lw_fin K hr' ht' (by omega)
set_option maxHeartbeats 4000000 in
theorem lc_wouldPassOneByOne (h : Rel N C q t x y) (ht : t ≤ 100 * j) (hu : u ≤ 3 * j + 510) (hj : 4 * j + 4 ≤ L) (hL : L ≤ 2048) (K : lwK L xs Q j) (z5 z6 : Option Value) : lwA L xs Q (lwS 1115 (nI (4 * j)) z5 z6 [] (wW x y o) u) := by
  obtain ⟨r, x', code, b, hc, hl, hm⟩ := op_wouldPassOneByOne h (T := 100 * (j + 1)) (by omega) (xs (nI (4 * j) + xk 1 0).toNatClampNeg)
  have hcode : code ≤ 3 := by
    rcases hl with ⟨-, rfl⟩ | ⟨e, -, rfl, -⟩
    · omega
    · exact esA_le e
  refine xWp.gw rfl ⟨lw_g1 hj hL, trivial⟩ rfl (w_wouldPassOneByOne hc hl) (by omega) (fun o' ho => ?_)
  refine xWp.gp rfl ⟨lw_g1 hj hL, trivial⟩ rfl (hm x' o').up (by omega) (fun y' b2 N' C' q' t' hb2 h7 ht' hr' => ?_)
  refine xWp.gc rfl trivial rfl (m_thrown 20) (by omega) ?_
  refine xWp.gb rfl trivial rfl (fun _ => ?_) (fun h9 => absurd h7 h9)
  refine xWp.gb rfl trivial rfl (fun h0 => ?_) (fun _ => ?_)
  · have h0' := nI_code hcode h0
    refine xWp.gb rfl ⟨in_nI (k := 0) (by omega) (by omega), trivial⟩ rfl (fun _ => ?_) (fun h9 => absurd ((lg_cmp_eq _ _).mpr (by show o' (xk 0 0).toNatClampNeg = _; rw [cl0, ho h0', hb2 h0'])) h9)
    refine xWp.go 1830 rfl trivial ?_
    exact lw_fin K hr' ht' (by omega)
  · refine xWp.go 1830 rfl trivial ?_
    exact lw_fin K hr' ht' (by omega)
set_option maxHeartbeats 4000000 in
theorem lc_wouldTake (h : Rel N C q t x y) (ht : t ≤ 100 * j) (hu : u ≤ 3 * j + 510) (hj : 4 * j + 4 ≤ L) (hL : L ≤ 2048) (K : lwK L xs Q j) (z5 z6 : Option Value) : lwA L xs Q (lwS 1171 (nI (4 * j)) z5 z6 [] (wW x y o) u) := by
  by_cases hv : xs (nI (4 * j) + xk 2 0).toNatClampNeg = 0
  · obtain ⟨r, x', code, b, hc, hl, hm⟩ := op_wouldTake h (T := 100 * (j + 1)) (by omega) (xs (nI (4 * j) + xk 1 0).toNatClampNeg) false
    have hcode : code ≤ 3 := by
      rcases hl with ⟨-, rfl⟩ | ⟨e, -, rfl, -⟩
      · omega
      · exact esA_le e
    refine xWp.gb rfl ⟨lw_g1 hj hL, lw_g2 hj hL, trivial⟩ rfl (fun _ => ?_) (fun h9 => absurd hv h9)
    refine xWp.gw rfl trivial rfl (w_wouldTake hc hl) (by omega) (fun o' ho => ?_)
    refine xWp.gb rfl ⟨lw_g1 hj hL, lw_g2 hj hL, trivial⟩ rfl (fun _ => ?_) (fun h9 => absurd hv h9)
    refine xWp.gp rfl trivial rfl (hm x' o').up (by omega) (fun y' b2 N' C' q' t' hb2 h7 ht' hr' => ?_)
    refine xWp.gc rfl trivial rfl (m_thrown 20) (by omega) ?_
    refine xWp.gb rfl trivial rfl (fun _ => ?_) (fun h9 => absurd h7 h9)
    refine xWp.gb rfl trivial rfl (fun h0 => ?_) (fun _ => ?_)
    · have h0' := nI_code hcode h0
      refine xWp.gb rfl ⟨in_nI (k := 0) (by omega) (by omega), trivial⟩ rfl (fun _ => ?_) (fun h9 => absurd ((lg_cmp_eq _ _).mpr (by show o' (xk 0 0).toNatClampNeg = _; rw [cl0, ho h0', hb2 h0'])) h9)
      refine xWp.go 1830 rfl trivial ?_
      exact lw_fin K hr' ht' (by omega)
    · refine xWp.go 1830 rfl trivial ?_
      exact lw_fin K hr' ht' (by omega)
  · obtain ⟨r, x', code, b, hc, hl, hm⟩ := op_wouldTake h (T := 100 * (j + 1)) (by omega) (xs (nI (4 * j) + xk 1 0).toNatClampNeg) true
    have hcode : code ≤ 3 := by
      rcases hl with ⟨-, rfl⟩ | ⟨e, -, rfl, -⟩
      · omega
      · exact esA_le e
    refine xWp.gb rfl ⟨lw_g1 hj hL, lw_g2 hj hL, trivial⟩ rfl (fun h9 => absurd h9 hv) (fun _ => ?_)
    refine xWp.gw rfl trivial rfl (w_wouldTake hc hl) (by omega) (fun o' ho => ?_)
    refine xWp.gb rfl ⟨lw_g1 hj hL, lw_g2 hj hL, trivial⟩ rfl (fun h9 => absurd h9 hv) (fun _ => ?_)
    refine xWp.gp rfl trivial rfl (hm x' o').up (by omega) (fun y' b2 N' C' q' t' hb2 h7 ht' hr' => ?_)
    refine xWp.gc rfl trivial rfl (m_thrown 20) (by omega) ?_
    refine xWp.gb rfl trivial rfl (fun _ => ?_) (fun h9 => absurd h7 h9)
    refine xWp.gb rfl trivial rfl (fun h0 => ?_) (fun _ => ?_)
    · have h0' := nI_code hcode h0
      refine xWp.gb rfl ⟨in_nI (k := 0) (by omega) (by omega), trivial⟩ rfl (fun _ => ?_) (fun h9 => absurd ((lg_cmp_eq _ _).mpr (by show o' (xk 0 0).toNatClampNeg = _; rw [cl0, ho h0', hb2 h0'])) h9)
      refine xWp.go 1830 rfl trivial ?_
      exact lw_fin K hr' ht' (by omega)
    · refine xWp.go 1830 rfl trivial ?_
      exact lw_fin K hr' ht' (by omega)
set_option maxHeartbeats 4000000 in
theorem lc_bestLength (h : Rel N C q t x y) (ht : t ≤ 100 * j) (hu : u ≤ 3 * j + 510) (hj : 4 * j + 4 ≤ L) (hL : L ≤ 2048) (K : lwK L xs Q j) (z5 z6 : Option Value) : lwA L xs Q (lwS 1255 (nI (4 * j)) z5 z6 [] (wW x y o) u) := by
  obtain ⟨r, x', code, b, hc, hl, hm⟩ := op_bestLength h (T := 100 * (j + 1)) (by omega)
  rcases hl with ⟨rfl, rfl⟩ | ⟨e, -, he, h1⟩
  · refine xWp.gc rfl trivial rfl (hc y o).up (by omega) ?_
    refine xWp.gp rfl trivial rfl (hm x' o).up (by omega) (fun y' b2 N' C' q' t' hb2 h7 ht' hr' => ?_)
    refine xWp.gb rfl trivial rfl (fun _ => ?_) (fun h9 => absurd (hb2 rfl).symm h9)
    exact lw_fin K hr' ht' (by omega)
  · have he' : 0 = code := he
    omega
set_option maxHeartbeats 4000000 in
theorem lc_hours (h : Rel N C q t x y) (ht : t ≤ 100 * j) (hu : u ≤ 3 * j + 510) (hj : 4 * j + 4 ≤ L) (hL : L ≤ 2048) (K : lwK L xs Q j) (z5 z6 : Option Value) : lwA L xs Q (lwS 1268 (nI (4 * j)) z5 z6 [] (wW x y o) u) := by
  obtain ⟨r, x', code, b, hc, hl, hm⟩ := op_hours h (T := 100 * (j + 1)) (by omega)
  rcases hl with ⟨rfl, rfl⟩ | ⟨e, -, he, h1⟩
  · refine xWp.gc rfl trivial rfl (hc y o).up (by omega) ?_
    refine xWp.gp rfl trivial rfl (hm x' o).up (by omega) (fun y' b2 N' C' q' t' hb2 h7 ht' hr' => ?_)
    refine xWp.gb rfl trivial rfl (fun _ => ?_) (fun h9 => absurd (hb2 rfl).symm h9)
    exact lw_fin K hr' ht' (by omega)
  · have he' : 0 = code := he
    omega
set_option maxHeartbeats 4000000 in
theorem lc_cards (h : Rel N C q t x y) (ht : t ≤ 100 * j) (hu : u ≤ 3 * j + 510) (hj : 4 * j + 4 ≤ L) (hL : L ≤ 2048) (K : lwK L xs Q j) (z5 z6 : Option Value) : lwA L xs Q (lwS 1281 (nI (4 * j)) z5 z6 [] (wW x y o) u) := by
  obtain ⟨r, x', code, b, hc, hl, hm⟩ := op_cards h (T := 100 * (j + 1)) (by omega)
  rcases hl with ⟨rfl, rfl⟩ | ⟨e, -, he, h1⟩
  · refine xWp.gc rfl trivial rfl (hc y o).up (by omega) ?_
    refine xWp.gp rfl trivial rfl (hm x' o).up (by omega) (fun y' b2 N' C' q' t' hb2 h7 ht' hr' => ?_)
    refine xWp.gb rfl trivial rfl (fun _ => ?_) (fun h9 => absurd (hb2 rfl).symm h9)
    exact lw_fin K hr' ht' (by omega)
  · have he' : 0 = code := he
    omega
set_option maxHeartbeats 4000000 in
theorem lc_changes (h : Rel N C q t x y) (ht : t ≤ 100 * j) (hu : u ≤ 3 * j + 510) (hj : 4 * j + 4 ≤ L) (hL : L ≤ 2048) (K : lwK L xs Q j) (z5 z6 : Option Value) : lwA L xs Q (lwS 1294 (nI (4 * j)) z5 z6 [] (wW x y o) u) := by
  obtain ⟨r, x', code, b, hc, hl, hm⟩ := op_changes h (T := 100 * (j + 1)) (by omega)
  rcases hl with ⟨rfl, rfl⟩ | ⟨e, -, he, h1⟩
  · refine xWp.gc rfl trivial rfl (hc y o).up (by omega) ?_
    refine xWp.gp rfl trivial rfl (hm x' o).up (by omega) (fun y' b2 N' C' q' t' hb2 h7 ht' hr' => ?_)
    refine xWp.gb rfl trivial rfl (fun _ => ?_) (fun h9 => absurd (hb2 rfl).symm h9)
    exact lw_fin K hr' ht' (by omega)
  · have he' : 0 = code := he
    omega
set_option maxHeartbeats 4000000 in
theorem lc_columnOf (h : Rel N C q t x y) (ht : t ≤ 100 * j) (hu : u ≤ 3 * j + 510) (hj : 4 * j + 4 ≤ L) (hL : L ≤ 2048) (K : lwK L xs Q j) (z5 z6 : Option Value) : lwA L xs Q (lwS 1307 (nI (4 * j)) z5 z6 [] (wW x y o) u) := by
  obtain ⟨r, x', code, b, hc, hl, hm⟩ := op_columnOf h (T := 100 * (j + 1)) (by omega) (xs (nI (4 * j) + xk 1 0).toNatClampNeg)
  have hcode : code ≤ 3 := by
    rcases hl with ⟨-, rfl⟩ | ⟨e, -, rfl, -⟩
    · omega
    · exact esO_le e
  refine xWp.gw rfl ⟨lw_g1 hj hL, trivial⟩ rfl (w_columnOf hc hl) (by omega) (fun o' ho => ?_)
  refine xWp.gp rfl ⟨lw_g1 hj hL, trivial⟩ rfl (hm x' o').up (by omega) (fun y' b2 N' C' q' t' hb2 h7 ht' hr' => ?_)
  refine xWp.gc rfl trivial rfl (m_thrown 20) (by omega) ?_
  refine xWp.gb rfl trivial rfl (fun _ => ?_) (fun h9 => absurd h7 h9)
  refine xWp.gb rfl trivial rfl (fun h0 => ?_) (fun _ => ?_)
  · have h0' := nI_code hcode h0
    refine xWp.gb rfl ⟨in_nI (k := 0) (by omega) (by omega), trivial⟩ rfl (fun _ => ?_) (fun h9 => absurd ((lg_cmp_eq _ _).mpr (by show o' (xk 0 0).toNatClampNeg = _; rw [cl0, ho h0', hb2 h0'])) h9)
    refine xWp.go 1830 rfl trivial ?_
    exact lw_fin K hr' ht' (by omega)
  · refine xWp.go 1830 rfl trivial ?_
    exact lw_fin K hr' ht' (by omega)
set_option maxHeartbeats 4000000 in
theorem lc_cardsIn (h : Rel N C q t x y) (ht : t ≤ 100 * j) (hu : u ≤ 3 * j + 510) (hj : 4 * j + 4 ≤ L) (hL : L ≤ 2048) (K : lwK L xs Q j) (z5 z6 : Option Value) : lwA L xs Q (lwS 1363 (nI (4 * j)) z5 z6 [] (wW x y o) u) := by
  obtain ⟨r, x', code, b, hc, hl, hm⟩ := op_cardsIn h (T := 100 * (j + 1)) (by omega) (xs (nI (4 * j) + xk 1 0).toNatClampNeg)
  have hcode : code ≤ 3 := by
    rcases hl with ⟨-, rfl⟩ | ⟨e, -, rfl, -⟩
    · omega
    · exact esO_le e
  refine xWp.gw rfl ⟨lw_g1 hj hL, trivial⟩ rfl (w_cardsIn hc hl) (by omega) (fun o' ho => ?_)
  refine xWp.gp rfl ⟨lw_g1 hj hL, trivial⟩ rfl (hm x' o').up (by omega) (fun y' b2 N' C' q' t' hb2 h7 ht' hr' => ?_)
  refine xWp.gc rfl trivial rfl (m_thrown 20) (by omega) ?_
  refine xWp.gb rfl trivial rfl (fun _ => ?_) (fun h9 => absurd h7 h9)
  refine xWp.gb rfl trivial rfl (fun h0 => ?_) (fun _ => ?_)
  · have h0' := nI_code hcode h0
    refine xWp.gb rfl ⟨in_nI (k := 0) (by omega) (by omega), trivial⟩ rfl (fun _ => ?_) (fun h9 => absurd ((lg_cmp_eq _ _).mpr (by show o' (xk 0 0).toNatClampNeg = _; rw [cl0, ho h0', hb2 h0'])) h9)
    refine xWp.go 1830 rfl trivial ?_
    exact lw_fin K hr' ht' (by omega)
  · refine xWp.go 1830 rfl trivial ?_
    exact lw_fin K hr' ht' (by omega)
set_option maxHeartbeats 4000000 in
theorem lc_cardAt (h : Rel N C q t x y) (ht : t ≤ 100 * j) (hu : u ≤ 3 * j + 510) (hj : 4 * j + 4 ≤ L) (hL : L ≤ 2048) (K : lwK L xs Q j) (z5 z6 : Option Value) : lwA L xs Q (lwS 1419 (nI (4 * j)) z5 z6 [] (wW x y o) u) := by
  obtain ⟨r, x', code, b, hc, hl, hm⟩ := op_cardAt h (T := 100 * (j + 1)) (by omega) (xs (nI (4 * j) + xk 1 0).toNatClampNeg) (xs (nI (4 * j) + xk 2 0).toNatClampNeg)
  have hcode : code ≤ 3 := by
    rcases hl with ⟨-, rfl⟩ | ⟨e, -, rfl, -⟩
    · omega
    · exact esO_le e
  refine xWp.gw rfl ⟨lw_g1 hj hL, lw_g2 hj hL, trivial⟩ rfl (w_cardAt hc hl) (by omega) (fun o' ho => ?_)
  refine xWp.gp rfl ⟨lw_g1 hj hL, lw_g2 hj hL, trivial⟩ rfl (hm x' o').up (by omega) (fun y' b2 N' C' q' t' hb2 h7 ht' hr' => ?_)
  refine xWp.gc rfl trivial rfl (m_thrown 20) (by omega) ?_
  refine xWp.gb rfl trivial rfl (fun _ => ?_) (fun h9 => absurd h7 h9)
  refine xWp.gb rfl trivial rfl (fun h0 => ?_) (fun _ => ?_)
  · have h0' := nI_code hcode h0
    refine xWp.gb rfl ⟨in_nI (k := 0) (by omega) (by omega), trivial⟩ rfl (fun _ => ?_) (fun h9 => absurd ((lg_cmp_eq _ _).mpr (by show o' (xk 0 0).toNatClampNeg = _; rw [cl0, ho h0', hb2 h0'])) h9)
    refine xWp.go 1830 rfl trivial ?_
    exact lw_fin K hr' ht' (by omega)
  · refine xWp.go 1830 rfl trivial ?_
    exact lw_fin K hr' ht' (by omega)
set_option maxHeartbeats 4000000 in
theorem lc_canMove (h : Rel N C q t x y) (ht : t ≤ 100 * j) (hu : u ≤ 3 * j + 510) (hj : 4 * j + 4 ≤ L) (hL : L ≤ 2048) (K : lwK L xs Q j) (z5 z6 : Option Value) : lwA L xs Q (lwS 1487 (nI (4 * j)) z5 z6 [] (wW x y o) u) := by
  obtain ⟨r, x', code, b, hc, hl, hm⟩ := op_canMove h (T := 100 * (j + 1)) (by omega) (xs (nI (4 * j) + xk 1 0).toNatClampNeg)
  have hcode : code ≤ 3 := by
    rcases hl with ⟨-, rfl⟩ | ⟨e, -, rfl, -⟩
    · omega
    · exact esO_le e
  refine xWp.gw rfl ⟨lw_g1 hj hL, trivial⟩ rfl (w_canMove hc hl) (by omega) (fun o' ho => ?_)
  refine xWp.gp rfl ⟨lw_g1 hj hL, trivial⟩ rfl (hm x' o').up (by omega) (fun y' b2 N' C' q' t' hb2 h7 ht' hr' => ?_)
  refine xWp.gc rfl trivial rfl (m_thrown 20) (by omega) ?_
  refine xWp.gb rfl trivial rfl (fun _ => ?_) (fun h9 => absurd h7 h9)
  refine xWp.gb rfl trivial rfl (fun h0 => ?_) (fun _ => ?_)
  · have h0' := nI_code hcode h0
    refine xWp.gb rfl ⟨in_nI (k := 0) (by omega) (by omega), trivial⟩ rfl (fun hz => ?_) (fun hz => ?_)
    · refine xWp.gb rfl trivial rfl (fun _ => ?_) (fun h9 => absurd ((lg_cmp_eq _ _).mpr (by show o' (xk 0 0).toNatClampNeg = _; rw [cl0, ho h0', ← hb2 h0']; exact if_pos hz)) h9)
      refine xWp.go 1830 rfl trivial ?_
      exact lw_fin K hr' ht' (by omega)
    · refine xWp.gb rfl trivial rfl (fun _ => ?_) (fun h9 => absurd ((lg_cmp_eq _ _).mpr (by show o' (xk 0 0).toNatClampNeg = _; rw [cl0, ho h0', ← hb2 h0']; exact if_neg hz)) h9)
      refine xWp.go 1830 rfl trivial ?_
      exact lw_fin K hr' ht' (by omega)
  · refine xWp.go 1830 rfl trivial ?_
    exact lw_fin K hr' ht' (by omega)
set_option maxHeartbeats 4000000 in
theorem lc_lacks (h : Rel N C q t x y) (ht : t ≤ 100 * j) (hu : u ≤ 3 * j + 510) (hj : 4 * j + 4 ≤ L) (hL : L ≤ 2048) (K : lwK L xs Q j) (z5 z6 : Option Value) : lwA L xs Q (lwS 1550 (nI (4 * j)) z5 z6 [] (wW x y o) u) := by
  obtain ⟨r, x', code, b, hc, hl, hm⟩ := op_lacks h (T := 100 * (j + 1)) (by omega) (xs (nI (4 * j) + xk 1 0).toNatClampNeg)
  have hcode : code ≤ 3 := by
    rcases hl with ⟨-, rfl⟩ | ⟨e, -, rfl, -⟩
    · omega
    · exact esO_le e
  refine xWp.gw rfl ⟨lw_g1 hj hL, trivial⟩ rfl (w_lacks hc hl) (by omega) (fun o' ho => ?_)
  refine xWp.gp rfl ⟨lw_g1 hj hL, trivial⟩ rfl (hm x' o').up (by omega) (fun y' b2 N' C' q' t' hb2 h7 ht' hr' => ?_)
  refine xWp.gc rfl trivial rfl (m_thrown 20) (by omega) ?_
  refine xWp.gb rfl trivial rfl (fun _ => ?_) (fun h9 => absurd h7 h9)
  refine xWp.gb rfl trivial rfl (fun h0 => ?_) (fun _ => ?_)
  · have h0' := nI_code hcode h0
    refine xWp.gb rfl ⟨in_nI (k := 0) (by omega) (by omega), trivial⟩ rfl (fun _ => ?_) (fun h9 => absurd ((lg_cmp_eq _ _).mpr (by show o' (xk 0 0).toNatClampNeg = _; rw [cl0, ho h0', hb2 h0'])) h9)
    refine xWp.go 1830 rfl trivial ?_
    exact lw_fin K hr' ht' (by omega)
  · refine xWp.go 1830 rfl trivial ?_
    exact lw_fin K hr' ht' (by omega)
set_option maxHeartbeats 4000000 in
theorem lc_falls (h : Rel N C q t x y) (ht : t ≤ 100 * j) (hu : u ≤ 3 * j + 510) (hj : 4 * j + 4 ≤ L) (hL : L ≤ 2048) (K : lwK L xs Q j) (z5 z6 : Option Value) : lwA L xs Q (lwS 1606 (nI (4 * j)) z5 z6 [] (wW x y o) u) := by
  obtain ⟨r, x', code, b, hc, hl, hm⟩ := op_falls h (T := 100 * (j + 1)) (by omega) (xs (nI (4 * j) + xk 1 0).toNatClampNeg)
  have hcode : code ≤ 3 := by
    rcases hl with ⟨-, rfl⟩ | ⟨e, -, rfl, -⟩
    · omega
    · exact esO_le e
  refine xWp.gw rfl ⟨lw_g1 hj hL, trivial⟩ rfl (w_falls hc hl) (by omega) (fun o' ho => ?_)
  refine xWp.gp rfl ⟨lw_g1 hj hL, trivial⟩ rfl (hm x' o').up (by omega) (fun y' b2 N' C' q' t' hb2 h7 ht' hr' => ?_)
  refine xWp.gc rfl trivial rfl (m_thrown 20) (by omega) ?_
  refine xWp.gb rfl trivial rfl (fun _ => ?_) (fun h9 => absurd h7 h9)
  refine xWp.gb rfl trivial rfl (fun h0 => ?_) (fun _ => ?_)
  · have h0' := nI_code hcode h0
    refine xWp.gb rfl ⟨in_nI (k := 0) (by omega) (by omega), trivial⟩ rfl (fun _ => ?_) (fun h9 => absurd ((lg_cmp_eq _ _).mpr (by show o' (xk 0 0).toNatClampNeg = _; rw [cl0, ho h0', hb2 h0'])) h9)
    refine xWp.go 1830 rfl trivial ?_
    exact lw_fin K hr' ht' (by omega)
  · refine xWp.go 1830 rfl trivial ?_
    exact lw_fin K hr' ht' (by omega)
set_option maxHeartbeats 4000000 in
theorem lc_pushes (h : Rel N C q t x y) (ht : t ≤ 100 * j) (hu : u ≤ 3 * j + 510) (hj : 4 * j + 4 ≤ L) (hL : L ≤ 2048) (K : lwK L xs Q j) (z5 z6 : Option Value) : lwA L xs Q (lwS 1662 (nI (4 * j)) z5 z6 [] (wW x y o) u) := by
  obtain ⟨r, x', code, b, hc, hl, hm⟩ := op_pushes h (T := 100 * (j + 1)) (by omega) (xs (nI (4 * j) + xk 1 0).toNatClampNeg)
  have hcode : code ≤ 3 := by
    rcases hl with ⟨-, rfl⟩ | ⟨e, -, rfl, -⟩
    · omega
    · exact esO_le e
  refine xWp.gw rfl ⟨lw_g1 hj hL, trivial⟩ rfl (w_pushes hc hl) (by omega) (fun o' ho => ?_)
  refine xWp.gp rfl ⟨lw_g1 hj hL, trivial⟩ rfl (hm x' o').up (by omega) (fun y' b2 N' C' q' t' hb2 h7 ht' hr' => ?_)
  refine xWp.gc rfl trivial rfl (m_thrown 20) (by omega) ?_
  refine xWp.gb rfl trivial rfl (fun _ => ?_) (fun h9 => absurd h7 h9)
  refine xWp.gb rfl trivial rfl (fun h0 => ?_) (fun _ => ?_)
  · have h0' := nI_code hcode h0
    refine xWp.gb rfl ⟨in_nI (k := 0) (by omega) (by omega), trivial⟩ rfl (fun _ => ?_) (fun h9 => absurd ((lg_cmp_eq _ _).mpr (by show o' (xk 0 0).toNatClampNeg = _; rw [cl0, ho h0', hb2 h0'])) h9)
    refine xWp.go 1830 rfl trivial ?_
    exact lw_fin K hr' ht' (by omega)
  · refine xWp.go 1830 rfl trivial ?_
    exact lw_fin K hr' ht' (by omega)
set_option maxHeartbeats 4000000 in
theorem lc_state (h : Rel N C q t x y) (ht : t ≤ 100 * j) (hu : u ≤ 3 * j + 510) (hj : 4 * j + 4 ≤ L) (hL : L ≤ 2048) (K : lwK L xs Q j) (z5 z6 : Option Value) : lwA L xs Q (lwS 1718 (nI (4 * j)) z5 z6 [] (wW x y o) u) := by
  obtain ⟨r, x', code, b, hc, hl, hm⟩ := op_state h (T := 100 * (j + 1)) (by omega) (xs (nI (4 * j) + xk 1 0).toNatClampNeg)
  have hcode : code ≤ 3 := by
    rcases hl with ⟨-, rfl⟩ | ⟨e, -, rfl, -⟩
    · omega
    · exact esO_le e
  refine xWp.gw rfl ⟨lw_g1 hj hL, trivial⟩ rfl (w_state hc hl) (by omega) (fun o' ho => ?_)
  refine xWp.gp rfl ⟨lw_g1 hj hL, trivial⟩ rfl (hm x' o').up (by omega) (fun y' b2 N' C' q' t' hb2 h7 ht' hr' => ?_)
  refine xWp.gc rfl trivial rfl (m_thrown 20) (by omega) ?_
  refine xWp.gb rfl trivial rfl (fun _ => ?_) (fun h9 => absurd h7 h9)
  refine xWp.gb rfl trivial rfl (fun h0 => ?_) (fun _ => ?_)
  · have h0' := nI_code hcode h0
    refine xWp.gb rfl ⟨in_nI (k := 0) (by omega) (by omega), trivial⟩ rfl (fun _ => ?_) (fun h9 => absurd ((lg_cmp_eq _ _).mpr (by show o' (xk 0 0).toNatClampNeg = _; rw [cl0, ho h0', hb2 h0'])) h9)
    refine xWp.go 1830 rfl trivial ?_
    exact lw_fin K hr' ht' (by omega)
  · refine xWp.go 1830 rfl trivial ?_
    exact lw_fin K hr' ht' (by omega)
set_option maxHeartbeats 4000000 in
theorem lc_namedBy (h : Rel N C q t x y) (ht : t ≤ 100 * j) (hu : u ≤ 3 * j + 510) (hj : 4 * j + 4 ≤ L) (hL : L ≤ 2048) (K : lwK L xs Q j) (z5 z6 : Option Value) : lwA L xs Q (lwS 1774 (nI (4 * j)) z5 z6 [] (wW x y o) u) := by
  obtain ⟨r, x', code, b, hc, hl, hm⟩ := op_namedBy h (T := 100 * (j + 1)) (by omega) (xs (nI (4 * j) + xk 1 0).toNatClampNeg)
  have hcode : code ≤ 3 := by
    rcases hl with ⟨-, rfl⟩ | ⟨e, -, rfl, -⟩
    · omega
    · exact esO_le e
  refine xWp.gw rfl ⟨lw_g1 hj hL, trivial⟩ rfl (w_namedBy hc hl) (by omega) (fun o' ho => ?_)
  refine xWp.gp rfl ⟨lw_g1 hj hL, trivial⟩ rfl (hm x' o').up (by omega) (fun y' b2 N' C' q' t' hb2 h7 ht' hr' => ?_)
  refine xWp.gc rfl trivial rfl (m_thrown 20) (by omega) ?_
  refine xWp.gb rfl trivial rfl (fun _ => ?_) (fun h9 => absurd h7 h9)
  refine xWp.gb rfl trivial rfl (fun h0 => ?_) (fun _ => ?_)
  · have h0' := nI_code hcode h0
    refine xWp.gb rfl ⟨in_nI (k := 0) (by omega) (by omega), trivial⟩ rfl (fun _ => ?_) (fun h9 => absurd ((lg_cmp_eq _ _).mpr (by show o' (xk 0 0).toNatClampNeg = _; rw [cl0, ho h0', hb2 h0'])) h9)
    refine xWp.go 1830 rfl trivial ?_
    exact lw_fin K hr' ht' (by omega)
  · refine xWp.go 1830 rfl trivial ?_
    exact lw_fin K hr' ht' (by omega)
def lwSw (x : Int32) : Nat := xsw 39 1791 0 29 #[133, 189, 285, 341, 397, 465, 521, 589, 680, 783, 839, 895, 951, 964, 1020, 1076, 1132, 1216, 1229, 1242, 1255, 1268, 1324, 1380, 1448, 1511, 1567, 1623, 1679, 1735] x
theorem lw_sw (c : Int32) (P : Nat) (e : lwSw c = P) {i : Int32} {z5 z6 : Option Value} {w : xW} (k : lwA L xs Q (lwS P i z5 z6 [] w u)) : lwA L xs Q (lwS 39 i z5 z6 [.int c] w u) := by
  refine xWp.run 1 rfl trivial ?_
  show lwA L xs Q (lwS (lwSw c) i z5 z6 [] w u)
  rw [e]
  exact k
theorem and31 (v : Int32) : ∃ c, c < 32 ∧ v &&& xk 31 0 = nI c := by
  obtain ⟨n, -, rfl⟩ := wb_of32 v
  exact ⟨n % 2 ^ 5, Nat.mod_lt _ (by decide), fa_mask n 5⟩
set_option maxHeartbeats 4000000 in
theorem law_step (h : Rel N C q t x y) (ht : t ≤ 100 * j) (hu : u ≤ 3 * j + 510) (hj : 4 * j + 4 ≤ L) (hL : L ≤ 2048) (K : lwK L xs Q j) (z5 z6 : Option Value) : lwA L xs Q (lwS 32 (nI (4 * j)) z5 z6 [] (wW x y o) u) := by
  obtain ⟨c, hc, ec⟩ := and31 (xs (nI (4 * j)).toNatClampNeg)
  refine xWp.go 39 rfl ⟨vp_in_nI (by omega) (by omega), trivial⟩ ?_
  have key : lwA L xs Q (lwS 39 (nI (4 * j)) z5 z6 [.int (xs (nI (4 * j)).toNatClampNeg &&& xk 31 0)] (wW x y o) u) := by
    rw [ec]
    match c, hc with
    | 0, _ => exact lw_sw _ 172 (by decide +kernel) (lc_card h ht hu hj hL K z5 z6)
    | 1, _ => exact lw_sw _ 228 (by decide +kernel) (lc_name h ht hu hj hL K z5 z6)
    | 2, _ => exact lw_sw _ 324 (by decide +kernel) (lc_move h ht hu hj hL K z5 z6)
    | 3, _ => exact lw_sw _ 380 (by decide +kernel) (lc_moveBack h ht hu hj hL K z5 z6)
    | 4, _ => exact lw_sw _ 436 (by decide +kernel) (lc_setLimit h ht hu hj hL K z5 z6)
    | 5, _ => exact lw_sw _ 504 (by decide +kernel) (lc_change h ht hu hj hL K z5 z6)
    | 6, _ => exact lw_sw _ 560 (by decide +kernel) (lc_need h ht hu hj hL K z5 z6)
    | 7, _ => exact lw_sw _ 628 (by decide +kernel) (lc_setBroken h ht hu hj hL K z5 z6)
    | 8, _ => exact lw_sw _ 719 (by decide +kernel) (lc_setClash h ht hu hj hL K z5 z6)
    | 9, _ => exact lw_sw _ 822 (by decide +kernel) (lc_mend h ht hu hj hL K z5 z6)
    | 10, _ => exact lw_sw _ 878 (by decide +kernel) (lc_takeOut h ht hu hj hL K z5 z6)
    | 11, _ => exact lw_sw _ 934 (by decide +kernel) (lc_merge h ht hu hj hL K z5 z6)
    | 12, _ => exact lw_sw _ 990 (by decide +kernel) (lc_queued h ht hu hj hL K z5 z6)
    | 13, _ => exact lw_sw _ 1003 (by decide +kernel) (lc_queuedAt h ht hu hj hL K z5 z6)
    | 14, _ => exact lw_sw _ 1059 (by decide +kernel) (lc_wouldPass h ht hu hj hL K z5 z6)
    | 15, _ => exact lw_sw _ 1115 (by decide +kernel) (lc_wouldPassOneByOne h ht hu hj hL K z5 z6)
    | 16, _ => exact lw_sw _ 1171 (by decide +kernel) (lc_wouldTake h ht hu hj hL K z5 z6)
    | 17, _ => exact lw_sw _ 1255 (by decide +kernel) (lc_bestLength h ht hu hj hL K z5 z6)
    | 18, _ => exact lw_sw _ 1268 (by decide +kernel) (lc_hours h ht hu hj hL K z5 z6)
    | 19, _ => exact lw_sw _ 1281 (by decide +kernel) (lc_cards h ht hu hj hL K z5 z6)
    | 20, _ => exact lw_sw _ 1294 (by decide +kernel) (lc_changes h ht hu hj hL K z5 z6)
    | 21, _ => exact lw_sw _ 1307 (by decide +kernel) (lc_columnOf h ht hu hj hL K z5 z6)
    | 22, _ => exact lw_sw _ 1363 (by decide +kernel) (lc_cardsIn h ht hu hj hL K z5 z6)
    | 23, _ => exact lw_sw _ 1419 (by decide +kernel) (lc_cardAt h ht hu hj hL K z5 z6)
    | 24, _ => exact lw_sw _ 1487 (by decide +kernel) (lc_canMove h ht hu hj hL K z5 z6)
    | 25, _ => exact lw_sw _ 1550 (by decide +kernel) (lc_lacks h ht hu hj hL K z5 z6)
    | 26, _ => exact lw_sw _ 1606 (by decide +kernel) (lc_falls h ht hu hj hL K z5 z6)
    | 27, _ => exact lw_sw _ 1662 (by decide +kernel) (lc_pushes h ht hu hj hL K z5 z6)
    | 28, _ => exact lw_sw _ 1718 (by decide +kernel) (lc_state h ht hu hj hL K z5 z6)
    | 29, _ => exact lw_sw _ 1774 (by decide +kernel) (lc_namedBy h ht hu hj hL K z5 z6)
    | 30, _ => exact lw_sw _ 1830 (by decide +kernel) (lw_fin K h (by omega) (by omega))
    | 31, _ => exact lw_sw _ 1830 (by decide +kernel) (lw_fin K h (by omega) (by omega))
    | c + 32, hc => exact absurd hc (by omega)
  exact key
set_option maxHeartbeats 4000000 in
theorem law_loop (hL : L ≤ 2048) (hQ : ∀ w, Q (.inl (some (.int (nI 1)))) w) : ∀ m j, 4 * j + 4 * m ≥ L → ∀ {N C : Nat} {q : List Nat} {t u : Nat} {x y : xX} {o : Nat → Int64} (z5 z6 : Option Value), Rel N C q t x y → t ≤ 100 * j → u ≤ 3 * j + 510 → 4 * j ≤ 2100 → lwA L xs Q (lwS 23 (nI (4 * j)) z5 z6 [] (wW x y o) u) := by
  intro m
  induction m with
  | zero =>
    intro j hjm N C q t u x y o z5 z6 h ht hu hj
    refine xWp.gb rfl trivial rfl (fun _ => ?_) (fun h9 => ?_)
    · exact xWp.gf rfl trivial rfl (Or.inr (Or.inr rfl)) (hQ _)
    · have h9' : ¬ nI L - nI 4 < nI (4 * j) := h9
      rw [fa_lt, pk_sub_toInt (by omega) (by omega), nI_toInt (by omega)] at h9'
      omega
  | succ m ih =>
    intro j hjm N C q t u x y o z5 z6 h ht hu hj
    by_cases hjL : 4 * j + 4 ≤ L
    · refine xWp.gb rfl trivial rfl (fun h9 => ?_) (fun _ => ?_)
      · have h9' : nI L - nI 4 < nI (4 * j) := h9
        rw [fa_lt, pk_sub_toInt (by omega) (by omega), nI_toInt (by omega)] at h9'
        omega
      · exact law_step h ht hu hjL hL (fun N' C' q' t' x' y' o' u' z5 z6 hr ht' hu' => ih (j + 1) (by omega) z5 z6 hr ht' hu' (by omega)) z5 z6
    · refine xWp.gb rfl trivial rfl (fun _ => ?_) (fun h9 => ?_)
      · exact xWp.gf rfl trivial rfl (Or.inr (Or.inr rfl)) (hQ _)
      · have h9' : ¬ nI L - nI 4 < nI (4 * j) := h9
        rw [fa_lt, pk_sub_toInt (by omega) (by omega), nI_toInt (by omega)] at h9'
        omega
end LP
