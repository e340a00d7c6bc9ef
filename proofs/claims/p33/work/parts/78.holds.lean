/-! the law's own body -/
section HO
abbrev Q01 : xR → xW → Prop := fun r _ => r = .inl (some (.int (nI 1)))
theorem l_hStart {L : Nat} {xs : Nat → Int32} (hL2 : L ≤ 260) : hA L xs 36 [some (.ref 77), some (.ref 0), some (.ref 15), some (.ref 16), some (.ref 17), some (.ref 18), some (.ref 19), none, none, none] [] x00 y00 100 :=
  xWp.go 58 rfl ⟨inx (by decide) (by decide), inx (by decide) (by decide), inx (by decide) (by decide), trivial⟩ (l_hLoop hL2 130 0 100 x00 y03 0 0 [] [] 0 none rfl (by omega) LR_00 (by omega))
set_option maxHeartbeats 16000000 in
set_option maxRecDepth 100000 in
theorem holds_met {l : Launch} {D : va_G} {base : Nat} {tg : Nat → ClassId} {sb L : Nat} {xs : Nat → Int32} (hL2 : L ≤ 260) (hst : l.stackTraces = false) (ad : Nat → Nat) : xMet l D base tg (some (L, xs)) sb ad 24 k_L_holds [.ref 77] [] Q01 := by
  intro hsb hcat hlen
  have hok := xok_all k_L_holds
  obtain ⟨hrows, hhc, hhr, hpl, hcls, hmL, hmr⟩ := id hok
  have hxc : xcode k_L_holds = .code (m_y k_L_holds) (m_c k_L_holds) (m_L k_L_holds) (m_r k_L_holds) := rfl
  rw [hxc]
  refine vx_ofW (cc := m_c k_L_holds) (maxL := m_L k_L_holds) (ret := m_r k_L_holds) hpl rfl ?_
  intro p e s m args below meth c s₁ B hml htab hv
  obtain ⟨rfl, h0, hbs, hP, hD⟩ := hv
  have F : xfr p (xrm 24 k_L_holds) s m (([.ref 77] : List Value).map (xv ad)).toArray meth c D base tg (some (L, xs)) sb k_L_holds (m_b k_L_holds) 23 := ⟨B.exec, B.bytes, hml, by rw [← hcls]; exact findClass_of_methodNamed B.named, B.notSynchronized, h0, hok, List.eq_nil_iff_forall_not_mem.mpr (fun x hx => htab x hx), by decide, by decide, Nat.le_refl _, Nat.le_refl _, hbs⟩
  have hx := B.exec
  have hb : c.code = cL_holds := B.bytes
  have hr := B.returns
  have hml : c.maxLocals = 10 := hml
  have hown : s.vm.findClass RL = some m.cls := F.2.2.2.1
  have hlocks := B.notSynchronized
  have hK : va_K D vwCl (xtys tg) s := h0.2.2.2.2.2.1
  have harr : (Jvm.Cond.arrayClass .int).before (([.ref 77] : List Value).map (xv ad)).toArray s = true := by
    obtain ⟨-, k9, hk9, comp9, hkd9⟩ := (hK.2 0 _ rfl).1 0 (fun _ => .null)
    have hf9 : s.vm.findClass ("[" ++ (FieldType.int).toString) = some (tg 0) := (hK.2 0 _ rfl).2
    have hk9 : s.vm.classes[tg 0]? = some k9 := hk9
    simp [Cond.before, Cond.holds, Cond.value, hf9, hk9, hkd9]
  have hts : ∀ w ∈ wsX2_init, w.before (([.ref 77] : List Value).map (xv ad)).toArray s = true := fun w hw => by
    obtain ⟨h1, h2 | h2⟩ := gl_X2q w hw
    · exact xfr_w F ⟨h1, h2⟩
    · rw [h2]; exact harr
  have hA9 : ∀ q : Nat, s.heap.size ≤ q → xA base q := fun q h => Nat.le_trans hbs h
  have hS : va_S (xA base) s.heap s.heap [] := va_S.rf
  have hP : va_P D vwCl [] s.heap := hP
  have hD : va_D (xA base) [] := hD
  obtain ⟨b, eb⟩ : ∃ b, b = ad 77 := ⟨_, rfl⟩
  show W p l e (xrm 24 k_L_holds) s m (([.ref 77] : List Value).map (xv ad)).toArray below meth c s.heap [] 0 0 (vx_MQ below (xQc D base tg ad k_L_holds Q01) (xXC D base tg ad Q01) (([.ref 77] : List Value).map (xv ad)).toArray s (m_b k_L_holds) (6 * m_b k_L_holds) (xA base)) (entryFrame m ([.ref (ad 77)] : List Value).toArray 10)
  rw [← eb]
  have hl := lv_entry ([.ref b]) (n := 10) (Nat.le_of_ble_eq_true rfl)
  rw [lg_entry_eq]
  generalize (lg_sl ([.ref b]) ++ List.replicate (10 - (lg_sl ([.ref b])).length) Slot.unset).toArray = ls at hl ⊢
  have hl : lv_has ls 10 [(0, .ref b)] := hl
  generalize hAG : (([.ref 77] : List Value).map (xv ad)).toArray = args at F hts harr ⊢
  refine va_new (ci := 0) (fs := [.null, .null, .int 0]) (C := RX2) (T := TX2) (N := 3) hx hb (fun w hw => xfr_w F (xcl_in (RX2, TX2, 3) (List.mem_of_getElem? (i := 0) rfl) w hw)) (fun _ h => h) tyX2 tyX2_ok hown (xfr_w F ⟨List.mem_of_getElem? (i := 37) (by decide +kernel), by decide +kernel⟩) (xfr_w F ⟨List.mem_of_getElem? (i := 38) (by decide +kernel), by decide +kernel⟩) (xfr_w F ⟨List.mem_of_getElem? (i := 18) (by decide +kernel), by decide +kernel⟩) hK hP hD hS hA9 rfl (fun j hj => by rcases (show j = 0 ∨ j = 1 ∨ j = 2 by omega) with rfl | rfl | rfl <;> rfl) (Nat.le_of_ble_eq_true rfl) (Nat.le_of_ble_eq_true rfl) dL_holds_0 (fun q0 H hP hD hS => ?_)
  have hP : va_P D vwCl [(q0, .inr (0, [.null, .null, .int 0]))] H := hP
  have hD : va_D (xA base) [(q0, .inr (0, [.null, .null, .int 0]))] := hD
  refine W.widen (k := 1) (n := 3) (Nat.le_of_ble_eq_true rfl) (Nat.le_of_ble_eq_true rfl) ?_
  refine lv_dup hx hb dL_holds_3 rfl ?_
  have hnest : va_Nw (.methodLinkNest RX2 18 yX1_init "Cardgate") s := h0.1 _ (List.mem_of_getElem? (i := 83) (by decide +kernel)) (by decide +kernel)
  have hPc := hP.sub (ws' := [(q0, .inr (0, [.null, .null, .int 0]))]) [0] rfl
  have hDc := hD.sub (ws' := [(q0, .inr (0, [.null, .null, .int 0]))]) [0] (by decide) rfl
  have hFc := va_free (wc := [(q0, .inr (0, [.null, .null, .int 0]))]) hD hS hA9 [0] rfl
  refine va_callv (va_runI (As := []) (rest := [.ref q0]) ⟨hx, hb, hml, hown, hts⟩ (i_X2 l D tg q0 H.size) (cwI 0 hts gl_X2 rfl rfl rfl (xfr_w F ⟨List.mem_of_getElem? (i := 18) (by decide +kernel), by decide +kernel⟩) (xfr_w F ⟨List.mem_of_getElem? (i := 39) (by decide +kernel), by decide +kernel⟩) (xfr_w F ⟨List.mem_of_getElem? (i := 40) (by decide +kernel), by decide +kernel⟩) rfl (by decide +kernel) ⟨Nat.le_of_ble_eq_true rfl, Nat.le_of_ble_eq_true rfl⟩) ⟨fun a U g mk q => by obtain ⟨q0, q1, qP, qK, qD, qN⟩ := q; exact ⟨q0, q1, qP, va_K.moved (u := U) (U := U.calling g mk a) (Vm.Alike.refl U.vm) qK, qD, va_Nw.same (u := U) (U := U.calling g mk a) rfl rfl qN⟩, fun U hU hW => ⟨rfl, by rw [hU], by rw [hU]; exact hPc, va_K.moved hW.alike hK, hDc.weaken (fun _ _ _ _ => trivial), va_Nw.warmM hW hnest⟩⟩ rfl rfl hl.1 rfl (lv_room (Nat.le_of_ble_eq_true rfl)) dL_holds_4 ⟨Nat.le_of_ble_eq_true rfl, Nat.le_of_ble_eq_true rfl⟩) hS (fun q _ h => hFc q h) hFc (fun u t H1 locs ht hvm hw hB hz1 hk1 hS => ?_)
  obtain ⟨⟨q5, q16⟩, u1, u2⟩ := u
  obtain ⟨hP1, hK1, hD1⟩ := hB
  rw [ht] at hP1
  obtain ⟨hP, hD⟩ := va_join (wr := []) (w1 := ce_X2 tg q0 q5 q16 u1 u2) hP hD [0] [] rfl rfl (by decide) (by decide) hk1 hFc hP1 hD1
  generalize H1 = H at hP hS ⊢
  have hP : va_P D vwCl (ce_X2 tg q0 q5 q16 u1 u2) H := hP
  have hD : va_D (xA base) (ce_X2 tg q0 q5 q16 u1 u2) := hD
  refine W.widen (k := 15) (n := 298) (Nat.le_of_ble_eq_true rfl) (Nat.le_of_ble_eq_true rfl) ?_
  refine lv_astore_n (lv' := [(1, .ref q0), (0, .ref b)]) hx hb dL_holds_7 rfl hl (by decide) rfl (fun ls hl => ?_)
  refine lv_bipush (v := 10) hx hb dL_holds_8 (by decide) ?_
  refine xn_newa (atype := .int) (a0 := (10, .inl (fun _ => 0))) hx hb harr (hK.2 0 _ rfl).2 hP hD hS hA9 rfl (by decide) (by decide) (Nat.le_of_ble_eq_true rfl) (Nat.le_of_ble_eq_true rfl) (Nat.le_of_ble_eq_true rfl) dL_holds_10 (fun a0 H hP hD hS => ?_)
  refine W.widen (k := 16) (n := 308) (Nat.le_of_ble_eq_true rfl) (Nat.le_of_ble_eq_true rfl) ?_
  refine lv_astore_n (lv' := [(2, .ref a0), (1, .ref q0), (0, .ref b)]) hx hb dL_holds_12 rfl hl (by decide) rfl (fun ls hl => ?_)
  refine lv_bipush (v := 50) hx hb dL_holds_13 (by decide) ?_
  refine xn_newa (atype := .int) (a0 := (50, .inl (fun _ => 0))) hx hb harr (hK.2 0 _ rfl).2 hP hD hS hA9 rfl (by decide) (by decide) (Nat.le_of_ble_eq_true rfl) (Nat.le_of_ble_eq_true rfl) (Nat.le_of_ble_eq_true rfl) dL_holds_15 (fun a1 H hP hD hS => ?_)
  refine W.widen (k := 17) (n := 358) (Nat.le_of_ble_eq_true rfl) (Nat.le_of_ble_eq_true rfl) ?_
  refine lv_astore_n (lv' := [(3, .ref a1), (2, .ref a0), (1, .ref q0), (0, .ref b)]) hx hb dL_holds_17 rfl hl (by decide) rfl (fun ls hl => ?_)
  refine lv_bipush (v := 60) hx hb dL_holds_18 (by decide) ?_
  refine xn_newa (atype := .int) (a0 := (60, .inl (fun _ => 0))) hx hb harr (hK.2 0 _ rfl).2 hP hD hS hA9 rfl (by decide) (by decide) (Nat.le_of_ble_eq_true rfl) (Nat.le_of_ble_eq_true rfl) (Nat.le_of_ble_eq_true rfl) dL_holds_20 (fun a2 H hP hD hS => ?_)
  refine W.widen (k := 18) (n := 418) (Nat.le_of_ble_eq_true rfl) (Nat.le_of_ble_eq_true rfl) ?_
  refine lv_astore (lv' := [(4, .ref a2), (3, .ref a1), (2, .ref a0), (1, .ref q0), (0, .ref b)]) hx hb dL_holds_22 hl (by decide) rfl (fun ls hl => ?_)
  refine lv_bipush (v := 12) hx hb dL_holds_24 (by decide) ?_
  refine xn_newa (atype := .int) (a0 := (12, .inl (fun _ => 0))) hx hb harr (hK.2 0 _ rfl).2 hP hD hS hA9 rfl (by decide) (by decide) (Nat.le_of_ble_eq_true rfl) (Nat.le_of_ble_eq_true rfl) (Nat.le_of_ble_eq_true rfl) dL_holds_26 (fun a3 H hP hD hS => ?_)
  refine W.widen (k := 19) (n := 430) (Nat.le_of_ble_eq_true rfl) (Nat.le_of_ble_eq_true rfl) ?_
  refine lv_astore (lv' := [(5, .ref a3), (4, .ref a2), (3, .ref a1), (2, .ref a0), (1, .ref q0), (0, .ref b)]) hx hb dL_holds_28 hl (by decide) rfl (fun ls hl => ?_)
  refine lv_bipush (v := 7) hx hb dL_holds_30 (by decide) ?_
  refine xn_newa (atype := .int) (a0 := (7, .inl (fun _ => 0))) hx hb harr (hK.2 0 _ rfl).2 hP hD hS hA9 rfl (by decide) (by decide) (Nat.le_of_ble_eq_true rfl) (Nat.le_of_ble_eq_true rfl) (Nat.le_of_ble_eq_true rfl) dL_holds_32 (fun a4 H hP hD hS => ?_)
  refine W.widen (k := 100) (n := 600) (Nat.le_of_ble_eq_true rfl) (Nat.le_of_ble_eq_true rfl) ?_
  refine lv_astore (lv' := [(6, .ref a4), (5, .ref a3), (4, .ref a2), (3, .ref a1), (2, .ref a0), (1, .ref q0), (0, .ref b)]) hx hb dL_holds_34 hl (by decide) rfl (fun ls hl => ?_)
  have hP : va_P D vwCl (xw (ad0 b q0 q5 q16 a0 a1 a2 a3 a4 u1 u2) tg (wY x00 y00 [])) H := by rw [xw_00]; exact hP
  have hD : va_D (xA base) (xw (ad0 b q0 q5 q16 a0 a1 a2 a3 a4 u1 u2) tg (wY x00 y00 [])) := by rw [xw_00]; exact hD
  have step := x_step (Q := Q01) (below := below) (e := e) (l := l) (ad0 := (ad0 b q0 q5 q16 a0 a1 a2 a3 a4 u1 u2)) (tn := none) (Qf := vx_MQ below (xQc D base tg ad k_L_holds Q01) (xXC D base tg ad Q01) args s (m_b k_L_holds) (6 * m_b k_L_holds) (xA base)) F ((ad0_77 b q0 q5 q16 a0 a1 a2 a3 a4 u1 u2).trans (eb.trans hsb)) (x_met hst xok_all 23) (fun H locs ls pc x w u hP hD hS hu hq hdec hrr => by
      have hx1 : x = nI 1 := by injection hq with h1; injection h1 with h2; injection h2
      subst hx1
      refine W.widen (k := m_b k_L_holds) (n := 6 * m_b k_L_holds) hu (by omega) (vx_ret ?_)
      refine W.zret (v := nI 1) (ty := .boolean) hx B.bytes hr (by decide) (fun t ht hW => ?_) hS.2.2 hdec hlocks
      exact ⟨⟨nI 1, [], rfl, rfl, (fun k q h => by simp [xw] at h), (fun i j p q h => by simp [xw] at h), (fun k q h => by simp [xw] at h)⟩, hS.F ht⟩) (fun _ _ _ _ _ _ _ _ _ _ hq _ _ => by cases hq) (fun _ _ _ _ _ _ _ _ _ _ _ _ _ _ _ _ _ hq _ _ => by cases hq) (fun _ _ _ _ _ _ _ _ _ _ _ _ _ _ _ hq _ _ _ _ => by cases hq)
  have k2 := l_hStart (xs := xs) hL2 (xgoal p l e (xrm 24 k_L_holds) s m args below meth c (vx_MQ below (xQc D base tg ad k_L_holds Q01) (xXC D base tg ad Q01) args s (m_b k_L_holds) (6 * m_b k_L_holds) (xA base)) D base tg none (ad0 b q0 q5 q16 a0 a1 a2 a3 a4 u1 u2) 10 (m_b k_L_holds)) step
  exact k2 (ad0 b q0 q5 q16 a0 a1 a2 a3 a4 u1 u2) xag.rf H _ ls hP hD hS (lv_sub hl [6, 5, 4, 3, 2, 1, 0] rfl) (Nat.le_of_ble_eq_true rfl)
def clH (k9 : Nat) (k : Nat) (as : List Value) (w : xW) (P : xR → xW → Prop) : Prop := k = k9 ∧ as = [.ref 77] ∧ w = [] ∧ P = Q01
set_option maxRecDepth 100000 in
theorem isHeld_w (sc : Option (Nat × (Nat → Int32))) : xWp (m_i k_L_isHeld) (m_b k_L_isHeld) (sc, m_t k_L_isHeld) (m_hd k_L_isHeld) (clH k_L_holds) Q01 (0, xini (m_L k_L_isHeld) [.ref 77], [], [], 0) := by
  refine xWp.gq rfl trivial rfl (P := Q01) ⟨rfl, rfl, rfl, rfl⟩ (show 0 + 60000 ≤ 60000 by decide) (fun r w9 h9 => ?_)
  have h9 : r = .inl (some (.int (nI 1))) := h9
  subst h9
  show xWp (m_i k_L_isHeld) (m_b k_L_isHeld) (sc, m_t k_L_isHeld) (m_hd k_L_isHeld) (clH k_L_holds) Q01 (4, _, _, _, _)
  exact xWp.gf rfl trivial rfl (Or.inr (Or.inr rfl)) rfl
theorem isHeld_met {l : Launch} {D : va_G} {base : Nat} {tg : Nat → ClassId} {sb L : Nat} {xs : Nat → Int32} (hL2 : L ≤ 260) (hst : l.stackTraces = false) (ad : Nat → Nat) : xMet l D base tg (some (L, xs)) sb ad 25 k_L_isHeld [.ref 77] [] Q01 :=
  x_metG hst xok_all (cl := clH k_L_holds) (fun ad k as w P h => by
    obtain ⟨rfl, rfl, rfl, rfl⟩ := h
    exact holds_met hL2 hst ad) (isHeld_w (some (L, xs)))
set_option maxRecDepth 100000 in
theorem law_w (sc : Option (Nat × (Nat → Int32))) : xWp (m_i k_L_law) (m_b k_L_law) (sc, none) (m_hd k_L_law) (clH k_L_isHeld) Q01 (0, [some (.ref 77)], [], [], 0) := by
  refine xWp.gq rfl trivial rfl (P := Q01) ⟨rfl, rfl, rfl, rfl⟩ (show 0 + 60000 ≤ 60000 by decide) (fun r w9 h9 => ?_)
  have h9 : r = .inl (some (.int (nI 1))) := h9
  subst h9
  show xWp (m_i k_L_law) (m_b k_L_law) (sc, none) (m_hd k_L_law) (clH k_L_isHeld) Q01 (4, _, _, _, _)
  exact xWp.gf rfl trivial rfl (Or.inr (Or.inr rfl)) rfl
end HO
