/-! the machine of places is sound, 3: methods -/
section SD3
variable {l : Launch} {D : va_G} {base : Nat} {tg : Nat → ClassId} {sc : Option (Nat × (Nat → Int32))} {sb : Nat} {ad : Nat → Nat}
theorem xfit : ∀ r, r < 3 → Bundle.fit (xexc r) = true := by decide +kernel
theorem xfitn : ∀ n ∈ xnames, Bundle.fit n = true := by decide +kernel
theorem x_sl : ∀ as : List Value, (∀ v ∈ as, v.category ≠ 2) → (lg_sl (as.map (xv ad))).length = as.length
  | [], _ => rfl
  | v :: as, h => by
    have h1 := x_sl as (fun v hv => h v (List.mem_cons_of_mem _ hv))
    unfold lg_sl at h1 ⊢
    rw [List.map_cons, List.flatMap_cons, List.length_append, h1, xv_cat, if_neg (h v List.mem_cons_self)]
    simp [Nat.add_comm]
set_option maxHeartbeats 4000000 in
theorem x_body {p : Program} {e : Env} {R : Room} {s : State} {m : MethodId} {args : Array Value} {below : List Frame} {meth : Method} {c : Code} {n k : Nat} {as : List Value} {w : xW} {Q : xR → xW → Prop} (hst : l.stackTraces = false)
    {cl : Nat → List Value → xW → (xR → xW → Prop) → Prop} (hsb : ad 77 = sb) (ih : ∀ ad k' as w P, cl k' as w P → xMet l D base tg sc sb ad n k' as w P) (h : xWp (m_i k) (m_b k) (sc, m_t k) (m_hd k) cl Q (0, xini (m_L k) as, [], w, 0)) (hcat : ∀ v ∈ as, v.category ≠ 2) (hlen : as.length ≤ m_L k) (F : xfr p R s m args meth c D base tg sc sb k (m_b k) n) (hr : meth.sig.returnType = m_r k) (hP : va_P D vwCl (xw ad tg w) s.heap) (hD : va_D (xA base) (xw ad tg w)) :
    W p l e R s m args below meth c s.heap [] 0 0 (vx_MQ below (xQc D base tg ad k Q) (xXC D base tg ad Q) args s (m_b k) (6 * m_b k) (xA base)) (entryFrame m (as.map (xv ad)).toArray (m_L k)) := by
  rw [lg_entry_eq]
  have hl0 := lv_entry (as.map (xv ad)) (n := m_L k) (by rw [x_sl as hcat]; exact hlen)
  generalize (lg_sl (as.map (xv ad)) ++ List.replicate (m_L k - (lg_sl (as.map (xv ad))).length) Slot.unset).toArray = ls at hl0 ⊢
  have hl : lv_has ls (m_L k) (xlv ad 0 (xini (m_L k) as)) := ⟨hl0.1, hl0.2.1, fun q hq => hl0.2.2 q (xlv_ini hcat q hq)⟩
  obtain ⟨hx, hb, hml, hown, hlocks, h0, hok, htab, hRf, hRl, hRc, hRs, hbase⟩ := id F
  refine h (xgoal p l e R s m args below meth c (vx_MQ below (xQc D base tg ad k Q) (xXC D base tg ad Q) args s (m_b k) (6 * m_b k) (xA base)) D base tg (m_t k) ad (m_L k) (m_b k)) (x_step F hsb ih ?_ ?_ ?_ ?_) ad xag.rf s.heap [] ls hP hD va_S.rf hl (Nat.zero_le _)
  · intro H locs ls pc x w u hP hD hS hu hQ hdg hrr
    refine W.widen (k := m_b k) (n := 6 * m_b k) hu (by omega) (vx_ret ?_)
    rcases hrr with hrr | ⟨hrr, hz⟩
    · refine W.zret (v := x) (ty := .int) hx hb (hr.trans hrr) rfl (fun t ht hW => ?_) hS.2.2 hdg hlocks
      unfold xQc
      rw [hrr]
      exact ⟨⟨x, w, rfl, hQ, by rw [ht]; exact hP, hD⟩, hS.F ht⟩
    · refine W.zret (v := x) (ty := .boolean) hx hb (hr.trans hrr) (by rcases hz with rfl | rfl <;> decide) (fun t ht hW => ?_) hS.2.2 hdg hlocks
      unfold xQc
      rw [hrr]
      exact ⟨⟨x, w, rfl, hQ, by rw [ht]; exact hP, hD⟩, hS.F ht⟩
  · intro H locs ls pc w u hP hD hS hu hQ hdg hrr
    refine W.widen (k := m_b k) (n := 6 * m_b k) hu (by omega) (vx_ret ?_)
    refine W.vret hx hb (hr.trans hrr) (fun t ht hW => ?_) hS.2.2 hdg hlocks
    unfold xQc
    rw [hrr]
    exact ⟨⟨w, rfl, hQ, by rw [ht]; exact hP, hD⟩, hS.F ht⟩
  · intro H locs ls pc i nx r1 r2 r3 r4 w u hP hD hS hsz hu hQ hr4 hmem
    obtain ⟨hck, hrq⟩ := hok.1 _ hmem
    unfold xchk at hck
    dsimp only at hck
    rw [Bool.and_eq_true, if_pos hr4, Bool.and_eq_true, Bool.and_eq_true] at hck
    obtain ⟨-, ⟨hck1, hck2⟩, hck3⟩ := hck
    obtain ⟨hmh, hr1⟩ := of_decide_eq_true hck2
    obtain ⟨q, hq, hq2⟩ := List.any_eq_true.mp hck3
    obtain ⟨hq3, hq4⟩ := of_decide_eq_true hq2
    obtain ⟨sa, hsa⟩ := h0.2.2.2.1 q hq
    rw [hq3, hq4] at hsa
    unfold xreq at hrq
    dsimp only at hrq
    rw [if_pos hr4] at hrq
    have hout : ∀ x ∈ c.exceptionTable.toList, ∀ z, covers x z = false := by
      rw [htab, hmh]
      intro x hx
      cases hx
    have hgood : ∀ z ∈ Jvm.Cond.classLink (m_o k) i (xexc r1) :: Jvm.Cond.initialized (xexc r1) :: vx_atS (m_o k) r2 (xexc r1) xnames, vx_ot z = true := fun z hz => by
      unfold vx_ot
      rw [xmv_tab (hrq z hz).2]
      rfl
    have hXC : ∀ t : State, s.vm.Alike t.vm → H.size ≤ t.heap.size → (∀ q : Nat, q < H.size → t.heap[q]? = H[q]?) → xXC D base tg ad Q (xexc r1) s t := fun t _ h1 h2 =>
      ⟨(r1, w), ⟨hQ, hr1⟩, ⟨rfl, hP.kept (fun j q hj => h2 q.1 (hP j q hj).lt), hD⟩, Nat.le_trans hS.1 h1, fun q hq1 hq2 => by rw [h2 q (Nat.lt_of_lt_of_le hq1 hS.1)]; exact hS.2.1 q hq1 hq2⟩
    have hat : ∀ z ∈ vx_atS (m_o k) r2 (xexc r1) xnames, z.before args s = true := fun z hz => xfr_w F (hrq z (List.mem_cons_of_mem _ (List.mem_cons_of_mem _ hz)))
    have hb1 : xnames.length + 3 < R.frames := by show 2 + 3 < R.frames; omega
    have hb2 : (([] : List Value).map fun v => v.category).sum + (13 * (xnames.length + 1) + 43) ≤ R.locals := by show 0 + (13 * (2 + 1) + 43) ≤ R.locals; omega
    have hw0 := xfr_w F (hrq _ List.mem_cons_self)
    have hw1 := xfr_w F (hrq _ (List.mem_cons_of_mem _ List.mem_cons_self))
    match r4, hck1 with
    | 0, hck1 =>
      obtain ⟨d0, d3, d4, d6, d9⟩ := of_decide_eq_true hck1
      exact vx_throwS hx hb hst hown (xfit _ hr1) xfitn hw0 hw1 hsa hat hgood h0.2.1 h0.2.2.1 hS (hsz.trans hml.symm) d0 d3 d4 d6 d9 (fun x hx => hout x hx _) hb1 hb2 (by omega) (by omega) hlocks hXC hS.2.2 (by omega) (by omega)
    | r4 + 1, hck1 =>
      obtain ⟨d0, d3, d4, d6, d9⟩ := of_decide_eq_true hck1
      exact vx_throwSW hx hb hst hown (xfit _ hr1) xfitn hw0 hw1 hsa hat hgood h0.2.1 h0.2.2.1 hS (hsz.trans hml.symm) d0 d3 d4 d6 d9 (fun x hx => hout x hx _) hb1 hb2 (by omega) (by omega) hlocks hXC hS.2.2 (by omega) (by omega)
  · intro H locs ls pc E rest w u ce q hP hD hS hu hE hQ hhd hce hv hcl
    refine vx_widen (k := m_b k) (n := 6 * m_b k) hu (by omega) ?_
    refine vx_out (fun x hx => ?_) hlocks hce hv hcl (fun t ht _ => ⟨(E, w), ⟨hQ, hE⟩, ⟨rfl, by rw [ht]; exact hP, hD⟩, hS.F ht⟩) hS.2.2 (Nat.le_refl _) (Nat.le_refl _)
    exfalso
    have hh := hok.2.1
    unfold xhchk at hh
    rw [htab] at hx
    cases hmh : m_h k with
    | none => rw [hmh] at hx; cases hx
    | some hh0 =>
      rw [hmh, hhd] at hh
      dsimp only at hh
      rw [Bool.and_eq_true] at hh
      obtain ⟨e1, -⟩ := of_decide_eq_true hh.1
      rw [List.zip_nil_right] at e1
      rw [hmh, e1] at hx
      cases hx
theorem x_metG (hst : l.stackTraces = false) (hok : ∀ k, xok k) {cl : Nat → List Value → xW → (xR → xW → Prop) → Prop} {n : Nat} (ih : ∀ (ad : Nat → Nat) (k : Nat) (as : List Value) (w : xW) (P : xR → xW → Prop), cl k as w P → xMet l D base tg sc sb ad n k as w P) {ad : Nat → Nat} {k : Nat} {as : List Value} {w : xW} {Q : xR → xW → Prop} (h : xWp (m_i k) (m_b k) (sc, m_t k) (m_hd k) cl Q (0, xini (m_L k) as, [], w, 0)) : xMet l D base tg sc sb ad (n + 1) k as w Q := by
    intro hsb hcat hlen
    obtain ⟨hrows, hhc, hhr, hpl, hcls, hmL, hmr⟩ := id (hok k)
    cases hmh : m_h k with
    | none =>
      have hxc : xcode k = .code (m_y k) (m_c k) (m_L k) (m_r k) := by unfold xcode; rw [hmh]
      rw [hxc]
      refine vx_ofW (cc := m_c k) (maxL := m_L k) (ret := m_r k) hpl rfl ?_
      intro p e s m args below meth c s₁ B hml htab hv
      obtain ⟨rfl, h0, hbs, hP, hD⟩ := hv
      refine x_body hst hsb ih h hcat hlen ⟨B.exec, B.bytes, hml, by rw [← hcls]; exact findClass_of_methodNamed B.named, B.notSynchronized, h0, hok k, ?_, ?_, ?_, Nat.le_refl _, Nat.le_refl _, hbs⟩ B.returns hP hD
      · rw [hmh]
        exact List.eq_nil_iff_forall_not_mem.mpr (fun x hx => htab x hx)
      · show 10 + n < 10 + (n + 1)
        omega
      · show 100 + 40 * n + 40 ≤ 100 + 40 * (n + 1)
        omega
    | some hh =>
      have hxc : xcode k = .codeWith (m_y k) (m_c k) (m_L k) (m_r k) hh := by unfold xcode; rw [hmh]
      rw [hxc]
      refine vx_ofWH (cc := m_c k) (maxL := m_L k) (ret := m_r k) (hh := hh) hpl rfl ?_
      intro p e s m args below meth c s₁ B hml hv
      obtain ⟨rfl, h0, hbs, hP, hD⟩ := hv
      refine x_body hst hsb ih h hcat hlen ⟨B.exec, B.bytes, hml, by rw [← hcls]; exact findClass_of_methodNamed B.named, B.notSynchronized, h0, hok k, ?_, ?_, ?_, Nat.le_refl _, Nat.le_refl _, hbs⟩ B.returns hP hD
      · rw [hmh]
        exact vx_table (x := m_y k) B (atoms_spec (ws := [Jvm.Cond.codeWith (m_y k) (m_c k) (m_L k) (m_r k) hh]) B.pre _ List.mem_cons_self)
      · show 10 + n < 10 + (n + 1)
        omega
      · show 100 + 40 * n + 40 ≤ 100 + 40 * (n + 1)
        omega

theorem x_met (hst : l.stackTraces = false) (hok : ∀ k, xok k) : ∀ (n : Nat) (ad : Nat → Nat) (k : Nat) (as : List Value) (w : xW) (Q : xR → xW → Prop), xCW sc n k as w Q → xMet l D base tg sc sb ad n k as w Q
  | 0, _, _, _, _, _, h => h.elim
  | n + 1, ad, k, as, w, Q, h => x_metG hst hok (x_met hst hok n) h
end SD3
