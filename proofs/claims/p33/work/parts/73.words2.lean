/-! the tables of the methods are right, 2: the words of the throws -/
section CK2
set_option maxRecDepth 100000 in
theorem xN_38 : xps (vx_atS RX2 38 (xexc 1) xnames) [21, 173, 182, 186, 189, 191, 174, 175, 43, 44, 176, 181, 187, 207, 163, 208, 165, 209, 167, 177, 179, 169, 203, 204, 206, 169, 230, 231, 232, 197, 155, 197, 198, 199, 200, 157, 200, 201, 202, 203, 159, 229, 220, 221, 222, 184, 223, 224, 225, 226, 172, 171, 227] = true := by decide +kernel
set_option maxRecDepth 100000 in
theorem xN_97 : xps (vx_atS RX2 97 (xexc 2) xnames) [21, 173, 182, 186, 189, 191, 174, 175, 43, 44, 176, 181, 187, 207, 163, 208, 165, 209, 167, 177, 179, 169, 203, 204, 206, 169, 285, 286, 287, 197, 155, 197, 198, 199, 200, 157, 200, 201, 202, 203, 159, 284, 275, 276, 277, 185, 278, 279, 280, 281, 172, 171, 282] = true := by decide +kernel
set_option maxRecDepth 100000 in
theorem xN_116 : xps (vx_atS RX2 116 (xexc 0) xnames) [21, 173, 182, 186, 189, 191, 174, 175, 43, 44, 176, 181, 187, 207, 163, 208, 165, 209, 167, 177, 179, 169, 203, 204, 206, 169, 194, 195, 196, 197, 155, 197, 198, 199, 200, 157, 200, 201, 202, 203, 159, 193, 152, 153, 160, 161, 162, 164, 166, 168, 172, 171, 170] = true := by decide +kernel
def xNb (o : String) (r1 r2 : Nat) : Bool := decide (o = RX2) && (Nat.beq r2 38 && Nat.beq r1 1 || (Nat.beq r2 97 && Nat.beq r1 2 || Nat.beq r2 116 && Nat.beq r1 0))
theorem xN_ok {o : String} {r1 r2 : Nat} (h : xNb o r1 r2 = true) : ∀ w ∈ vx_atS o r2 (xexc r1) xnames, w ∈ lw_tbl ∧ xmv w = true := by
  unfold xNb at h
  rw [Bool.and_eq_true] at h
  have h0 : o = RX2 := of_decide_eq_true h.1
  subst h0
  have h1 := h.2
  simp only [Bool.or_eq_true, Bool.and_eq_true] at h1
  rcases h1 with ⟨h2, h3⟩ | ⟨h2, h3⟩ | ⟨h2, h3⟩ <;> (have h2 := Nat.eq_of_beq_eq_true h2; have h3 := Nat.eq_of_beq_eq_true h3; subst h2; subst h3)
  · exact xps_ok xN_38
  · exact xps_ok xN_97
  · exact xps_ok xN_116
def xlwk (k : Nat) (e : xI) : List Jvm.Cond := match e.2.1 with
  | .invokevirtual i => [.methodLink (m_o k) i (m_y e.2.2.2.1)]
  | .invokestatic i => [if e.2.2.2.2.2.1 = 0 then .methodLink (m_o k) i (m_y e.2.2.2.1) else .methodLinkNest (m_o k) i (m_y e.2.2.2.1) "Cardgate"]
  | .new i => if Nat.ble e.2.2.2.2.2.2 1 = true then [.classLink (m_o k) i (xexc e.2.2.2.1), .initialized (xexc e.2.2.2.1)] else []
  | _ => xreq k e
def xcal (k : Nat) (e : xI) : Bool := match e.2.1 with
  | .invokevirtual _ => xLV.any (Nat.beq e.2.2.2.1)
  | .invokestatic _ => xLS.any (Nat.beq e.2.2.2.1)
  | .new _ => if Nat.ble e.2.2.2.2.2.2 1 = true then xNb (m_o k) e.2.2.2.1 e.2.2.2.2.1 else true
  | _ => true
theorem xneed_ok {k : Nat} {e : xI} (hw : ∀ w ∈ xlwk k e, w ∈ lw_tbl ∧ xmv w = true) (hc : xcal k e = true) : ∀ w ∈ xreq k e, w ∈ lw_tbl ∧ xmv w = true := by
  obtain ⟨pc, ins, nx, r1, r2, r3, r4⟩ := e
  unfold xcal at hc
  split at hc
  · rename_i i hi
    dsimp only at hi
    subst hi
    intro w h
    rcases List.mem_cons.mp (show w ∈ Jvm.Cond.methodLink (m_o k) i (m_y r1) :: xwV r1 from h) with h1 | h1
    · exact hw w (h1 ▸ List.mem_cons_self)
    · exact xLV_ok hc w h1
  · rename_i i hi
    dsimp only at hi
    subst hi
    intro w h
    rcases List.mem_cons.mp (show w ∈ (if r3 = 0 then Jvm.Cond.methodLink (m_o k) i (m_y r1) else Jvm.Cond.methodLinkNest (m_o k) i (m_y r1) "Cardgate") :: xwS r1 from h) with h1 | h1
    · exact hw w (h1 ▸ List.mem_cons_self)
    · exact xLS_ok hc w h1
  · rename_i i hi
    dsimp only at hi
    subst hi
    intro w h
    have h : w ∈ (if Nat.ble r4 1 = true then Jvm.Cond.classLink (m_o k) i (xexc r1) :: Jvm.Cond.initialized (xexc r1) :: vx_atS (m_o k) r2 (xexc r1) xnames else []) := h
    have hw : ∀ w ∈ (if Nat.ble r4 1 = true then [Jvm.Cond.classLink (m_o k) i (xexc r1), Jvm.Cond.initialized (xexc r1)] else []), w ∈ lw_tbl ∧ xmv w = true := hw
    have hc : (if Nat.ble r4 1 = true then xNb (m_o k) r1 r2 else true) = true := hc
    by_cases h0 : Nat.ble r4 1 = true
    · rw [if_pos h0] at h hw hc
      rcases List.mem_cons.mp h with h1 | h1
      · exact hw w (h1 ▸ List.mem_cons_self)
      rcases List.mem_cons.mp h1 with h2 | h2
      · exact hw w (h2 ▸ List.mem_cons_of_mem _ List.mem_cons_self)
      · exact xN_ok hc w h2
    · rw [if_neg h0] at h
      exact absurd h List.not_mem_nil
  · rename_i h1 h2 h3
    intro w h
    refine hw w ?_
    unfold xlwk
    split
    · rename_i i hi
      exact absurd hi (h1 i)
    · rename_i i hi
      exact absurd hi (h2 i)
    · rename_i i hi
      exact absurd hi (h3 i)
    · exact h
def xls (k : Nat) : List Jvm.Cond := (m_i k).flatten.flatMap (xlwk k) ++ xhreq k
def xokB (k : Nat) : Bool := (m_i k).flatten.all (fun e => xchk k e && xcal k e) && xhchk k && plainName (m_y k).cls && decide ((m_y k).cls = m_o k ∧ m_L k ≤ 20 ∧ (m_r k = none ∨ m_r k = some .int ∨ m_r k = some .boolean))
theorem xok_of {k : Nat} {ps : List Nat} (hp : xps (xls k) ps = true) (h : xokB k = true) : xok k := by
  unfold xokB at h
  simp only [Bool.and_eq_true, List.all_eq_true, decide_eq_true_eq] at h
  obtain ⟨⟨⟨h1, h2⟩, h4⟩, h5, h6, h7⟩ := h
  have h8 := xps_ok hp
  exact ⟨fun e he => ⟨(h1 e he).1, xneed_ok (fun w hw => h8 w (List.mem_append_left _ (List.mem_flatMap.mpr ⟨e, he, hw⟩))) (h1 e he).2⟩, h2, fun w hw => h8 w (List.mem_append_right _ hw), h4, h5, h6, h7⟩
end CK2
