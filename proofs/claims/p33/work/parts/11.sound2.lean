/-! the machine of places is sound, 2: one step -/
section SD2
def xA (base : Nat) : Nat → Prop := fun q => base ≤ q
def xtys (tg : Nat → ClassId) : List (ClassId × FieldType) := [(tg 0, .int)]
/-- what is the same in every frame -/
def xS0 (D : va_G) (base : Nat) (tg : Nat → ClassId) (sc : Option (Nat × (Nat → Int32))) (sb : Nat) (U : State) : Prop :=
  (∀ w ∈ lw_tbl, xmv w = true → va_Nw w U) ∧ vx_Zq Bundle.tN "UNASSIGNED_STACK" Bundle.steD (xA base) U U.heap ∧ vx_Zq Bundle.tN "SUPPRESSED_SENTINEL" Bundle.listD (xA base) U U.heap ∧
  (∀ q ∈ xstr, ∃ a, vk_R q.1 q.2.1 q.2.2 a U) ∧ (∀ q ∈ xnc, va_Nc (xexc q.1) (xexc q.2) U) ∧ va_K D vwCl (xtys tg) U ∧ ∀ (L : Nat) (xs : Nat → Int32), sc = some (L, xs) → va_X sb L xs U U.heap ∧ sb < base ∧ base ≤ U.heap.size
def xBa (D : va_G) (base : Nat) (tg : Nat → ClassId) (ad : Nat → Nat) (w : xW) (t : State) : Prop := va_P D vwCl (xw ad tg w) t.heap ∧ va_D (xA base) (xw ad tg w)
def xB (D : va_G) (base : Nat) (tg : Nat → ClassId) (sc : Option (Nat × (Nat → Int32))) (sb : Nat) (ad : Nat → Nat) (w : xW) (U : State) : Prop := xS0 D base tg sc sb U ∧ base ≤ U.heap.size ∧ xBa D base tg ad w U
def xrm (n k : Nat) : Room := { frames := 10 + n, cells := m_b k, slots := 6 * m_b k, locals := 100 + 40 * n }
def xQc (D : va_G) (base : Nat) (tg : Nat → ClassId) (ad : Nat → Nat) (k : Nat) (Q : xR → xW → Prop) : Array Value → State → Outcome → State → Prop := match m_r k with
  | none => va_Qv (fun u : xW => Q (.inl none) u) (xBa D base tg ad) (xA base)
  | some _ => va_Qi (fun (r : Int32) (u : xW) => Q (.inl (some (.int r))) u) (xBa D base tg ad) (xA base)
def xXC (D : va_G) (base : Nat) (tg : Nat → ClassId) (ad : Nat → Nat) (Q : xR → xW → Prop) : String → State → State → Prop :=
  vx_X (fun u : Nat × xW => Q (.inr u.1) u.2 ∧ u.1 < 3) (fun E u t => E = xexc u.1 ∧ xBa D base tg ad u.2 t) (xA base)
/-- method k is a contract -/
def xMet (l : Launch) (D : va_G) (base : Nat) (tg : Nat → ClassId) (sc : Option (Nat × (Nat → Int32))) (sb : Nat) (ad : Nat → Nat) (n k : Nat) (as : List Value) (w : xW) (Q : xR → xW → Prop) : Prop :=
  ad 77 = sb → (∀ v ∈ as, v.category ≠ 2) → as.length ≤ m_L k → vx_Met l (m_y k) [xcode k] (xrm n k) (va_Pc (as.map (xv ad)) (xB D base tg sc sb ad w)) (xQc D base tg ad k Q) (xXC D base tg ad Q) (m_b k) (6 * m_b k) (xA base)
theorem xS0_move {D : va_G} {base : Nat} {tg : Nat → ClassId} {sc : Option (Nat × (Nat → Int32))} {sb : Nat} {s U : State} {H : Heap} {locs : List Loc} (h : xS0 D base tg sc sb s) (hS : va_S (xA base) s.heap H locs) (hU : U.heap = H) (hW : s.WarmedH U.vm) : xS0 D base tg sc sb U := by
  subst hU
  obtain ⟨h1, h2, h3, h4, h5, h6, h7⟩ := h
  exact ⟨fun w hw hm => xmv_warm hm hW (h1 w hw hm), vx_Zq.moved hW.alike (h2.kept hS.2.1), vx_Zq.moved hW.alike (h3.kept hS.2.1), fun q hq => (h4 q hq).elim fun a ha => ⟨a, vk_R.warm hW ha⟩, fun q hq => va_Nc.moved hW.alike (h5 q hq), va_K.moved hW.alike h6, fun L xs e => by
    obtain ⟨g1, g2, g3⟩ := h7 L xs e
    exact ⟨va_X.moved hW.alike (g1.kept (hS.2.1 _ (Nat.lt_of_lt_of_le g2 g3) (Nat.not_le.mpr g2))), g2, Nat.le_trans g3 hS.1⟩⟩
theorem xB_blind {D : va_G} {base : Nat} {tg : Nat → ClassId} {sc : Option (Nat × (Nat → Int32))} {sb : Nat} {ad : Nat → Nat} {w : xW} {av : List Value} : FrameBlind (va_Pc av (xB D base tg sc sb ad w)) := by
  intro a U g mk h
  obtain ⟨h0, ⟨h1, h2, h3, h4, h5, h6, h10⟩, h7, h8, h9⟩ := h
  refine ⟨h0, ⟨fun w hw hm => va_Nw.same (u := U) (U := U.calling g mk a) (xmv_tab hm) rfl (h1 w hw hm), vx_Zq.moved (u := U) (U := U.calling g mk a) (Vm.Alike.refl U.vm) h2, vx_Zq.moved (u := U) (U := U.calling g mk a) (Vm.Alike.refl U.vm) h3, fun q hq => (h4 q hq).elim fun a9 ha => ⟨a9, vk_R.same (u := U) (U := U.calling g mk a) rfl ha⟩, fun q hq => va_Nc.moved (u := U) (U := U.calling g mk a) (Vm.Alike.refl U.vm) (h5 q hq), va_K.moved (u := U) (U := U.calling g mk a) (Vm.Alike.refl U.vm) h6, fun L xs e => ⟨va_X.moved (u := U) (U := U.calling g mk a) (Vm.Alike.refl U.vm) (h10 L xs e).1, (h10 L xs e).2⟩⟩, h7, h8, h9⟩
theorem xcl_in : ∀ q ∈ vwCl, ∀ w ∈ u_ws q.1 q.2.1 q.2.2, w ∈ lw_tbl ∧ xmv w = true := by decide +kernel
theorem xcl_ty : ∀ q ∈ vwCl, (∀ k, k < q.2.2 → (parseFieldDescriptor (q.2.1 k).2.2.1).isSome = true) ∧ ∀ a, a < q.2.2 → ∀ b, b < q.2.2 → a ≠ b → (q.2.1 a).2.1 ≠ (q.2.1 b).2.1 := by decide +kernel
theorem xz_nar {x : Int32} (h : xz x) : vp_nar .boolean x = x := by rcases h with rfl | rfl <;> decide
/-- places are where they were, but for those that were made here -/
def xag (tn : Option Nat) (ad0 ad : Nat → Nat) : Prop := ad 77 = ad0 77 ∧ match tn with
  | none => ad = ad0
  | some n0 => ∀ i, i < n0 → ad i = ad0 i
theorem xag.rf {tn : Option Nat} {ad : Nat → Nat} : xag tn ad ad := ⟨rfl, by cases tn with | none => exact rfl | some n => exact fun _ _ => rfl⟩
theorem xv_low {n : Nat} {ad ad0 : Nat → Nat} (h : ∀ i, i < n → ad i = ad0 i) {v : Value} (hv : xlw n v = true) : xv ad v = xv ad0 v := by
  cases v
  case ref i =>
    show Value.ref (ad i) = Value.ref (ad0 i)
    rw [h i (Nat.le_of_ble_eq_true hv)]
  all_goals rfl
theorem xc_low {n : Nat} {ad ad0 : Nat → Nat} {tg : Nat → ClassId} (h : ∀ i, i < n → ad i = ad0 i) {c : xC} (hc : xlow n c = true) : xc ad tg c = xc ad0 tg c := by
  rcases c with ⟨t, a⟩ | ⟨ci, fs⟩
  · rfl
  · show Sum.inr (ci, fs.map (xv ad)) = Sum.inr (ci, fs.map (xv ad0))
    have h1 : ∀ v ∈ fs, xlw n v = true := fun v hv => List.all_eq_true.mp (show fs.all (xlw n) = true from hc) v hv
    rw [List.map_congr_left (fun v hv => xv_low h (h1 v hv))]
theorem xw_low {n : Nat} {ad ad0 : Nat → Nat} {tg : Nat → ClassId} (h : ∀ i, i < n → ad i = ad0 i) {w : xW} (hw : (w.take n).all (xlow n) = true) : xw ad0 tg (w.take n) = (xw ad tg w).take n := by
  apply List.ext_getElem?
  intro j
  unfold xw
  rw [List.getElem?_mapIdx, List.getElem?_take, List.getElem?_take, List.getElem?_mapIdx]
  by_cases hj : j < n
  · rw [if_pos hj, if_pos hj]
    cases hc : w[j]? with
    | none => rfl
    | some c =>
      have hm : c ∈ w.take n := List.mem_of_getElem? (i := j) (by rw [List.getElem?_take, if_pos hj, hc])
      show some (ad0 j, xc ad0 tg c) = some (ad j, xc ad tg c)
      rw [h j hj, xc_low h (List.all_eq_true.mp hw c hm)]
  · rw [if_neg hj, if_neg hj]; rfl
theorem xv_nr {N q : Nat} {ad : Nat → Nat} {v : Value} (hv : xnr N v = true) : xv (fun i => if i = N then q else ad i) v = xv ad v := by
  cases v
  case ref i =>
    show Value.ref (if i = N then q else ad i) = Value.ref (ad i)
    rw [if_neg (fun e => ?_)]
    subst e
    unfold xnr at hv
    dsimp only at hv
    rw [Nat.beq_refl] at hv
    cases hv
  all_goals rfl
theorem xc_nr {N q : Nat} {ad : Nat → Nat} {tg : Nat → ClassId} {c : xC} (hc : xnrC N c = true) : xc (fun i => if i = N then q else ad i) tg c = xc ad tg c := by
  rcases c with ⟨t, a⟩ | ⟨ci, fs⟩
  · rfl
  · show Sum.inr (ci, fs.map _) = Sum.inr (ci, fs.map (xv ad))
    have h1 : ∀ v ∈ fs, xnr N v = true := fun v hv => List.all_eq_true.mp (show fs.all (xnr N) = true from hc) v hv
    rw [List.map_congr_left (fun v hv => xv_nr (h1 v hv))]
theorem xw_nr {q : Nat} {ad : Nat → Nat} {tg : Nat → ClassId} {w : xW} {c : xC} (hw : w.all (xnrC w.length) = true) (hc : xnrC w.length c = true) : xw (fun i => if i = w.length then q else ad i) tg (w ++ [c]) = xw ad tg w ++ [(q, xc ad tg c)] := by
  unfold xw
  rw [List.mapIdx_append]
  congr 1
  · apply List.ext_getElem?
    intro j
    rw [List.getElem?_mapIdx, List.getElem?_mapIdx]
    cases hj : w[j]? with
    | none => rfl
    | some d =>
      have hl : j < w.length := (List.getElem?_eq_some_iff.mp hj).1
      have hd := List.all_eq_true.mp hw d (List.mem_of_getElem? hj)
      show some ((if j = w.length then q else ad j), xc _ tg d) = some (ad j, xc ad tg d)
      rw [if_neg (by omega), xc_nr hd]
  · rw [List.mapIdx_cons, List.mapIdx_nil, Nat.zero_add]
    show [((if w.length = w.length then q else ad w.length), xc _ tg c)] = _
    rw [if_pos rfl, xc_nr hc]
theorem xlv_nr {N q : Nat} {ad : Nat → Nat} : ∀ (L : xL) (i : Nat), L.all (fun o => match o with | some v => xnr N v | none => true) = true → xlv (fun i => if i = N then q else ad i) i L = xlv ad i L
  | [], _, _ => rfl
  | none :: L, i, h => by
    rw [xlv, xlv]
    rw [List.all_cons, Bool.and_eq_true] at h
    exact xlv_nr L (i + 1) h.2
  | some v :: L, i, h => by
    rw [xlv, xlv]
    rw [List.all_cons, Bool.and_eq_true] at h
    rw [xlv_nr L (i + 1) h.2, xv_nr h.1]
theorem xst_nr {N q : Nat} {ad : Nat → Nat} {st : List Value} (h : st.all (xnr N) = true) : st.map (xv (fun i => if i = N then q else ad i)) = st.map (xv ad) :=
  List.map_congr_left (fun v hv => xv_nr (List.all_eq_true.mp h v hv))
def xgoal (p : Program) (l : Launch) (e : Env) (R : Room) (s : State) (m : MethodId) (args : Array Value) (below : List Frame) (meth : Method) (c : Code) (Qf : State → Prop) (D : va_G) (base : Nat) (tg : Nat → ClassId) (tn : Option Nat) (ad0 : Nat → Nat) (nL bm : Nat) (st : xS) : Prop :=
  ∀ (ad : Nat → Nat), xag tn ad0 ad → ∀ (H : Heap) (locs : List Loc) (ls : Array Slot), va_P D vwCl (xw ad tg st.2.2.2.1) H → va_D (xA base) (xw ad tg st.2.2.2.1) → va_S (xA base) s.heap H locs → lv_has ls nL (xlv ad 0 st.2.1) → st.2.2.2.2 ≤ bm →
    W p l e R s m args below meth c H locs st.2.2.2.2 (6 * st.2.2.2.2) Qf (F0 m st.1 ls (st.2.2.1.map (xv ad)))
section Step
variable {p : Program} {l : Launch} {e : Env} {R : Room} {s : State} {m : MethodId} {args : Array Value} {below : List Frame} {meth : Method} {c : Code} {Qf : State → Prop}
variable {D : va_G} {base : Nat} {tg : Nat → ClassId} {ad : Nat → Nat} {k bm n : Nat} {sc : Option (Nat × (Nat → Int32))} {sb : Nat} {tn : Option Nat} {cl : Nat → List Value → xW → (xR → xW → Prop) → Prop} {Q : xR → xW → Prop}
/-- what holds in the frame of method k -/
def xfr (p : Program) (R : Room) (s : State) (m : MethodId) (args : Array Value) (meth : Method) (c : Code) (D : va_G) (base : Nat) (tg : Nat → ClassId) (sc : Option (Nat × (Nat → Int32))) (sb : Nat) (k bm n : Nat) : Prop :=
  p.tables.exec = Jvm.exec ∧ c.code = m_c k ∧ c.maxLocals = m_L k ∧ s.vm.findClass (m_o k) = some m.cls ∧ meth.locks = false ∧ xS0 D base tg sc sb s ∧ xok k ∧ c.exceptionTable.toList = tableOf ((m_h k).getD []) ∧
  10 + n < R.frames ∧ 100 + 40 * n + 40 ≤ R.locals ∧ bm ≤ R.cells ∧ 6 * bm ≤ R.slots ∧ base ≤ s.heap.size
theorem xfr_w (F : xfr p R s m args meth c D base tg sc sb k bm n) {w : Jvm.Cond} (h : w ∈ lw_tbl ∧ xmv w = true) : w.before args s = true := va_Nw.use (xmv_tab h.2) (F.2.2.2.2.2.1.1 w h.1 h.2)
theorem x_ldi {L : xL} {i nx : Nat} {stk : List Value} {w : xW} {u : Nat} {hd : List (Nat × Nat × Nat)} {G : xS → Prop} (h : xFo tn hd cl Q G (xldi L i nx stk w u)) : ∃ x : Int32, L[i]? = some (some (.int x)) ∧ G (nx, L, .int x :: stk, w, u) := by
  unfold xldi at h
  split at h
  · exact ⟨_, by assumption, h⟩
  · exact h.elim
theorem x_lda {L : xL} {i nx : Nat} {stk : List Value} {w : xW} {u : Nat} {hd : List (Nat × Nat × Nat)} {G : xS → Prop} (h : xFo tn hd cl Q G (xlda L i nx stk w u)) : ∃ x : Nat, L[i]? = some (some (.ref x)) ∧ G (nx, L, .ref x :: stk, w, u) := by
  unfold xlda at h
  split at h
  · exact ⟨_, by assumption, h⟩
  · exact h.elim
theorem x_sti {L : xL} {i nx : Nat} {stk : List Value} {w : xW} {u : Nat} {hd : List (Nat × Nat × Nat)} {G : xS → Prop} (h : xFo tn hd cl Q G (xsti L i nx stk w u)) : ∃ (x : Int32) (st : List Value), stk = .int x :: st ∧ G (nx, L.set i (some (.int x)), st, w, u) := by
  unfold xsti at h
  split at h
  · exact ⟨_, _, rfl, h⟩
  · exact h.elim
theorem x_sta {L : xL} {i nx : Nat} {stk : List Value} {w : xW} {u : Nat} {hd : List (Nat × Nat × Nat)} {G : xS → Prop} (h : xFo tn hd cl Q G (xsta L i nx stk w u)) : ∃ (x : Nat) (st : List Value), stk = .ref x :: st ∧ G (nx, L.set i (some (.ref x)), st, w, u) := by
  unfold xsta at h
  split at h
  · exact ⟨_, _, rfl, h⟩
  · exact h.elim
theorem x_bin {f : Int32 → Int32 → Int32} {L : xL} {nx : Nat} {stk : List Value} {w : xW} {u : Nat} {hd : List (Nat × Nat × Nat)} {G : xS → Prop} (h : xFo tn hd cl Q G (xbin f L nx stk w u)) : ∃ (x y : Int32) (st : List Value), stk = .int y :: .int x :: st ∧ G (nx, L, .int (f x y) :: st, w, u) := by
  unfold xbin at h
  split at h
  · exact ⟨_, _, _, rfl, h⟩
  · exact h.elim
theorem xfr_mv (F : xfr p R s m args meth c D base tg sc sb k bm n) {w : Jvm.Cond} (h : w ∈ lw_tbl ∧ xmv w = true) {a' : Array Value} {U : State} (hW : s.WarmedH U.vm) : w.before a' U = true := va_Nw.use (xmv_tab h.2) (xmv_warm h.2 hW (F.2.2.2.2.2.1.1 w h.1 h.2))
theorem x_sum : ∀ st : List Value, (st.map fun v => v.category).sum ≤ 2 * st.length
  | [] => Nat.le_refl 0
  | v :: st => by
    have h1 : v.category ≤ 2 := by cases v <;> simp [Value.category]
    have h2 := x_sum st
    simp only [List.map_cons, List.sum_cons, List.length_cons]
    omega
theorem xnc_in (a : Nat) (ha : a < 3) (b : Nat) (hb : b < 3) (h : a ≠ b) : (a, b) ∈ xnc := by
  rcases (show a = 0 ∨ a = 1 ∨ a = 2 by omega) with rfl | rfl | rfl <;> rcases (show b = 0 ∨ b = 1 ∨ b = 2 by omega) with rfl | rfl | rfl <;> first | exact absurd rfl h | simp [xnc]
theorem x_catch (F : xfr p R s m args meth c D base tg sc sb k bm n) {E q9 pc hp sl cells slots E9 : Nat} {L : xL} {H : Heap} {locs : List Loc} {ls : Array Slot} {rest : List Value} {ce : Cell} (hE : E < 3) (hfind : (m_hd k).find? (fun q => Nat.beq q.1 E) = some (E9, hp, sl)) (hcov : ((m_h k).getD []).all (fun q => decide (q.1 ≤ pc ∧ pc < q.2.1)) = true)
    (hcell : H[q9]? = some ce) (hv : ce.vm = .none) (hcl : s.vm.findClass (xexc E) = some ce.cls) (hl : lv_has ls (m_L k) (xlv ad 0 L))
    (kk : ∀ ls' : Array Slot, lv_has ls' (m_L k) (xlv ad 0 (L.set sl none)) → W p l e R s m args below meth c H locs cells slots Qf (F0 m hp ls' [])) : vx_W p l e R s m args below meth c H locs cells slots Qf (F0 m pc ls rest) q9 := by
  obtain ⟨hx, hb, hml, hown, hlocks, h0, hok, htab, hRf, hRl, hRc, hRs, hbase⟩ := id F
  have hh := hok.2.1
  unfold xhchk at hh
  cases hmh : m_h k with
  | none =>
    rw [hmh] at hh
    rw [of_decide_eq_true hh] at hfind
    cases hfind
  | some hh0 =>
    rw [hmh] at hh htab hcov
    dsimp only [Option.getD_some] at hh htab hcov
    rw [Bool.and_eq_true] at hh
    obtain ⟨hz, hall⟩ := hh
    obtain ⟨e1, e2⟩ := of_decide_eq_true hz
    have hreq := hok.2.2.1
    unfold xhreq at hreq
    rw [hmh] at hreq
    dsimp only [Option.getD_some] at hreq
    generalize hh0.zip (m_hd k) = z at e1 e2 hall hreq
    rw [e2, List.find?_map, Option.map_eq_some_iff] at hfind
    obtain ⟨x, hf1, hf2⟩ := hfind
    obtain ⟨hpx, za, zb, hzz, hna⟩ := List.find?_eq_some_iff_append.mp hf1
    obtain ⟨⟨s9, e9, h9, ct⟩, ⟨E8, hp8, sl8⟩⟩ := x
    cases hf2
    have hE9 : E9 = E := Nat.eq_of_beq_eq_true hpx
    subst hE9
    have hxm : (((s9, e9, h9, ct), (E9, hp, sl)) : (Nat × Nat × Nat × Nat) × (Nat × Nat × Nat)) ∈ z := by rw [hzz]; exact List.mem_append_right _ List.mem_cons_self
    have hc := List.all_eq_true.mp hall _ hxm
    dsimp only at hc
    rw [Bool.and_eq_true] at hc
    obtain ⟨hc1, hc2⟩ := hc
    obtain ⟨hct, hE3, hsl⟩ := of_decide_eq_true hc1
    have hwl : ∀ y ∈ z, (Jvm.Cond.classLink (m_o k) y.1.2.2.2 (xexc y.2.1)).before args s = true ∧ (Jvm.Cond.castable (xexc y.2.1) (xexc y.2.1)).before args s = true := fun y hy =>
      ⟨xfr_w F (hreq _ (List.mem_flatMap.mpr ⟨y, hy, List.mem_cons_self⟩)), xfr_w F (hreq _ (List.mem_flatMap.mpr ⟨y, hy, List.mem_cons_of_mem _ List.mem_cons_self⟩))⟩
    have hcv : ∀ y ∈ z, y.1.1 ≤ pc ∧ pc < y.1.2.1 := fun y hy => of_decide_eq_true (List.all_eq_true.mp hcov y.1 (by rw [e1]; exact List.mem_map_of_mem hy))
    have hsplit : c.exceptionTable.toList = tableOf (za.map Prod.fst) ++ ⟨s9, e9, h9, ct⟩ :: tableOf (zb.map Prod.fst) := by
      rw [htab, e1, hzz]
      simp [tableOf]
    refine vx_catch hown (tableOf (za.map Prod.fst)) ⟨s9, e9, h9, ct⟩ (tableOf (zb.map Prod.fst)) hsplit ?_ ?_ hct (hwl _ hxm).1 (hwl _ hxm).2 hcell hv hcl ?_
    · intro y hy
      unfold tableOf at hy
      rw [List.map_map] at hy
      obtain ⟨y0, hy0, rfl⟩ := List.mem_map.mp hy
      have hyz : y0 ∈ z := by rw [hzz]; exact List.mem_append_left _ hy0
      have hc5 := List.all_eq_true.mp hall _ hyz
      obtain ⟨⟨s5, e5, h5, ct5⟩, ⟨E5, hp5, sl5⟩⟩ := y0
      dsimp only at hc5
      rw [Bool.and_eq_true] at hc5
      obtain ⟨hct5, hE5, -⟩ := of_decide_eq_true hc5.1
      refine Or.inr ⟨hct5, xexc E5, (hwl _ hyz).1, h0.2.2.2.2.1 (E9, E5) (xnc_in _ hE _ hE5 ?_)⟩
      intro h
      subst h
      have := hna _ hy0
      simp at this
    · obtain ⟨h1, h2⟩ := hcv _ hxm
      simp only [covers, Bool.and_eq_true, decide_eq_true_eq]
      exact ⟨h1, h2⟩
    · rcases Bool.or_eq_true_iff.mp hc2 with h | h
      · rw [Bool.and_eq_true] at h
        obtain ⟨ha, hb2⟩ := h
        obtain ⟨rfl, -⟩ := of_decide_eq_true ha
        obtain ⟨j, -, hj⟩ := List.any_eq_true.mp hb2
        obtain ⟨hj1, hj2⟩ := of_decide_eq_true hj
        exact lv_astore_n hx hb hj2 hj1 hl hsl rfl (fun ls' hl' => kk ls' (xlv_set (fun z hz => by cases hz) hl'))
      · obtain ⟨rfl, h2⟩ := of_decide_eq_true h
        exact lv_astore hx hb h2 hl hsl rfl (fun ls' hl' => kk ls' (xlv_set (fun z hz => by cases hz) hl'))
theorem xdp_sum {st : List Value} (h : xdp st = true) : ((st.map (xv ad)).map fun v => v.category).sum ≤ 8 := by
  unfold xdp at h
  rcases Bool.or_eq_true_iff.mp h with h | h
  · have h1 := Nat.le_of_ble_eq_true h
    have := x_sum (st.map (xv ad))
    rw [List.length_map] at this
    omega
  · rw [Bool.and_eq_true] at h
    obtain ⟨h1, h2⟩ := h
    have h1 := Nat.le_of_ble_eq_true h1
    have gen : ∀ st : List Value, st.all (fun v => Nat.ble v.category 1) = true → ((st.map (xv ad)).map fun v => v.category).sum ≤ st.length := by
      intro st
      induction st with
      | nil => intro _; exact Nat.le_refl _
      | cons v st ih =>
        intro h
        rw [List.all_cons, Bool.and_eq_true] at h
        have h3 := ih h.2
        have h4 := Nat.le_of_ble_eq_true h.1
        rw [List.map_cons, List.map_cons, List.sum_cons, xv_cat, List.length_cons]
        omega
    have := gen st h2
    omega
theorem x_end {ad0 : Nat → Nat} {hd : List (Nat × Nat × Nat)} {G : xS → Prop} {g : Prop} {r : xR} {w : xW} {H : Heap} (h : xFo tn hd cl Q G (xend tn g r w)) (hag : xag tn ad0 ad) (hP : va_P D vwCl (xw ad tg w) H) (hD : va_D (xA base) (xw ad tg w)) : g ∧ ∃ w0, Q r w0 ∧ va_P D vwCl (xw ad0 tg w0) H ∧ va_D (xA base) (xw ad0 tg w0) := by
  cases tn with
  | none =>
    obtain rfl : ad = ad0 := hag.2
    exact ⟨h.1, w, h.2, hP, hD⟩
  | some n =>
    unfold xend at h
    dsimp only at h
    split at h
    · rename_i hlow
      refine ⟨h.1, _, h.2, ?_, ?_⟩
      · rw [xw_low hag.2 hlow]
        exact hP.by id (fun k q hk => by
          rw [List.getElem?_take] at hk
          split at hk
          · exact hk
          · cases hk)
      · rw [xw_low hag.2 hlow]
        exact hD.by id (fun k q hk => by
          rw [List.getElem?_take] at hk
          split at hk
          · exact hk
          · cases hk) (fun i j _ _ e => e)
    · exact h.elim
set_option maxHeartbeats 8000000 in
set_option maxRecDepth 100000 in
theorem x_step (F : xfr p R s m args meth c D base tg sc sb k bm n) {ad0 : Nat → Nat} (hsb : ad0 77 = sb) (hcall : ∀ ad k' as w P, cl k' as w P → xMet l D base tg sc sb ad n k' as w P)
    (hret : ∀ (H : Heap) (locs : List Loc) (ls : Array Slot) (pc : Nat) (x : Int32) (w : xW) (u : Nat), va_P D vwCl (xw ad0 tg w) H → va_D (xA base) (xw ad0 tg w) → va_S (xA base) s.heap H locs → u ≤ bm → Q (.inl (some (.int x))) w → decode (m_c k) pc = .ok (.ireturn, 1) → (m_r k = some .int ∨ (m_r k = some .boolean ∧ xz x)) → W p l e R s m args below meth c H locs u (6 * u) Qf (F0 m pc ls [.int x]))
    (hvret : ∀ (H : Heap) (locs : List Loc) (ls : Array Slot) (pc : Nat) (w : xW) (u : Nat), va_P D vwCl (xw ad0 tg w) H → va_D (xA base) (xw ad0 tg w) → va_S (xA base) s.heap H locs → u ≤ bm → Q (.inl none) w → decode (m_c k) pc = .ok (.return_, 1) → m_r k = none → W p l e R s m args below meth c H locs u (6 * u) Qf (F0 m pc ls []))
    (hthr : ∀ (H : Heap) (locs : List Loc) (ls : Array Slot) (pc i nx r1 r2 r3 r4 : Nat) (w : xW) (u : Nat), va_P D vwCl (xw ad0 tg w) H → va_D (xA base) (xw ad0 tg w) → va_S (xA base) s.heap H locs → ls.size = m_L k → u + 1 ≤ bm → Q (.inr r1) w → Nat.ble r4 1 = true → (pc, Instr.new i, nx, r1, r2, r3, r4) ∈ (m_i k).flatten → W p l e R s m args below meth c H locs u (6 * u) Qf (F0 m pc ls []))
    (hout : ∀ (H : Heap) (locs : List Loc) (ls : Array Slot) (pc E : Nat) (rest : List Value) (w : xW) (u : Nat) (ce : Cell) (q : Addr), va_P D vwCl (xw ad0 tg w) H → va_D (xA base) (xw ad0 tg w) → va_S (xA base) s.heap H locs → u ≤ bm → E < 3 → Q (.inr E) w → m_hd k = [] → H[q]? = some ce → ce.vm = .none → s.vm.findClass (xexc E) = some ce.cls → vx_W p l e R s m args below meth c H locs u (6 * u) Qf (F0 m pc ls rest) q) :
    ∀ st : xS, xF (m_i k) bm (sc, tn) (m_hd k) cl Q (xgoal p l e R s m args below meth c Qf D base tg tn ad0 (m_L k) bm) st → xgoal p l e R s m args below meth c Qf D base tg tn ad0 (m_L k) bm st := by
  intro st
  obtain ⟨pc, L, stk, w, u⟩ := st
  intro hF ad hag H locs ls hP hD hS hl hu
  dsimp only at hP hD hl hu ⊢
  unfold xF xo at hF
  dsimp only at hF
  cases hat : xat (m_i k) pc with
  | none => rw [hat] at hF; exact hF.elim
  | some e0 =>
  rw [hat] at hF
  obtain ⟨hmem, hpc⟩ := xat_mem hat
  obtain ⟨pc', ins, nx, r1, r2, r3, r4⟩ := e0
  dsimp only at hpc hF
  subst hpc
  have hck := F.2.2.2.2.2.2.1.1 _ hmem
  obtain ⟨hck, hrq⟩ := hck
  obtain ⟨hx, hb, hml, hown, hlocks, h0, hok, htab, hRf, hRl, hRc, hRs, hbase⟩ := id F
  have hK := h0.2.2.2.2.2.1
  have hsba : ad 77 = sb := hag.1.trans hsb
  unfold xchk at hck
  dsimp only at hck
  rw [Bool.and_eq_true, decide_eq_true_eq] at hck
  obtain ⟨hdg, hck⟩ := hck
  cases ins
  case iconst i =>
    dsimp only at hF hck
    obtain ⟨rfl, hv⟩ := of_decide_eq_true hck
    rw [Nat.add_sub_cancel_left] at hdg
    exact lv_iconst hx hb hdg hv (hF ad hag H locs ls hP hD hS hl hu)
  case bipush i =>
    dsimp only at hF hck
    obtain ⟨rfl, hv⟩ := of_decide_eq_true hck
    rw [Nat.add_sub_cancel_left] at hdg
    exact lv_bipush hx hb hdg hv (hF ad hag H locs ls hP hD hS hl hu)
  case sipush i =>
    dsimp only at hF hck
    obtain ⟨rfl, hv⟩ := of_decide_eq_true hck
    rw [Nat.add_sub_cancel_left] at hdg
    exact lv_sipush hx hb hdg hv (hF ad hag H locs ls hP hD hS hl hu)
  case ldc i =>
    dsimp only at hF hck
    obtain rfl := of_decide_eq_true hck
    rw [Nat.add_sub_cancel_left] at hdg
    cases r4 with
    | succ r => exact hF.elim
    | zero =>
      unfold xreq at hrq; dsimp only at hrq
      exact lv_ldc hx hb hown (xfr_w F (hrq _ List.mem_cons_self)) hdg (hF ad hag H locs ls hP hD hS hl hu)
  case ldc_w i =>
    dsimp only at hF hck
    obtain rfl := of_decide_eq_true hck
    rw [Nat.add_sub_cancel_left] at hdg
    cases r4 with
    | succ r => exact hF.elim
    | zero =>
      unfold xreq at hrq; dsimp only at hrq
      exact lv_ldcw hx hb hown (xfr_w F (hrq _ List.mem_cons_self)) hdg (hF ad hag H locs ls hP hD hS hl hu)
  case lconst i =>
    dsimp only at hF hck
    obtain rfl := of_decide_eq_true hck
    rw [Nat.add_sub_cancel_left] at hdg
    exact lv_lconst hx hb hdg rfl (hF ad hag H locs ls hP hD hS hl hu)
  case iload i =>
    dsimp only at hF hck
    obtain ⟨x, hx1, hG⟩ := x_ldi hF
    obtain rfl := of_decide_eq_true hck
    rw [Nat.add_sub_cancel_left] at hdg
    exact lv_iload hx hb hdg (xlv_at hl hx1 (fun z => by cases z)) (hG ad hag H locs ls hP hD hS hl hu)
  case iload_n i =>
    dsimp only at hF hck
    obtain ⟨x, hx1, hG⟩ := x_ldi hF
    obtain rfl := of_decide_eq_true hck
    rw [Nat.add_sub_cancel_left] at hdg
    exact lv_iload_n hx hb hdg rfl (xlv_at hl hx1 (fun z => by cases z)) (hG ad hag H locs ls hP hD hS hl hu)
  case aload i =>
    dsimp only at hF hck
    obtain ⟨x, hx1, hG⟩ := x_lda hF
    obtain rfl := of_decide_eq_true hck
    rw [Nat.add_sub_cancel_left] at hdg
    exact lv_aload hx hb hdg (xlv_at hl hx1 (fun z => by cases z)) (hG ad hag H locs ls hP hD hS hl hu)
  case aload_n i =>
    dsimp only at hF hck
    obtain ⟨x, hx1, hG⟩ := x_lda hF
    obtain rfl := of_decide_eq_true hck
    rw [Nat.add_sub_cancel_left] at hdg
    exact lv_aload_n hx hb hdg rfl (xlv_at hl hx1 (fun z => by cases z)) (hG ad hag H locs ls hP hD hS hl hu)
  case istore i =>
    dsimp only at hF hck
    obtain ⟨x, st, rfl, hG⟩ := x_sti hF
    obtain ⟨rfl, hi⟩ := of_decide_eq_true hck
    rw [Nat.add_sub_cancel_left] at hdg
    exact lv_istore hx hb hdg hl hi rfl (fun ls' hl' => hG ad hag H locs ls' hP hD hS (xlv_set (fun z hz => by cases hz; rfl) hl') hu)
  case istore_n i =>
    dsimp only at hF hck
    obtain ⟨x, st, rfl, hG⟩ := x_sti hF
    obtain ⟨rfl, hi⟩ := of_decide_eq_true hck
    rw [Nat.add_sub_cancel_left] at hdg
    exact lv_istore_n hx hb hdg rfl hl hi rfl (fun ls' hl' => hG ad hag H locs ls' hP hD hS (xlv_set (fun z hz => by cases hz; rfl) hl') hu)
  case astore i =>
    dsimp only at hF hck
    obtain ⟨x, st, rfl, hG⟩ := x_sta hF
    obtain ⟨rfl, hi⟩ := of_decide_eq_true hck
    rw [Nat.add_sub_cancel_left] at hdg
    exact lv_astore hx hb hdg hl hi rfl (fun ls' hl' => hG ad hag H locs ls' hP hD hS (xlv_set (fun z hz => by cases hz; rfl) hl') hu)
  case astore_n i =>
    dsimp only at hF hck
    obtain ⟨x, st, rfl, hG⟩ := x_sta hF
    obtain ⟨rfl, hi⟩ := of_decide_eq_true hck
    rw [Nat.add_sub_cancel_left] at hdg
    exact lv_astore_n hx hb hdg rfl hl hi rfl (fun ls' hl' => hG ad hag H locs ls' hP hD hS (xlv_set (fun z hz => by cases hz; rfl) hl') hu)
  case iinc i n9 =>
    dsimp only at hF hck
    split at hF
    · rename_i x hx1
      obtain ⟨rfl, hv⟩ := of_decide_eq_true hck
      rw [Nat.add_sub_cancel_left] at hdg
      have hx2 := xlv_at hl hx1 (fun z => by cases z)
      have hi : i < m_L k := by rw [← hl.1]; exact (Array.getElem?_eq_some_iff.mp hx2).1
      obtain ⟨j, hj⟩ := List.getElem?_of_mem ((xlv_mem (ad := ad) L 0 (i, .int x)).mpr ⟨i, .int x, hx1, (fun z => by cases z), by rw [Nat.zero_add]; rfl⟩)
      exact lv_iinc hx hb hdg hl hj (by rw [hv]) hi rfl (fun ls' hl' => hF ad hag H locs ls' hP hD hS (xlv_set (fun z hz => by cases hz; rfl) hl') hu)
    · exact hF.elim
  case iadd =>
    dsimp only at hF hck
    obtain ⟨x, y, st, rfl, hG⟩ := x_bin hF
    obtain rfl := of_decide_eq_true hck
    rw [Nat.add_sub_cancel_left] at hdg
    exact lv_iadd hx hb hdg (hG ad hag H locs ls hP hD hS hl hu)
  case isub =>
    dsimp only at hF hck
    obtain ⟨x, y, st, rfl, hG⟩ := x_bin hF
    obtain rfl := of_decide_eq_true hck
    rw [Nat.add_sub_cancel_left] at hdg
    exact lv_isub hx hb hdg (hG ad hag H locs ls hP hD hS hl hu)
  case imul =>
    dsimp only at hF hck
    obtain ⟨x, y, st, rfl, hG⟩ := x_bin hF
    obtain rfl := of_decide_eq_true hck
    rw [Nat.add_sub_cancel_left] at hdg
    exact lv_imul hx hb hdg (hG ad hag H locs ls hP hD hS hl hu)
  case iand =>
    dsimp only at hF hck
    obtain ⟨x, y, st, rfl, hG⟩ := x_bin hF
    obtain rfl := of_decide_eq_true hck
    rw [Nat.add_sub_cancel_left] at hdg
    exact lv_iand hx hb hdg (hG ad hag H locs ls hP hD hS hl hu)
  case ior =>
    dsimp only at hF hck
    obtain ⟨x, y, st, rfl, hG⟩ := x_bin hF
    obtain rfl := of_decide_eq_true hck
    rw [Nat.add_sub_cancel_left] at hdg
    exact lv_ior hx hb hdg (hG ad hag H locs ls hP hD hS hl hu)
  case ixor =>
    dsimp only at hF hck
    obtain ⟨x, y, st, rfl, hG⟩ := x_bin hF
    obtain rfl := of_decide_eq_true hck
    rw [Nat.add_sub_cancel_left] at hdg
    exact lv_ixor hx hb hdg (hG ad hag H locs ls hP hD hS hl hu)
  case ishl =>
    dsimp only at hF hck
    obtain ⟨x, y, st, rfl, hG⟩ := x_bin hF
    obtain rfl := of_decide_eq_true hck
    rw [Nat.add_sub_cancel_left] at hdg
    exact lv_ishl hx hb hdg (hG ad hag H locs ls hP hD hS hl hu)
  case iushr =>
    dsimp only at hF hck
    obtain ⟨x, y, st, rfl, hG⟩ := x_bin hF
    obtain rfl := of_decide_eq_true hck
    rw [Nat.add_sub_cancel_left] at hdg
    exact lv_iushr hx hb hdg rfl (hG ad hag H locs ls hP hD hS hl hu)
  case idiv =>
    dsimp only at hF hck
    obtain rfl := of_decide_eq_true hck
    rw [Nat.add_sub_cancel_left] at hdg
    split at hF
    · exact lv_idiv hx hb hdg hF.1 (hF.2 ad hag H locs ls hP hD hS hl hu)
    · exact hF.elim
  case irem =>
    dsimp only at hF hck
    obtain rfl := of_decide_eq_true hck
    rw [Nat.add_sub_cancel_left] at hdg
    split at hF
    · exact lv_irem hx hb hdg hF.1 (hF.2 ad hag H locs ls hP hD hS hl hu)
    · exact hF.elim
  case ishr =>
    dsimp only at hF hck
    obtain ⟨x, y, st, rfl, hG⟩ := x_bin hF
    obtain rfl := of_decide_eq_true hck
    rw [Nat.add_sub_cancel_left] at hdg
    exact lv_ishr hx hb hdg (hG ad hag H locs ls hP hD hS hl hu)
  case newarray aty =>
    cases aty
    case int =>
      dsimp only at hF hck
      obtain ⟨rfl, hr6, hr100, hr1⟩ := of_decide_eq_true hck
      rw [Nat.add_sub_cancel_left] at hdg
      have hw0 : (Jvm.Cond.arrayClass .int).before args s = true := by
        obtain ⟨-, k9, hk9, comp9, hkd9⟩ := (hK.2 0 _ rfl).1 0 (fun _ => .null)
        have hf9 : s.vm.findClass ("[" ++ (FieldType.int).toString) = some (tg 0) := (hK.2 0 _ rfl).2
        have hk9 : s.vm.classes[tg 0]? = some k9 := hk9
        simp [Cond.before, Cond.holds, Cond.value, hf9, hk9, hkd9]
      split at hF
      · rename_i x st
        split at hF
        · rename_i n0 hfr
          split at hF
          · rename_i hn0
            obtain ⟨⟨hxn, hub⟩, hG⟩ := hF
            subst hxn
            rw [Bool.and_eq_true, Bool.and_eq_true] at hfr
            obtain ⟨hfr, hlen, h60⟩ := hfr
            have hlen := Nat.eq_of_beq_eq_true hlen
            have h60 := Nat.le_of_ble_eq_true h60
            have hn0 := Nat.le_of_ble_eq_true hn0
            subst hlen
            unfold xfree at hfr
            rw [Bool.and_eq_true, Bool.and_eq_true] at hfr
            obtain ⟨hf1, hf2, hf3⟩ := hfr
            refine xn_newa (atype := .int) (cA := tg 0) (N' := r1) (a0 := (r1, .inl (fun _ => 0))) hx hb hw0 (hK.2 0 _ rfl).2 hP hD hS (fun q hq => Nat.le_trans hbase hq) rfl (nI_pos (by omega)) (nI_clamp (by omega)) (Nat.le_trans (Nat.mul_le_mul_right _ hr100) (by decide)) (by omega) (by omega) hdg (fun q H1 hP1 hD1 hS1 => ?_)
            refine W.widen (k := u + r4) (n := 6 * (u + r4)) (by omega) (by omega) ?_
            have hag' : xag (some n0) ad0 (fun i => if i = w.length then q else ad i) := by
              obtain ⟨g1, g2⟩ := hag
              refine ⟨?_, fun i hi => ?_⟩
              · show (if 77 = w.length then q else ad 77) = ad0 77
                rw [if_neg (by omega)]; exact g1
              · show (if i = w.length then q else ad i) = ad0 i
                rw [if_neg (by omega)]; exact g2 i hi
            have ew : xw (fun i => if i = w.length then q else ad i) tg (w ++ [.inl (0, r1, .inl (fun _ => 0))]) = xw ad tg w ++ [(q, .inl (tg 0, r1, .inl (fun _ => 0)))] := xw_nr hf3 rfl
            have est : ((Value.ref w.length :: st).map (xv (fun i => if i = w.length then q else ad i))) = .ref q :: st.map (xv ad) := by
              rw [List.map_cons, xst_nr hf2]
              show Value.ref (if w.length = w.length then q else ad w.length) :: _ = _
              rw [if_pos rfl]
            have hk := hG _ hag' H1 locs ls (by show va_P D vwCl (xw _ tg (w ++ [_])) H1; rw [ew]; exact hP1) (by show va_D (xA base) (xw _ tg (w ++ [_])); rw [ew]; exact hD1) hS1 (by show lv_has ls (m_L k) (xlv _ 0 L); rw [xlv_nr L 0 hf1]; exact hl) hub
            dsimp only at hk
            rw [est] at hk
            exact hk
          · exact hF.elim
        · exact hF.elim
      · exact hF.elim
    all_goals exact hF.elim
  case i2l =>
    dsimp only at hF hck
    obtain rfl := of_decide_eq_true hck
    rw [Nat.add_sub_cancel_left] at hdg
    split at hF
    · exact lv_i2l hx hb hdg rfl (hF ad hag H locs ls hP hD hS hl hu)
    · exact hF.elim
  case lcmp =>
    dsimp only at hF hck
    obtain rfl := of_decide_eq_true hck
    rw [Nat.add_sub_cancel_left] at hdg
    split at hF
    · exact W.lcmp hx hb hdg (hF ad hag H locs ls hP hD hS hl hu)
    · exact hF.elim
  case dup =>
    dsimp only at hF hck
    obtain rfl := of_decide_eq_true hck
    rw [Nat.add_sub_cancel_left] at hdg
    split at hF
    · exact lv_dup hx hb hdg rfl (hF ad hag H locs ls hP hD hS hl hu)
    · exact lv_dup hx hb hdg rfl (hF ad hag H locs ls hP hD hS hl hu)
    · exact hF.elim
  case dup2 =>
    dsimp only at hF hck
    obtain rfl := of_decide_eq_true hck
    rw [Nat.add_sub_cancel_left] at hdg
    split at hF
    · exact lv_dup2_11 hx hb hdg rfl rfl (hF ad hag H locs ls hP hD hS hl hu)
    · exact hF.elim
  case pop =>
    dsimp only at hF hck
    obtain rfl := of_decide_eq_true hck
    rw [Nat.add_sub_cancel_left] at hdg
    split at hF
    · exact lv_pop hx hb hdg rfl (hF ad hag H locs ls hP hD hS hl hu)
    · exact hF.elim
  case goto off =>
    dsimp only at hF hck
    obtain ⟨rfl, ht⟩ := of_decide_eq_true hck
    rw [Nat.add_sub_cancel_left] at hdg
    exact lv_goto hx hb hdg ht (hF ad hag H locs ls hP hD hS hl hu)
  case ifCond cd off =>
    dsimp only at hF hck
    obtain ⟨rfl, ht⟩ := of_decide_eq_true hck
    rw [Nat.add_sub_cancel_left] at hdg
    split at hF
    · cases cd
      · exact lv_if_eq hx hb hdg ht (fun h => hF.1 h ad hag H locs ls hP hD hS hl hu) (fun h => hF.2 h ad hag H locs ls hP hD hS hl hu)
      · exact lv_if_ne hx hb hdg ht (fun h => hF.2 h ad hag H locs ls hP hD hS hl hu) (fun h => hF.1 h ad hag H locs ls hP hD hS hl hu)
      · exact lv_if_lt hx hb hdg ht (fun h => hF.1 h ad hag H locs ls hP hD hS hl hu) (fun h => hF.2 h ad hag H locs ls hP hD hS hl hu)
      · exact lv_if_ge hx hb hdg ht (fun h => hF.1 h ad hag H locs ls hP hD hS hl hu) (fun h => hF.2 h ad hag H locs ls hP hD hS hl hu)
      · exact lv_if_gt hx hb hdg ht (fun h => hF.1 h ad hag H locs ls hP hD hS hl hu) (fun h => hF.2 h ad hag H locs ls hP hD hS hl hu)
      · exact lv_if_le hx hb hdg ht (fun h => hF.1 h ad hag H locs ls hP hD hS hl hu) (fun h => hF.2 h ad hag H locs ls hP hD hS hl hu)
    · exact hF.elim
  case if_icmp cd off =>
    dsimp only at hF hck
    obtain ⟨rfl, ht⟩ := of_decide_eq_true hck
    rw [Nat.add_sub_cancel_left] at hdg
    split at hF
    · cases cd
      · exact lv_icmp_eq hx hb hdg ht (fun h => hF.1 h ad hag H locs ls hP hD hS hl hu) (fun h => hF.2 h ad hag H locs ls hP hD hS hl hu)
      · exact lv_icmp_ne hx hb hdg ht (fun h => hF.2 h ad hag H locs ls hP hD hS hl hu) (fun h => hF.1 h ad hag H locs ls hP hD hS hl hu)
      · exact lv_icmp_lt hx hb hdg ht (fun h => hF.1 h ad hag H locs ls hP hD hS hl hu) (fun h => hF.2 h ad hag H locs ls hP hD hS hl hu)
      · exact lv_icmp_ge hx hb hdg ht (fun h => hF.1 h ad hag H locs ls hP hD hS hl hu) (fun h => hF.2 h ad hag H locs ls hP hD hS hl hu)
      · exact lv_icmp_gt hx hb hdg ht (fun h => hF.1 h ad hag H locs ls hP hD hS hl hu) (fun h => hF.2 h ad hag H locs ls hP hD hS hl hu)
      · exact lv_icmp_le hx hb hdg ht (fun h => hF.1 h ad hag H locs ls hP hD hS hl hu) (fun h => hF.2 h ad hag H locs ls hP hD hS hl hu)
    · exact hF.elim
  case tableswitch d lo hi offs =>
    dsimp only at hF hck
    rw [Bool.and_eq_true] at hck
    obtain ⟨hck1, hck2⟩ := hck
    obtain ⟨hlh, hsz, hd0⟩ := of_decide_eq_true hck1
    split at hF
    · rename_i x st
      by_cases hr : x.toInt < lo ∨ hi < x.toInt
      · refine lv_tableOut hx hb hdg hr (tgt := xsw pc' d lo hi offs x) ?_ (hF ad hag H locs ls hP hD hS hl hu)
        unfold xsw; rw [if_pos hr]; omega
      · have h1 : ¬ x.toInt < lo := fun h => hr (Or.inl h)
        have h2 : ¬ hi < x.toInt := fun h => hr (Or.inr h)
        have h3 : (x.toInt - lo).toNat < offs.size := by omega
        have h4 : offs[(x.toInt - lo).toNat]? = some (offs[(x.toInt - lo).toNat]) := Array.getElem?_eq_getElem h3
        refine lv_tableIn hx hb hdg h1 h2 h4 (tgt := xsw pc' d lo hi offs x) ?_ (hF ad hag H locs ls hP hD hS hl hu)
        have h5 := Array.all_eq_true.mp hck2 _ h3
        have h6 := of_decide_eq_true h5
        unfold xsw; rw [if_neg hr, h4]; dsimp only; omega
    · exact hF.elim
  case getfield i =>
    dsimp only at hF hck
    unfold xreq at hrq; dsimp only at hrq
    split at hF
    · rename_i a st
      split at hF
      · rename_i ci fs hw
        split at hF
        · rename_i v hci hv
          obtain rfl := Nat.eq_of_beq_eq_true hci
          cases hcl : vwCl[ci]? with
          | none => rw [hcl] at hck; cases hck
          | some q =>
            obtain ⟨C, T, N⟩ := q
            rw [hcl] at hck hrq
            obtain ⟨rfl, hk9⟩ := of_decide_eq_true hck
            rw [Nat.add_sub_cancel_left] at hdg
            have hw9 := hrq _ List.mem_cons_self
            have hv9 : (fs.map (xv ad))[r2]? = some (xv ad v) := by rw [List.getElem?_map, hv]; rfl
            by_cases h3 : r3 = 0
            · rw [if_pos h3] at hw9
              exact va_get hx hb (Ts := u_ws C T N) (fun z hz => xfr_w F (xcl_in _ (List.mem_of_getElem? hcl) z hz)) (fun _ h => h) hown hK hP a (xw_at hw) hcl r2 hk9 (xfr_w F hw9) (fun _ h => h) hv9 hdg (hF ad hag H locs ls hP hD hS hl hu)
            · rw [if_neg h3] at hw9
              exact va_getN hx hb (Ts := u_ws C T N) (fun z hz => xfr_w F (xcl_in _ (List.mem_of_getElem? hcl) z hz)) (fun _ h => h) hown hK hP a (xw_at hw) hcl r2 hk9 (xfr_w F hw9) (fun _ h => h) hv9 hdg (hF ad hag H locs ls hP hD hS hl hu)
        · exact hF.elim
      · exact hF.elim
    · exact hF.elim
  case putfield i =>
    dsimp only at hF hck
    unfold xreq at hrq; dsimp only at hrq
    split at hF
    · rename_i x a st
      split at hF
      · rename_i ci fs hw
        split at hF
        · rename_i v hci hv
          obtain rfl := Nat.eq_of_beq_eq_true hci
          cases hcl : vwCl[ci]? with
          | none => rw [hcl] at hck; cases hck
          | some q =>
            obtain ⟨C, T, N⟩ := q
            rw [hcl] at hck hrq
            obtain ⟨rfl, hk9, hfin, hd9⟩ := of_decide_eq_true hck
            rw [Nat.add_sub_cancel_left] at hdg
            have hw9 := hrq _ List.mem_cons_self
            have hlen : r2 < (fs.map (xv ad)).length := by rw [List.length_map]; exact (List.getElem?_eq_some_iff.mp hv).1
            obtain ⟨hty, hnm⟩ := xcl_ty _ (List.mem_of_getElem? hcl)
            have e9 : xw ad tg (w.set a (.inr (ci, fs.set r2 (.int x)))) = (xw ad tg w).set a (ad a, .inr (ci, (fs.map (xv ad)).set r2 (.int x))) := by rw [xw_set]; simp [xc, List.map_set, xv]
            exact va_put hx hb (Ts := u_ws C T N) (fun z hz => xfr_w F (xcl_in _ (List.mem_of_getElem? hcl) z hz)) (fun _ h => h) (fun j => (parseFieldDescriptor (T j).2.2.1).getD .int) (fun j hj => by have := hty j hj; cases hp : parseFieldDescriptor (T j).2.2.1 with | none => rw [hp] at this; cases this | some z => rfl) hnm hown hK hP hD hS a (xw_at hw) hcl r2 hk9 (xfr_w F hw9) (fun _ h => h) hfin hd9 rfl rfl hlen hdg (fun H1 locs1 hP1 hD1 hS1 => hF ad hag H1 locs1 ls (by show va_P D vwCl (xw ad tg (w.set a _)) H1; rw [e9]; exact hP1) (by show va_D (xA base) (xw ad tg (w.set a _)); rw [e9]; exact hD1) hS1 hl hu)
        · exact hF.elim
      · exact hF.elim
    · exact hF.elim
  case iaload =>
    dsimp only at hF hck
    obtain rfl := of_decide_eq_true hck
    rw [Nat.add_sub_cancel_left] at hdg
    split at hF
    · rename_i i a st
      split at hF
      · rename_i n9 f hw
        exact va_iald hx hb hK hP a 0 (xw_at hw) rfl hF.1 hdg (hF.2 ad hag H locs ls hP hD hS hl hu)
      · exact hF.elim
      · split at hF
        · rename_i n9 xs hb9
          obtain rfl := Nat.eq_of_beq_eq_true hb9
          obtain ⟨hX, hbl, hbS⟩ := h0.2.2.2.2.2.2 _ _ rfl
          rw [← hsba] at hX hbl
          have hbA : ¬ xA base (ad 77) := Nat.not_le.mpr hbl
          have hbl := Nat.lt_of_lt_of_le hbl hbS
          exact va_sld hx hb hX hbl hbA hS hF.1 hdg (hF.2 ad hag H locs ls hP hD hS hl hu)
        · exact hF.elim
    · exact hF.elim
  case baload =>
    dsimp only at hck
    cases hck
  case laload =>
    dsimp only at hck
    cases hck
  case iastore =>
    dsimp only at hF hck
    obtain rfl := of_decide_eq_true hck
    rw [Nat.add_sub_cancel_left] at hdg
    split at hF
    · rename_i x i a st
      split at hF
      · rename_i n9 f hw
        have e9 : xw ad tg (w.set a (.inl (0, n9, .inl (upd f i.toNatClampNeg x)))) = (xw ad tg w).set a (ad a, .inl (tg 0, n9, .inl (upd f i.toNatClampNeg x))) := by rw [xw_set]; rfl
        exact va_iast hx hb hK hP hD hS a 0 (xw_at hw) rfl hF.1 hdg (fun H1 locs1 hP1 hD1 hS1 => hF.2 ad hag H1 locs1 ls (by show va_P D vwCl (xw ad tg (w.set a _)) H1; rw [e9]; exact hP1) (by show va_D (xA base) (xw ad tg (w.set a _)); rw [e9]; exact hD1) hS1 hl hu)
      · exact hF.elim
    · exact hF.elim
  case lastore =>
    dsimp only at hck
    cases hck
  case bastore =>
    dsimp only at hck
    cases hck
  case arraylength =>
    dsimp only at hF hck
    obtain rfl := of_decide_eq_true hck
    rw [Nat.add_sub_cancel_left] at hdg
    split at hF
    · rename_i a st
      split at hF
      · rename_i n9 f hw
        exact va_alen hx hb hK hP a 0 (xw_at hw) (ty := .int) rfl rfl hdg (hF ad hag H locs ls hP hD hS hl hu)
      · exact hF.elim
      · split at hF
        · rename_i n9 xs hb9
          obtain rfl := Nat.eq_of_beq_eq_true hb9
          obtain ⟨hX, hbl, hbS⟩ := h0.2.2.2.2.2.2 _ _ rfl
          rw [← hsba] at hX hbl
          have hbA : ¬ xA base (ad 77) := Nat.not_le.mpr hbl
          have hbl := Nat.lt_of_lt_of_le hbl hbS
          exact va_slen hx hb hX hbl hbA hS hdg (hF ad hag H locs ls hP hD hS hl hu)
        · exact hF.elim
    · exact hF.elim
  case ireturn =>
    dsimp only at hF hck
    obtain ⟨rfl, hr9⟩ := of_decide_eq_true hck
    rw [Nat.add_sub_cancel_left] at hdg
    split at hF
    · obtain ⟨hg9, w0, hQ9, hP9, hD9⟩ := x_end hF hag hP hD
      refine hret H locs ls _ _ w0 u hP9 hD9 hS hu hQ9 hdg ?_
      rcases hr9 with ⟨-, h⟩ | ⟨hn, h⟩
      · exact Or.inl h
      · exact Or.inr ⟨h, hg9.resolve_left hn⟩
    · exact hF.elim
  case return_ =>
    dsimp only at hF hck
    obtain ⟨rfl, hr9⟩ := of_decide_eq_true hck
    rw [Nat.add_sub_cancel_left] at hdg
    split at hF
    · obtain ⟨hg9, w0, hQ9, hP9, hD9⟩ := x_end hF hag hP hD
      exact hvret H locs ls _ w0 u hP9 hD9 hS hu hQ9 hdg hr9
    · exact hF.elim
  case new i =>
    dsimp only at hF
    split at hF
    · rename_i hr4
      obtain rfl : ad = ad0 := hag.2
      exact hthr H locs ls _ i nx r1 r2 r3 r4 w u hP hD hS hl.1 hF.1 hF.2 hr4 hmem
    · exact hF.elim
  case invokevirtual i =>
    dsimp only at hF hck
    unfold xreq at hrq; dsimp only at hrq
    split at hF
    · rename_i b as st hxa
      split at hF
      · rename_i ci fs hw
        split at hF
        · rename_i hci hst
          have hcr := Nat.eq_of_beq_eq_true hci
          subst hcr
          obtain ⟨hg, P, hcl, hk⟩ := hF
          rw [Bool.and_eq_true] at hck
          obtain ⟨hck, hcov⟩ := hck
          cases hcc : vwCl[ci]? with
          | none => rw [hcc] at hck; cases hck
          | some q =>
            obtain ⟨C, T, N⟩ := q
            rw [hcc] at hck
            dsimp only at hck
            rw [Bool.and_eq_true, Bool.and_eq_true] at hck
            obtain ⟨⟨hc1, hc2⟩, hc3⟩ := hck
            obtain ⟨rfl, rfl, hyC, hmh, hmL, hrL⟩ := of_decide_eq_true hc1
            rw [Nat.add_sub_cancel_left] at hdg
            obtain ⟨l9, e1, e2, e3, e4⟩ := xargs_spec _ _ _ _ _ hxa
            have hst4 : st.length ≤ 4 := Nat.le_of_ble_eq_true hst
            have hl9 : l9 = as.reverse ++ [.ref b] := by
              have := congrArg List.reverse e2
              simpa using this.symm
            have hpl := of_decide_eq_true hc2
            have hpa := of_decide_eq_true hc3
            have hn9 : as.length = r2 - 1 := by rw [← e3, hl9]; simp
            have hlen : ∀ sig, parseMethodDescriptor (m_y r1).desc = some sig → as.length = sig.parameters.length := fun sig h => by
              rw [h] at hpa
              rw [hn9]
              exact (Option.some.inj hpa).symm
            have hcat : ∀ v ∈ Value.ref b :: as, v.category ≠ 2 := fun v hv => e4 v (by
              rw [hl9]
              rcases List.mem_cons.mp hv with rfl | hv
              · simp
              · simp [hv])
            have hxc : xcode r1 = .code (m_y r1) (m_c r1) (m_L r1) (m_r r1) := by unfold xcode; rw [hmh]
            have hM := hcall ad r1 (.ref b :: as) w P hcl hsba hcat (by rw [← e3, hl9] at hrL; simpa using hrL)
            have hq0 := hrq _ List.mem_cons_self
            have hq1 := hrq _ (List.mem_cons_of_mem _ List.mem_cons_self)
            have hq2 := hrq _ (List.mem_cons_of_mem _ (List.mem_cons_of_mem _ List.mem_cons_self))
            have hq3 := hrq _ (List.mem_cons_of_mem _ (List.mem_cons_of_mem _ (List.mem_cons_of_mem _ List.mem_cons_self)))
            have hq4 := hrq _ (List.mem_cons_of_mem _ (List.mem_cons_of_mem _ (List.mem_cons_of_mem _ (List.mem_cons_of_mem _ List.mem_cons_self))))
            rw [hxc] at hM hq4
            rw [hyC] at hq2
            have hstack : stk.map (xv ad) = (as.map (xv ad)).reverse ++ .ref (ad b) :: st.map (xv ad) := by
              rw [e1, hl9]
              simp [xv]
            have hsum8 : ((st.map (xv ad)).map fun v => v.category).sum ≤ 8 := by
              have := x_sum (st.map (xv ad))
              rw [List.length_map] at this
              omega
            have hr := vx_runV (p := p) (l := l) (e := e) (below := below) (meth := meth) (locs := locs) (cells := u) (slots := 6 * u) (g := F0 m pc' ls (stk.map (xv ad))) (As := as.map (xv ad)) (rest := st.map (xv ad)) (b := ad b) (C := C) (n := as.length) (index := i) (Ts := []) ⟨hx, hb, hml, hown, fun _ h => nomatch h⟩ hM
              ⟨⟨rfl, rfl, (by show 10 + n + 1 ≤ R.frames; omega), (by show 8 + (m_L r1 + 11) + (100 + 40 * n) ≤ R.locals; omega), (fun w9 hw9 a' U hW => by rw [List.mem_singleton.mp hw9]; exact xfr_mv F hq4 hW), List.mem_cons_self, xfr_w F hq4, xfr_w F hq3, hpl, hlen, xfr_w F hq0⟩, xfr_w F hq1, xfr_w F hq2⟩
              ⟨xB_blind, va_recv hK hP hcc (xw_at hw), fun U hU hW => ⟨rfl, xS0_move h0 hS hU hW, by rw [hU]; exact Nat.le_trans hbase hS.1, by rw [hU]; exact hP, hD⟩⟩ rfl (by simp) hl.1 hstack (lv_room hsum8) hdg ⟨by omega, by omega⟩
            have hsum : ((st.map (xv ad)).map fun v => v.category).sum ≤ 8 := by
              have := x_sum (st.map (xv ad))
              rw [List.length_map] at this
              omega
            have hf : u + m_b r1 ≤ R.cells ∧ 6 * u + 6 * m_b r1 ≤ R.slots := by constructor <;> omega
            have hkx : ∀ (E : String) (ce : Cell) (q9 : Addr) (uu : Nat × xW) (t : State) (H1 : Heap) (locs1 : List Loc), t.heap = H1 → s.vm.Alike t.vm → (P (.inr uu.1) uu.2 ∧ uu.1 < 3) → (E = xexc uu.1 ∧ xBa D base tg ad uu.2 t) → H.size ≤ H1.size → (∀ q : Nat, q < H.size → ¬ xA base q → H1[q]? = H[q]?) → va_S (xA base) s.heap H1 locs1 → H1[q9]? = some ce → ce.vm = .none → s.vm.findClass E = some ce.cls → vx_W p l e R s m args below meth c H1 locs1 (u + m_b r1) (6 * u + 6 * m_b r1) Qf (F0 m pc' ls (st.map (xv ad))) q9 := by
              intro E ce q9 uu t H1 locs1 ht hal hpx hbx hsz hfr hS1 hce hv hfc
              obtain ⟨rfl, hP1, hD1⟩ := hbx
              rw [ht] at hP1
              have h9 := hk (.inr uu.1) uu.2 hpx.1
              unfold xH at h9
              dsimp only at h9
              rw [← Nat.mul_add]
              split at h9
              · obtain ⟨h91, h92, h93⟩ := h9
                subst h92
                obtain rfl : ad = ad0 := hag.2
                exact hout H1 locs1 ls pc' uu.1 _ uu.2 (u + m_b r1) ce q9 hP1 hD1 hS1 hg hpx.2 h93 h91 hce hv hfc
              · rename_i hfd
                exact x_catch F hpx.2 hfd hcov hce hv hfc hl (fun ls' hl' => h9 ad hag H1 locs1 ls' hP1 hD1 hS1 hl' hg)
            cases hrr : m_r r1 with
            | none =>
              have hq : xQc D base tg ad r1 P = va_Qv (fun u : xW => P (.inl none) u) (xBa D base tg ad) (xA base) := by unfold xQc; rw [hrr]
              rw [hq] at hr
              refine vx_callv hr hS (fun _ _ h => h) (fun _ h => h) (fun _ _ h => h) hkx ?_
              intro uu t H1 locs1 ht hal hpx hbx hsz hfr hS1
              obtain ⟨hP1, hD1⟩ := hbx
              rw [ht] at hP1
              have h9 := hk (.inl none) uu hpx
              rw [← Nat.mul_add]
              exact h9 ad hag H1 locs1 ls hP1 hD1 hS1 hl hg
            | some ty =>
              have hq : xQc D base tg ad r1 P = va_Qi (fun (r : Int32) (u : xW) => P (.inl (some (.int r))) u) (xBa D base tg ad) (xA base) := by unfold xQc; rw [hrr]
              rw [hq] at hr
              refine vx_calli hr hS (fun _ _ h => h) (fun _ h => h) (fun _ _ h => h) hkx ?_
              intro r uu t H1 locs1 ht hal hpx hbx hsz hfr hS1
              obtain ⟨hP1, hD1⟩ := hbx
              rw [ht] at hP1
              have h9 := hk (.inl (some (.int r))) uu hpx
              rw [← Nat.mul_add]
              exact h9 ad hag H1 locs1 ls hP1 hD1 hS1 hl hg
        · exact hF.elim
      · exact hF.elim
    · exact hF.elim
  case invokestatic i =>
    dsimp only at hF hck
    unfold xreq at hrq; dsimp only at hrq
    split at hF
    rotate_left
    · exact hF.elim
    split at hF
    · rename_i as st hxa _ hst
      obtain ⟨hg, P, hcl, hk⟩ := hF
      rw [Bool.and_eq_true, Bool.and_eq_true, Bool.and_eq_true] at hck
      obtain ⟨⟨⟨hc1, hc2⟩, hc3⟩, hcov⟩ := hck
      obtain ⟨rfl, rfl, hmL, hmh, hrL⟩ := of_decide_eq_true hc1
      rw [Nat.add_sub_cancel_left] at hdg
      obtain ⟨l9, e1, e2, e3, e4⟩ := xargs_spec _ _ _ _ _ hxa
      have hdp : ((st.map (xv ad)).map fun v => v.category).sum ≤ 8 := xdp_sum hst
      have hl9 : l9 = as.reverse := by
        have := congrArg List.reverse e2
        simpa using this.symm
      have hpl := of_decide_eq_true hc2
      have hpa := of_decide_eq_true hc3
      have hn9 : as.length = r2 := by rw [← e3, hl9]; simp
      have hlen : ∀ sig, parseMethodDescriptor (m_y r1).desc = some sig → as.length = sig.parameters.length := fun sig h => by
        rw [h] at hpa
        rw [hn9]
        exact (Option.some.inj hpa).symm
      have hcat : ∀ v ∈ as, v.category ≠ 2 := fun v hv => e4 v (by rw [hl9]; simp [hv])
      have hM := hcall ad r1 as w P hcl hsba hcat (by rw [hn9]; exact hrL)
      have hq0 := hrq _ List.mem_cons_self
      have hq1 := hrq _ (List.mem_cons_of_mem _ List.mem_cons_self)
      have hq2 := hrq _ (List.mem_cons_of_mem _ (List.mem_cons_of_mem _ List.mem_cons_self))
      have hq3 := hrq _ (List.mem_cons_of_mem _ (List.mem_cons_of_mem _ (List.mem_cons_of_mem _ List.mem_cons_self)))
      have hstack : stk.map (xv ad) = (as.map (xv ad)).reverse ++ st.map (xv ad) := by
        rw [e1, hl9]
        simp
      have hsum8 : ((st.map (xv ad)).map fun v => v.category).sum ≤ 8 := hdp
      have hpre : PreS s H (va_Pc (as.map (xv ad)) (xB D base tg sc sb ad w)) (as.map (xv ad)) := ⟨xB_blind, fun U hU hW => ⟨rfl, xS0_move h0 hS hU hW, by rw [hU]; exact Nat.le_trans hbase hS.1, by rw [hU]; exact hP, hD⟩⟩
      have hr : vx_Run p l e R s m args below meth c H locs u (6 * u) (m_b r1) (6 * m_b r1) (F0 m pc' ls (stk.map (xv ad))) (st.map (xv ad)) (xQc D base tg ad r1 P (as.map (xv ad)).toArray) (xXC D base tg ad P) (xA base) := by
        have hf0 : 10 + n + 1 ≤ R.frames := by omega
        have hf1 : 8 + (m_L r1 + 11) + (100 + 40 * n) ≤ R.locals := by omega
        have hws : ∀ w9 ∈ [xcode r1], ∀ (a' : Array Value) (U : State), s.WarmedH U.vm → w9.before a' U = true := fun w9 hw9 a' U hW => by rw [List.mem_singleton.mp hw9]; exact xfr_mv F hq3 hW
        cases hmr : m_h r1 with
        | none =>
          have hxc : xcode r1 = .code (m_y r1) (m_c r1) (m_L r1) (m_r r1) := by unfold xcode; rw [hmr]
          rw [hxc] at hM hq3 hws
          by_cases h3 : r3 = 0
          · rw [if_pos h3] at hq0
            exact vx_runS (Ts := []) (n := as.length) (index := i) ⟨hx, hb, hml, hown, fun _ h => nomatch h⟩ hM ⟨⟨rfl, rfl, hf0, hf1, hws, List.mem_cons_self, xfr_w F hq3, xfr_w F hq2, hpl, hlen, xfr_w F hq0⟩, xfr_w F hq1⟩ hpre rfl (by simp) hl.1 hstack (lv_room hsum8) hdg ⟨by omega, by omega⟩
          · rw [if_neg h3] at hq0
            exact vx_runSN (Ts := []) (n := as.length) (index := i) ⟨hx, hb, hml, hown, fun _ h => nomatch h⟩ hM ⟨⟨⟨rfl, rfl, hf0, hf1, hws, List.mem_cons_self⟩, xfr_w F hq3, xfr_w F hq2, hpl, hlen, xfr_w F hq0⟩, xfr_w F hq1, trivial⟩ hpre rfl (by simp) hl.1 hstack (lv_room hsum8) hdg ⟨by omega, by omega⟩
        | some hh9 =>
          have h3 : r3 = 0 := hmh.resolve_right (by rw [hmr]; exact fun h => by cases h)
          have hxc : xcode r1 = .codeWith (m_y r1) (m_c r1) (m_L r1) (m_r r1) hh9 := by unfold xcode; rw [hmr]
          rw [hxc] at hM hq3 hws
          rw [if_pos h3] at hq0
          exact vx_runSX (hh := hh9) (Ts := []) (n := as.length) (index := i) ⟨hx, hb, hml, hown, fun _ h => nomatch h⟩ hM ⟨⟨rfl, rfl, hf0, hf1, hws, List.mem_cons_self⟩, xfr_w F hq3, xfr_w F hq2, hpl, hlen, xfr_w F hq0, xfr_w F hq1⟩ hpre rfl (by simp) hl.1 hstack (lv_room hsum8) hdg ⟨by omega, by omega⟩
      have hsum : ((st.map (xv ad)).map fun v => v.category).sum ≤ 8 := hdp
      have hf : u + m_b r1 ≤ R.cells ∧ 6 * u + 6 * m_b r1 ≤ R.slots := by constructor <;> omega
      have hkx : ∀ (E : String) (ce : Cell) (q9 : Addr) (uu : Nat × xW) (t : State) (H1 : Heap) (locs1 : List Loc), t.heap = H1 → s.vm.Alike t.vm → (P (.inr uu.1) uu.2 ∧ uu.1 < 3) → (E = xexc uu.1 ∧ xBa D base tg ad uu.2 t) → H.size ≤ H1.size → (∀ q : Nat, q < H.size → ¬ xA base q → H1[q]? = H[q]?) → va_S (xA base) s.heap H1 locs1 → H1[q9]? = some ce → ce.vm = .none → s.vm.findClass E = some ce.cls → vx_W p l e R s m args below meth c H1 locs1 (u + m_b r1) (6 * u + 6 * m_b r1) Qf (F0 m pc' ls (st.map (xv ad))) q9 := by
        intro E ce q9 uu t H1 locs1 ht hal hpx hbx hsz hfr hS1 hce hv hfc
        obtain ⟨rfl, hP1, hD1⟩ := hbx
        rw [ht] at hP1
        have h9 := hk (.inr uu.1) uu.2 hpx.1
        unfold xH at h9
        dsimp only at h9
        rw [← Nat.mul_add]
        split at h9
        · obtain ⟨h91, h92, h93⟩ := h9
          subst h92
          obtain rfl : ad = ad0 := hag.2
          exact hout H1 locs1 ls pc' uu.1 _ uu.2 (u + m_b r1) ce q9 hP1 hD1 hS1 hg hpx.2 h93 h91 hce hv hfc
        · rename_i hfd
          exact x_catch F hpx.2 hfd hcov hce hv hfc hl (fun ls' hl' => h9 ad hag H1 locs1 ls' hP1 hD1 hS1 hl' hg)
      cases hrr : m_r r1 with
      | none =>
        have hq : xQc D base tg ad r1 P = va_Qv (fun u : xW => P (.inl none) u) (xBa D base tg ad) (xA base) := by unfold xQc; rw [hrr]
        rw [hq] at hr
        refine vx_callv hr hS (fun _ _ h => h) (fun _ h => h) (fun _ _ h => h) hkx ?_
        intro uu t H1 locs1 ht hal hpx hbx hsz hfr hS1
        obtain ⟨hP1, hD1⟩ := hbx
        rw [ht] at hP1
        have h9 := hk (.inl none) uu hpx
        rw [← Nat.mul_add]
        exact h9 ad hag H1 locs1 ls hP1 hD1 hS1 hl hg
      | some ty =>
        have hq : xQc D base tg ad r1 P = va_Qi (fun (r : Int32) (u : xW) => P (.inl (some (.int r))) u) (xBa D base tg ad) (xA base) := by unfold xQc; rw [hrr]
        rw [hq] at hr
        refine vx_calli hr hS (fun _ _ h => h) (fun _ h => h) (fun _ _ h => h) hkx ?_
        intro r uu t H1 locs1 ht hal hpx hbx hsz hfr hS1
        obtain ⟨hP1, hD1⟩ := hbx
        rw [ht] at hP1
        have h9 := hk (.inl (some (.int r))) uu hpx
        rw [← Nat.mul_add]
        exact h9 ad hag H1 locs1 ls hP1 hD1 hS1 hl hg
    · exact hF.elim
  all_goals exact hF.elim
end Step
end SD2
