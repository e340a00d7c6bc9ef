/-! the machine of places is sound, 1: its pictures in the heap, what is carried from frame to frame, checks of the tables -/
section SD1
def xoth (w : Jvm.Cond) : Bool := match w with
  | .fieldLinkNest .. => true
  | .methodLinkNest .. => true
  | .declares _ => true
  | .castable .. => true
  | _ => false
def xmv (w : Jvm.Cond) : Bool := (w.onTables && w.keeps) || xoth w
theorem xmv_tab {w : Jvm.Cond} (h : xmv w = true) : w.onTables = true := by
  unfold xmv at h
  rcases Bool.or_eq_true_iff.mp h with h | h
  · exact (Bool.and_eq_true_iff.mp h).1
  · cases w <;> first | rfl | cases h
theorem xmv_warm {w : Jvm.Cond} (h : xmv w = true) {s U : State} (hW : s.WarmedH U.vm) (hZ : va_Nw w s) : va_Nw w U := by
  have ht := xmv_tab h
  unfold xmv at h
  rcases Bool.or_eq_true_iff.mp h with h | h
  · exact word_at hW (Or.inl h) hZ
  · cases w <;> first | (cases h; done) | exact va_Nw.warmF hW hZ | exact va_Nw.warmM hW hZ | exact va_Nw.warmD hW hZ | exact va_Nw.warmC hW hZ
def xv (ad : Nat → Nat) (v : Value) : Value := match v with
  | .ref i => .ref (ad i)
  | v => v
theorem xv_cat (ad : Nat → Nat) (v : Value) : (xv ad v).category = v.category := by cases v <;> rfl
def xc (ad : Nat → Nat) (tg : Nat → ClassId) (c : xC) : va_E := match c with
  | .inl (t, a) => .inl (tg t, a)
  | .inr (ci, fs) => .inr (ci, fs.map (xv ad))
def xw (ad : Nat → Nat) (tg : Nat → ClassId) (w : xW) : va_W := w.mapIdx (fun i c => (ad i, xc ad tg c))
theorem xw_at {ad : Nat → Nat} {tg : Nat → ClassId} {w : xW} {i : Nat} {c : xC} (h : w[i]? = some c) : (xw ad tg w)[i]? = some (ad i, xc ad tg c) := by
  unfold xw
  rw [List.getElem?_mapIdx, h]
  rfl
theorem xw_set {ad : Nat → Nat} {tg : Nat → ClassId} {w : xW} {i : Nat} {c : xC} : xw ad tg (w.set i c) = (xw ad tg w).set i (ad i, xc ad tg c) := by
  apply List.ext_getElem?
  intro j
  unfold xw
  rw [List.getElem?_mapIdx, List.getElem?_set, List.getElem?_set, List.getElem?_mapIdx, List.length_mapIdx]
  by_cases h : i = j
  · subst h
    simp only [if_true]
    by_cases hl : i < w.length
    · simp [hl]
    · simp [hl]
  · simp [h]
/-- the locals that are known -/
def xlv (ad : Nat → Nat) : Nat → xL → List (Nat × Value)
  | _, [] => []
  | i, none :: L => xlv ad (i + 1) L
  | i, some v :: L => if v.category = 2 then xlv ad (i + 1) L else (i, xv ad v) :: xlv ad (i + 1) L
theorem xlv_mem {ad : Nat → Nat} : ∀ (L : xL) (i : Nat) (q : Nat × Value), q ∈ xlv ad i L ↔ ∃ (k : Nat) (v : Value), L[k]? = some (some v) ∧ v.category ≠ 2 ∧ q = (i + k, xv ad v)
  | [], i, q => by simp [xlv]
  | none :: L, i, q => by
    rw [xlv, xlv_mem L]
    constructor
    · rintro ⟨k, v, h1, h2, rfl⟩
      exact ⟨k + 1, v, by simpa using h1, h2, by rw [Nat.add_right_comm, Nat.add_assoc]⟩
    · rintro ⟨k, v, h1, h2, rfl⟩
      match k, h1 with
      | k + 1, h1 => exact ⟨k, v, by simpa using h1, h2, by rw [Nat.add_right_comm, Nat.add_assoc]⟩
  | some v0 :: L, i, q => by
    rw [xlv]
    have step : q ∈ xlv ad (i + 1) L ↔ ∃ (k : Nat) (v : Value), L[k]? = some (some v) ∧ v.category ≠ 2 ∧ q = (i + 1 + k, xv ad v) := xlv_mem L _ q
    constructor
    · intro h
      split at h
      · obtain ⟨k, v, h1, h2, rfl⟩ := step.mp h
        exact ⟨k + 1, v, by simpa using h1, h2, by rw [Nat.add_right_comm, Nat.add_assoc]⟩
      · rename_i hc
        rcases List.mem_cons.mp h with rfl | h
        · exact ⟨0, v0, rfl, hc, rfl⟩
        · obtain ⟨k, v, h1, h2, rfl⟩ := step.mp h
          exact ⟨k + 1, v, by simpa using h1, h2, by rw [Nat.add_right_comm, Nat.add_assoc]⟩
    · rintro ⟨k, v, h1, h2, rfl⟩
      match k, h1 with
      | 0, h1 =>
        have e : v0 = v := by simpa using h1
        subst e
        rw [if_neg h2]
        exact List.mem_cons_self
      | k + 1, h1 =>
        rw [show i + (k + 1) = i + 1 + k by omega]
        have h3 := (xlv_mem L (i + 1) (i + 1 + k, xv ad v)).mpr ⟨k, v, by simpa using h1, h2, rfl⟩
        split
        · exact h3
        · exact List.mem_cons_of_mem _ h3
theorem xlv_at {ad : Nat → Nat} {L : xL} {nL : Nat} {ls : Array Slot} (h : lv_has ls nL (xlv ad 0 L)) {k : Nat} {v : Value} (hk : L[k]? = some (some v)) (hc : v.category ≠ 2) : ls[k]? = some (.val (xv ad v)) :=
  h.2.2 (k, xv ad v) ((xlv_mem L 0 _).mpr ⟨k, v, hk, hc, by rw [Nat.zero_add]⟩)
/-- behind a store -/
theorem xlv_set {ad : Nat → Nat} {L : xL} {nL : Nat} {ls : Array Slot} {k : Nat} {v : Option Value} {z : Value} (hz : ∀ x, v = some x → xv ad x = z)
    (h : lv_has ls nL ((k, z) :: (xlv ad 0 L).filter (fun q => !(q.1 == k) && !(q.1 + 1 == k && q.2.category == 2)))) : lv_has ls nL (xlv ad 0 (L.set k v)) := by
  refine ⟨h.1, h.2.1, fun q hq => h.2.2 q ?_⟩
  obtain ⟨j, x, h1, h2, rfl⟩ := (xlv_mem _ 0 q).mp hq
  rw [Nat.zero_add] at hq ⊢
  rw [List.getElem?_set] at h1
  by_cases e : k = j
  · subst e
    rw [if_pos rfl] at h1
    split at h1
    · rw [hz x (Option.some.inj h1)]
      exact List.mem_cons_self
    · cases h1
  · rw [if_neg e] at h1
    refine List.mem_cons_of_mem _ (List.mem_filter.mpr ⟨(xlv_mem L 0 _).mpr ⟨j, x, h1, h2, by rw [Nat.zero_add]⟩, ?_⟩)
    have e1 : (j == k) = false := by simpa using fun h => e h.symm
    have e2 : ((xv ad x).category == 2) = false := by rw [xv_cat]; simpa using h2
    simp [e1, e2]
theorem xlv_ini {ad : Nat → Nat} {n : Nat} {as : List Value} (hc : ∀ v ∈ as, v.category ≠ 2) : ∀ q, q ∈ xlv ad 0 (xini n as) → q ∈ lv_args 0 (as.map (xv ad)) := by
  intro q hq
  obtain ⟨k, v, h1, h2, rfl⟩ := (xlv_mem _ 0 q).mp hq
  rw [Nat.zero_add]
  unfold xini at h1
  have h3 : as[k]? = some v := by
    by_cases hk : k < as.length
    · rw [List.getElem?_append_left (by simpa using hk)] at h1
      simpa using h1
    · rw [List.getElem?_append_right (by simpa using Nat.not_lt.mp hk)] at h1
      have := List.mem_of_getElem? h1
      simp at this
  clear h1 hq
  have gen : ∀ (as : List Value) (i k : Nat), (∀ v ∈ as, v.category ≠ 2) → as[k]? = some v → (i + k, xv ad v) ∈ lv_args i (as.map (xv ad)) := by
    intro as
    induction as with
    | nil => intro i k _ h; simp at h
    | cons a as ih =>
      intro i k hc h
      rw [List.map_cons, lv_args, xv_cat, if_neg (hc a List.mem_cons_self)]
      match k, h with
      | 0, h =>
        have e : a = v := by simpa using h
        subst e
        exact List.mem_cons_self
      | k + 1, h =>
        refine List.mem_cons_of_mem _ ?_
        have := ih (i + 1) k (fun v hv => hc v (List.mem_cons_of_mem _ hv)) (by simpa using h)
        rwa [show i + 1 + k = i + (k + 1) by omega] at this
  simpa using gen as 0 k hc h3
theorem xargs_spec : ∀ (n : Nat) (acc stk as st : List Value), xargs n acc stk = some (as, st) → ∃ l : List Value, stk = l ++ st ∧ as = l.reverse ++ acc ∧ l.length = n ∧ ∀ v ∈ l, v.category ≠ 2
  | 0, acc, stk, as, st, h => by
    simp only [xargs, Option.some.injEq, Prod.mk.injEq] at h
    exact ⟨[], by rw [h.2]; rfl, by rw [h.1]; rfl, rfl, fun v h => by cases h⟩
  | n + 1, acc, stk, as, st, h => by
    have go : ∀ (v : Value) (stk' : List Value), v.category ≠ 2 → xargs n (v :: acc) stk' = some (as, st) → ∃ l : List Value, v :: stk' = l ++ st ∧ as = l.reverse ++ acc ∧ l.length = n + 1 ∧ ∀ v ∈ l, v.category ≠ 2 := by
      intro v stk' hv h
      obtain ⟨l, h1, h2, h3, h4⟩ := xargs_spec n _ _ _ _ h
      refine ⟨v :: l, by rw [h1]; rfl, by rw [h2]; simp, by simp [h3], fun x hx => ?_⟩
      rcases List.mem_cons.mp hx with rfl | hx
      · exact hv
      · exact h4 x hx
    match stk, h with
    | .int x :: stk', h => exact go _ _ (fun z => by cases z) h
    | .ref x :: stk', h => exact go _ _ (fun z => by cases z) h
    | [], h => cases h
    | .long _ :: _, h => cases h
    | .float _ :: _, h => cases h
    | .double _ :: _, h => cases h
    | .null :: _, h => cases h
    | .retAddr _ :: _, h => cases h
theorem xat_mem {I : List (List xI)} {pc : Nat} {e : xI} (h : xat I pc = some e) : e ∈ I.flatten ∧ e.1 = pc := by
  unfold xat at h
  split at h
  · rename_i b hb
    have h1 := List.find?_some h
    have h2 := List.mem_of_find?_eq_some h
    exact ⟨List.mem_flatten.mpr ⟨b, List.mem_of_getElem? hb, h2⟩, Nat.eq_of_beq_eq_true h1⟩
  · cases h
/-- the code word of a method -/
def xcode (k : Nat) : Jvm.Cond := match m_h k with
  | none => .code (m_y k) (m_c k) (m_L k) (m_r k)
  | some hh => .codeWith (m_y k) (m_c k) (m_L k) (m_r k) hh
def xnames : List String := ["java/lang/RuntimeException", "java/lang/Exception"]
/-- the words that an instruction needs -/
def xreq (k : Nat) (e : xI) : List Jvm.Cond := match e with
  | (_, ins, _, r1, r2, r3, _) => match ins with
    | .ldc i => (match e.2.2.2.2.2.2 with
      | 0 => [.constant (m_o k) i (xk r1 r2)]
      | _ + 1 => [])
    | .ldc_w i => (match e.2.2.2.2.2.2 with
      | 0 => [.constant (m_o k) i (xk r1 r2)]
      | _ + 1 => [])
    | .getfield i => (match vwCl[r1]? with
      | some (_, T, _) => [if r3 = 0 then .fieldLink (m_o k) i (T r2).1 (T r2).2.1 (T r2).2.2.1 else .fieldLinkNest (m_o k) i (T r2).1 (T r2).2.1 (T r2).2.2.1 "Cardgate"]
      | none => [])
    | .putfield i => (match vwCl[r1]? with
      | some (_, T, _) => [.fieldLink (m_o k) i (T r2).1 (T r2).2.1 (T r2).2.2.1]
      | none => [])
    | .invokevirtual i => [.methodLink (m_o k) i (m_y r1), .instanceMethod (m_y r1), .selects (m_y r1).cls (m_y r1) (m_y r1), .initialized (m_y r1).cls, xcode r1]
    | .invokestatic i => [if r3 = 0 then .methodLink (m_o k) i (m_y r1) else .methodLinkNest (m_o k) i (m_y r1) "Cardgate", .static (m_y r1), .initialized (m_y r1).cls, xcode r1]
    | .new i => if Nat.ble e.2.2.2.2.2.2 1 = true then .classLink (m_o k) i (xexc r1) :: .initialized (xexc r1) :: vx_atS (m_o k) r2 (xexc r1) xnames else []
    | _ => []
def xplain (y : MethodName) : Bool := decide (y.cls ≠ "java/lang/invoke/MethodHandle" ∧ y.cls ≠ "java/lang/invoke/VarHandle")
def xpar (y : MethodName) (n : Nat) : Bool := decide ((parseMethodDescriptor y.desc).map (fun d => d.parameters.length) = some n)
/-- what a row of a method's table has to be -/
def xchk (k : Nat) (e : xI) : Bool := match e with
  | (pc, ins, nx, r1, r2, r3, r4) => decide (decode (m_c k) pc = .ok (ins, nx - pc)) && (match ins with
    | .iconst n => decide (nx = pc + 1 ∧ Int32.ofInt n = xk r1 r2)
    | .bipush n => decide (nx = pc + 2 ∧ (Int8.ofInt n).toInt32 = xk r1 r2)
    | .sipush n => decide (nx = pc + 3 ∧ (Int16.ofInt n).toInt32 = xk r1 r2)
    | .iinc _ n => decide (nx = pc + 3 ∧ Int32.ofInt n = xk r1 r2)
    | .goto off => decide (nx = pc + 3 ∧ (pc : Int) + off = (r1 : Int))
    | .ifCond _ off => decide (nx = pc + 3 ∧ (pc : Int) + off = (r1 : Int))
    | .if_icmp _ off => decide (nx = pc + 3 ∧ (pc : Int) + off = (r1 : Int))
    | .tableswitch d lo hi offs => decide (lo ≤ hi ∧ offs.size = (hi - lo).toNat + 1 ∧ 0 ≤ (pc : Int) + d) && offs.all (fun o => decide (0 ≤ (pc : Int) + o))
    | .ldc _ => decide (nx = pc + 2)
    | .ldc_w _ => decide (nx = pc + 3)
    | .iload _ => decide (nx = pc + 2)
    | .aload _ => decide (nx = pc + 2)
    | .istore i => decide (nx = pc + 2 ∧ i < m_L k)
    | .astore i => decide (nx = pc + 2 ∧ i < m_L k)
    | .istore_n i => decide (nx = pc + 1 ∧ (i : Nat) < m_L k)
    | .astore_n i => decide (nx = pc + 1 ∧ (i : Nat) < m_L k)
    | .getfield _ => (match vwCl[r1]? with
      | some (_, _, N) => decide (nx = pc + 3 ∧ r2 < N)
      | none => false)
    | .putfield _ => (match vwCl[r1]? with
      | some (_, T, N) => decide (nx = pc + 3 ∧ r2 < N ∧ (T r2).2.2.2 = false ∧ parseFieldDescriptor (T r2).2.2.1 = some .int)
      | none => false)
    | .invokevirtual _ => (match vwCl[r3]? with
      | some (C, _, _) => decide (nx = pc + 3 ∧ r4 = m_b r1 ∧ (m_y r1).cls = C ∧ m_h r1 = none ∧ m_L r1 ≤ 20 ∧ r2 ≤ m_L r1) && xplain (m_y r1) && xpar (m_y r1) (r2 - 1)
      | none => false) && ((m_h k).getD []).all (fun q => decide (q.1 ≤ pc ∧ pc < q.2.1))
    | .invokestatic _ => decide (nx = pc + 3 ∧ r4 = m_b r1 ∧ m_L r1 ≤ 20 ∧ (r3 = 0 ∨ m_h r1 = none) ∧ r2 ≤ m_L r1) && xplain (m_y r1) && xpar (m_y r1) r2 && ((m_h k).getD []).all (fun q => decide (q.1 ≤ pc ∧ pc < q.2.1))
    | .new i => if Nat.ble r4 1 = true then (match r4 with
      | 0 => decide (decode (m_c k) pc = .ok (.new i, 3) ∧ decode (m_c k) (pc + 3) = .ok (.dup, 1) ∧ decode (m_c k) (pc + 4) = .ok (.ldc r3, 2) ∧ decode (m_c k) (pc + 6) = .ok (.invokespecial r2, 3) ∧ decode (m_c k) (pc + 9) = .ok (.athrow, 1))
      | _ + 1 => decide (decode (m_c k) pc = .ok (.new i, 3) ∧ decode (m_c k) (pc + 3) = .ok (.dup, 1) ∧ decode (m_c k) (pc + 4) = .ok (.ldc_w r3, 3) ∧ decode (m_c k) (pc + 7) = .ok (.invokespecial r2, 3) ∧ decode (m_c k) (pc + 10) = .ok (.athrow, 1))) && decide (m_h k = none ∧ r1 < 3) && (xstr.any (fun q => decide (q.1 = m_o k ∧ q.2.1 = r3))) else true
    | .newarray .int => decide (nx = pc + 2 ∧ r1 ≤ 6 * r4 ∧ r1 ≤ 100 ∧ 1 ≤ r4)
    | .ireturn => decide (nx = pc + 1 ∧ ((r1 = 0 ∧ m_r k = some .int) ∨ (r1 ≠ 0 ∧ m_r k = some .boolean)))
    | .return_ => decide (nx = pc + 1 ∧ m_r k = none)
    | .baload | .laload | .bastore | .lastore => false
    | .iadd | .isub | .imul | .iand | .ior | .ixor | .ishl | .iushr | .ishr | .irem | .idiv | .i2l | .lcmp | .dup | .dup2 | .pop | .iaload | .iastore | .arraylength | .lconst _ | .iload_n _ | .aload_n _ => decide (nx = pc + 1)
    | _ => true)
def xhchk (k : Nat) : Bool := match m_h k with
  | none => decide (m_hd k = [])
  | some hh => decide (hh = (hh.zip (m_hd k)).map Prod.fst ∧ m_hd k = (hh.zip (m_hd k)).map Prod.snd) && (hh.zip (m_hd k)).all (fun z => match z with
    | ((_, _, h, ct), (E, hp, sl)) => decide (ct ≠ 0 ∧ E < 3 ∧ sl < m_L k) && (decide (hp = h + 1 ∧ sl < 4) && ((List.finRange 4).any fun j => decide ((j : Nat) = sl ∧ decode (m_c k) h = .ok (.astore_n j, 1))) || decide (hp = h + 2 ∧ decode (m_c k) h = .ok (.astore sl, 2))))
def xhreq (k : Nat) : List Jvm.Cond := ((m_h k).getD []).zip (m_hd k) |>.flatMap (fun z => [.classLink (m_o k) z.1.2.2.2 (xexc z.2.1), .castable (xexc z.2.1) (xexc z.2.1)])
/-- a method's rows are right, and what they need is known -/
def xok (k : Nat) : Prop := (∀ e ∈ (m_i k).flatten, xchk k e = true ∧ ∀ w ∈ xreq k e, w ∈ lw_tbl ∧ xmv w = true) ∧ xhchk k = true ∧ (∀ w ∈ xhreq k, w ∈ lw_tbl ∧ xmv w = true) ∧ plainName (m_y k).cls = true ∧ (m_y k).cls = m_o k ∧ m_L k ≤ 20 ∧ (m_r k = none ∨ m_r k = some .int ∨ m_r k = some .boolean)
end SD1
