section
-- ===== PART A: goes FIRST, ahead of the names: the tables' words, and 'selects' of the private methods out of them =====
/-- a private method of a class that the tables say can be made, by its rows of tables_1 -/
def lw_okq (q : MethodName × Nat) : Prop := (q.1.cls ≠ "java/lang/invoke/MethodHandle" ∧ q.1.cls ≠ "java/lang/invoke/VarHandle") ∧ Cond.instantiable q.1.cls q.2 ∈ tables_1 ∧ Cond.privateMethod q.1 ∈ tables_1 ∧ Cond.instanceMethod q.1 ∈ tables_1
theorem lw_p0 : lw_okq (⟨"java/lang/Throwable", "fillInStackTrace", "(I)Ljava/lang/Throwable;"⟩, 6) := ⟨⟨by decide +kernel, by decide +kernel⟩, List.mem_of_getElem? (i := 173) (by decide +kernel), List.mem_of_getElem? (i := 171) (by decide +kernel), List.mem_of_getElem? (i := 172) (by decide +kernel)⟩
theorem lw_p1 : lw_okq (⟨"Cardgate", "requireChange", "(I)V"⟩, 3) := ⟨⟨by decide +kernel, by decide +kernel⟩, List.mem_of_getElem? (i := 21) (by decide +kernel), List.mem_of_getElem? (i := 250) (by decide +kernel), List.mem_of_getElem? (i := 251) (by decide +kernel)⟩
theorem lw_p2 : lw_okq (⟨"Cardgate", "dropCards", "(IZ)I"⟩, 3) := ⟨⟨by decide +kernel, by decide +kernel⟩, List.mem_of_getElem? (i := 21) (by decide +kernel), List.mem_of_getElem? (i := 359) (by decide +kernel), List.mem_of_getElem? (i := 360) (by decide +kernel)⟩
theorem lw_p3 : lw_okq (⟨"Cardgate", "shift", "(II)V"⟩, 3) := ⟨⟨by decide +kernel, by decide +kernel⟩, List.mem_of_getElem? (i := 21) (by decide +kernel), List.mem_of_getElem? (i := 375) (by decide +kernel), List.mem_of_getElem? (i := 376) (by decide +kernel)⟩
theorem lw_p4 : lw_okq (⟨"Cardgate", "pushBackFrom", "(I)V"⟩, 3) := ⟨⟨by decide +kernel, by decide +kernel⟩, List.mem_of_getElem? (i := 21) (by decide +kernel), List.mem_of_getElem? (i := 389) (by decide +kernel), List.mem_of_getElem? (i := 390) (by decide +kernel)⟩
theorem lw_p5 : lw_okq (⟨"Cardgate$Board", "countAheadOf", "(I)I"⟩, 9) := ⟨⟨by decide +kernel, by decide +kernel⟩, List.mem_of_getElem? (i := 29) (by decide +kernel), List.mem_of_getElem? (i := 409) (by decide +kernel), List.mem_of_getElem? (i := 410) (by decide +kernel)⟩
theorem lw_p6 : lw_okq (⟨"Cardgate", "requireCard", "(I)V"⟩, 3) := ⟨⟨by decide +kernel, by decide +kernel⟩, List.mem_of_getElem? (i := 21) (by decide +kernel), List.mem_of_getElem? (i := 436) (by decide +kernel), List.mem_of_getElem? (i := 437) (by decide +kernel)⟩
theorem lw_p7 : lw_okq (⟨"Cardgate", "isMovable", "(I)Z"⟩, 3) := ⟨⟨by decide +kernel, by decide +kernel⟩, List.mem_of_getElem? (i := 21) (by decide +kernel), List.mem_of_getElem? (i := 461) (by decide +kernel), List.mem_of_getElem? (i := 462) (by decide +kernel)⟩
theorem lw_p8 : lw_okq (⟨"Cardgate", "passOn", "(I)V"⟩, 3) := ⟨⟨by decide +kernel, by decide +kernel⟩, List.mem_of_getElem? (i := 21) (by decide +kernel), List.mem_of_getElem? (i := 483) (by decide +kernel), List.mem_of_getElem? (i := 484) (by decide +kernel)⟩
theorem lw_p9 : lw_okq (⟨"Cardgate", "requireRow", "(I)V"⟩, 3) := ⟨⟨by decide +kernel, by decide +kernel⟩, List.mem_of_getElem? (i := 21) (by decide +kernel), List.mem_of_getElem? (i := 513) (by decide +kernel), List.mem_of_getElem? (i := 514) (by decide +kernel)⟩
theorem lw_p10 : lw_okq (⟨"Cardgate$Gate", "startTrial", "()V"⟩, 11) := ⟨⟨by decide +kernel, by decide +kernel⟩, List.mem_of_getElem? (i := 65) (by decide +kernel), List.mem_of_getElem? (i := 522) (by decide +kernel), List.mem_of_getElem? (i := 523) (by decide +kernel)⟩
theorem lw_p11 : lw_okq (⟨"Cardgate$Gate", "tryAndHalve", "(II)V"⟩, 11) := ⟨⟨by decide +kernel, by decide +kernel⟩, List.mem_of_getElem? (i := 65) (by decide +kernel), List.mem_of_getElem? (i := 526) (by decide +kernel), List.mem_of_getElem? (i := 527) (by decide +kernel)⟩
theorem lw_p12 : lw_okq (⟨"Cardgate$Gate", "weightOfRow", "(II)I"⟩, 11) := ⟨⟨by decide +kernel, by decide +kernel⟩, List.mem_of_getElem? (i := 65) (by decide +kernel), List.mem_of_getElem? (i := 530) (by decide +kernel), List.mem_of_getElem? (i := 531) (by decide +kernel)⟩
theorem lw_p13 : lw_okq (⟨"Cardgate$Gate", "passes", "(II)Z"⟩, 11) := ⟨⟨by decide +kernel, by decide +kernel⟩, List.mem_of_getElem? (i := 65) (by decide +kernel), List.mem_of_getElem? (i := 542) (by decide +kernel), List.mem_of_getElem? (i := 543) (by decide +kernel)⟩
theorem lw_p14 : lw_okq (⟨"Cardgate$Gate", "setOfRow", "(II)I"⟩, 11) := ⟨⟨by decide +kernel, by decide +kernel⟩, List.mem_of_getElem? (i := 65) (by decide +kernel), List.mem_of_getElem? (i := 546) (by decide +kernel), List.mem_of_getElem? (i := 547) (by decide +kernel)⟩
theorem lw_p15 : lw_okq (⟨"Cardgate$Gate", "holdsBehind", "(II)Z"⟩, 11) := ⟨⟨by decide +kernel, by decide +kernel⟩, List.mem_of_getElem? (i := 65) (by decide +kernel), List.mem_of_getElem? (i := 550) (by decide +kernel), List.mem_of_getElem? (i := 551) (by decide +kernel)⟩
def lw_privs_1 : List (MethodName × Nat) := [(⟨"java/lang/Throwable", "fillInStackTrace", "(I)Ljava/lang/Throwable;"⟩, 6), (⟨"Cardgate", "requireChange", "(I)V"⟩, 3), (⟨"Cardgate", "dropCards", "(IZ)I"⟩, 3), (⟨"Cardgate", "shift", "(II)V"⟩, 3), (⟨"Cardgate", "pushBackFrom", "(I)V"⟩, 3), (⟨"Cardgate$Board", "countAheadOf", "(I)I"⟩, 9), (⟨"Cardgate", "requireCard", "(I)V"⟩, 3), (⟨"Cardgate", "isMovable", "(I)Z"⟩, 3), (⟨"Cardgate", "passOn", "(I)V"⟩, 3), (⟨"Cardgate", "requireRow", "(I)V"⟩, 3), (⟨"Cardgate$Gate", "startTrial", "()V"⟩, 11), (⟨"Cardgate$Gate", "tryAndHalve", "(II)V"⟩, 11), (⟨"Cardgate$Gate", "weightOfRow", "(II)I"⟩, 11), (⟨"Cardgate$Gate", "passes", "(II)Z"⟩, 11), (⟨"Cardgate$Gate", "setOfRow", "(II)I"⟩, 11), (⟨"Cardgate$Gate", "holdsBehind", "(II)Z"⟩, 11)]
theorem lw_r1 : ∀ q ∈ lw_privs_1, lw_okq q := List.forall_mem_cons.mpr ⟨lw_p0, List.forall_mem_cons.mpr ⟨lw_p1, List.forall_mem_cons.mpr ⟨lw_p2, List.forall_mem_cons.mpr ⟨lw_p3, List.forall_mem_cons.mpr ⟨lw_p4, List.forall_mem_cons.mpr ⟨lw_p5, List.forall_mem_cons.mpr ⟨lw_p6, List.forall_mem_cons.mpr ⟨lw_p7, List.forall_mem_cons.mpr ⟨lw_p8, List.forall_mem_cons.mpr ⟨lw_p9, List.forall_mem_cons.mpr ⟨lw_p10, List.forall_mem_cons.mpr ⟨lw_p11, List.forall_mem_cons.mpr ⟨lw_p12, List.forall_mem_cons.mpr ⟨lw_p13, List.forall_mem_cons.mpr ⟨lw_p14, List.forall_mem_cons.mpr ⟨lw_p15, fun _ h => absurd h List.not_mem_nil⟩⟩⟩⟩⟩⟩⟩⟩⟩⟩⟩⟩⟩⟩⟩⟩
theorem lw_p16 : lw_okq (⟨"Cardgate$Gate", "tryHalves", "(II)V"⟩, 11) := ⟨⟨by decide +kernel, by decide +kernel⟩, List.mem_of_getElem? (i := 65) (by decide +kernel), List.mem_of_getElem? (i := 554) (by decide +kernel), List.mem_of_getElem? (i := 555) (by decide +kernel)⟩
def lw_privs_2 : List (MethodName × Nat) := [(⟨"Cardgate$Gate", "tryHalves", "(II)V"⟩, 11)]
theorem lw_r2 : ∀ q ∈ lw_privs_2, lw_okq q := List.forall_mem_cons.mpr ⟨lw_p16, fun _ h => absurd h List.not_mem_nil⟩
def lw_privs : List (MethodName × Nat) := lw_privs_1 ++ (lw_privs_2)
def lw_tbl : List Cond := k2_sels lw_privs ++ tables_1
theorem lw_privs_ok : ∀ q ∈ lw_privs, lw_okq q := by
  show ∀ q ∈ lw_privs_1 ++ (lw_privs_2), lw_okq q
  exact List.forall_mem_append.mpr ⟨lw_r1, lw_r2⟩
-- ===== end of PART A; then your names; then what follows =====
/-! ===== BEGIN words of one list among another's, by their places ===== -/
theorem goodIn_r {big : List Cond} (ws : List Cond) (ps : List Nat) (hp : ws = ps.filterMap (fun i => big[i]?)) (h : ws.all goodWord = true) : GoodIn big ws := by
  intro w hw
  have h1 := List.all_eq_true.mp h w hw
  rw [hp] at hw
  obtain ⟨i, -, hi⟩ := List.mem_filterMap.mp hw
  have hm : w ∈ big := by first | exact List.mem_of_getElem? hi | exact List.getElem?_mem hi
  exact ⟨hm, good_of_word h1⟩
theorem goodIn_app {big a b : List Cond} (ha : GoodIn big a) (hb : GoodIn big b) : GoodIn big (a ++ b) := fun w h => (List.mem_append.mp h).elim (ha w) (hb w)
theorem goodIn_ca {big a b : List Cond} {c : Cond} (ha : GoodIn big (c :: a)) (hb : GoodIn big b) : GoodIn big (c :: (a ++ b)) := fun w h => (List.mem_cons.mp h).elim (fun e => ha w (List.mem_cons.mpr (Or.inl e))) (fun h => (List.mem_append.mp h).elim (fun h => ha w (List.mem_cons.mpr (Or.inr h))) (hb w))
theorem goodIn_sub {big ws : List Cond} (hm : ∀ w ∈ ws, w ∈ big) (h : ws.all goodWord = true) : GoodIn big ws := fun w hw => ⟨hm w hw, good_of_word (List.all_eq_true.mp h w hw)⟩
/-! ===== END ===== -/
/-! ===== BEGIN exceptions that leave a method, and their catching by the caller (launches without stack traces) ===== -/
section VXA
/-! The laws vx_back, vx_callV, vx_callS, vx_callSW, vx_throw0, vx_throwS follow proofs of the library, with one case more: JvmDerived/Free/Laws.lean (Back.of_free), Shelf42/LK1.lean (callV, callS), Shelf/KitTraced.lean (throwNew0V, throwNewS). -/
/-- where a method has thrown q: the class by its name, the cell, what was written, the world -/
def vx_T (XC : String → State → State → Prop) (st : State) (q : Addr) (t : State) (mc ms : Nat) (free : Addr → Prop) : Prop :=
  ∃ (E : String) (ce : Cell) (L : List Loc), XC E st t ∧ t.heap[q]? = some ce ∧ ce.vm = .none ∧ st.vm.findClass E = some ce.cls ∧ st.WarmedH t.vm ∧ st.sameButNew ({ t with vm := st.vm } : State) L mc ms ∧ ∀ z ∈ L, free z.base
def vx_Q (Qc : Array Value → State → Outcome → State → Prop) (XC : String → State → State → Prop) (mc ms : Nat) (free : Addr → Prop) : Array Value → State → Outcome → State → Prop := fun a st o t =>
  (Qc a st o t ∧ ∃ L, FrameEnd st o t L mc ms ∧ ∀ q ∈ L, free q.base) ∨ ∃ q, o = .threw q ∧ vx_T XC st q t mc ms free
/-- a callee that returns or throws -/
def vx_Met (l : Launch) (y : MethodName) (ws : List Cond) (rm : Room) (Pc : Array Value → State → Prop) (Qc : Array Value → State → Outcome → State → Prop) (XC : String → State → State → Prop) (mc ms : Nat) (free : Addr → Prop) : Prop :=
  MetFree l y (headSpec ws rm) Pc (fun _ _ _ _ _ => True) (vx_Q Qc XC mc ms free)
def vx_Post (XC : String → State → State → Prop) (mc ms : Nat) (free : Addr → Prop) : Pt → Array Value → Addr → Pt → Prop := fun A a q B =>
  ∃ (g : JFrame) (mk : MethodId) (t : State) (L : List Loc) (E : String) (ce : Cell), B.U.heap = t.heap ∧ B.U.vm = t.vm ∧ XC E (A.U.calling g mk a) t ∧ t.heap[q]? = some ce ∧ ce.vm = .none ∧ A.U.vm.findClass E = some ce.cls ∧ B.locs = A.locs ++ L ∧ (∀ z ∈ L, free z.base) ∧ B.cells = A.cells + mc ∧ B.slots = A.slots + ms
def vx_Back (l : Launch) (R : Room) (p : Program) (e : Env) (below : List Frame) (s : State) (sargs : Array Value) (y : MethodName) (len W9 : Nat)
    (Pre : Pt → Array Value → Prop) (Post : Pt → Array Value → Option Value → Pt → Prop) (PostX : Pt → Array Value → Addr → Pt → Prop) : Prop :=
  ∀ (m : MethodId) (meth : Method) (c : Code) (A : Pt) (g : JFrame) (ig : Instr) (mk : MethodId) (a : Array Value),
    Stand p l e R s m sargs below meth c A.U A.locs A.cells A.slots → g.method = m → g.locals.size = c.maxLocals → decode c.code g.pc = .ok (ig, len) →
    2 * g.monitorRoom + (g.stack.map fun v => v.category).sum ≤ W9 → A.U.methodNamed? y = some mk → Pre A a →
    (∃ (v : Option Value) (B : Pt), Stand p l e R s m sargs below meth c B.U B.locs B.cells B.slots ∧ Post A a v B ∧
      Steps p.tables e below (doInvoke e (A.U.setTop g) [] mk a).1 (B.U.setTop { g with pc := g.pc + len, stack := v.toList ++ g.stack })) ∨
    (∃ (q : Addr) (B : Pt), Stand p l e R s m sargs below meth c B.U B.locs B.cells B.slots ∧ PostX A a q B ∧
      Steps p.tables e below (doInvoke e (A.U.setTop g) [] mk a).1 ((B.U.setTop g).pushFrame (.throwing q)))
section Payer
variable {l : Launch} {R : Room} {p : Program} {e : Env} {below : List Frame} {s : State} {sargs : Array Value} {y : MethodName} {len W9 : Nat}
theorem vx_back {ws : List Cond} {rm : Room} {Pc : Array Value → State → Prop} {Qc : Array Value → State → Outcome → State → Prop} {XC : String → State → State → Prop} {mc ms : Nat} {free : Addr → Prop} {bytes : ByteArray} {maxL : Nat} {ret : Option FieldType}
    (hM : vx_Met l y ws rm Pc Qc XC mc ms free) (hblind : FrameBlind Pc) (hrc : rm.cells = mc) (hrs : rm.slots = ms)
    (hframes : rm.frames + 1 ≤ R.frames) (hlocals : W9 + (maxL + 11) + rm.locals ≤ R.locals)
    (hws : ∀ w ∈ ws, ∀ a' U, s.WarmedH U.vm → w.before a' U = true) (hcode : Cond.code y bytes maxL ret ∈ ws) (hinit : ∀ a' U, s.WarmedH U.vm → (Cond.initialized y.cls).before a' U = true) :
    vx_Back l R p e below s sargs y len W9 (PreOf R mc ms Pc) (PostOf Qc mc ms free) (vx_Post XC mc ms free) := by
  intro m meth c A g ig mk a X hg hsize hdg hW hn hp
  have h1 : (headSpec ws rm).pre.before a A.U = true := atoms_intro fun w hw => hws w hw _ _ X.warmed
  have h2 : (Cond.code y bytes maxL ret).before a A.U = true := hws _ hcode _ _ X.warmed
  have h3 : (Cond.initialized y.cls).before a A.U = true := hinit _ _ X.warmed
  have h4 : A.cells + (headSpec ws rm).room.cells ≤ R.cells := by rw [show (headSpec ws rm).room.cells = mc from hrc]; exact hp.1
  have h5 : A.slots + (headSpec ws rm).room.slots ≤ R.slots := by rw [show (headSpec ws rm).room.slots = ms from hrs]; exact hp.2.1
  have hPc : Pc a (A.U.calling g mk a) := hblind _ _ _ _ hp.2.2
  obtain ⟨U, Ls, c0, s0⟩ := A
  dsimp only [Pt.U, Pt.locs, Pt.cells, Pt.slots] at h1 h2 h3 h4 h5 X hn hPc ⊢
  obtain ⟨methY, cY, hmY, hcY, -, hlY, -, -, -, -⟩ := Cond.code_spec hn h2
  obtain ⟨kY, hkY, -⟩ := className_of_methodNamed hn
  have hinitY : kY.init = .initialized := Cond.initialized_spec (findClass_of_methodNamed hn) hkY h3
  have h : At U g.method c below := by rw [hg]; exact X.here
  have hlocals9 : W9 + (maxL + 11) + (headSpec ws rm).room.locals ≤ R.locals := hlocals
  have happ : (headSpec ws rm).appliesLoose y e.platform (U.calling g mk a) = true :=
    Spec.appliesLoose_calling (g := g) h hdg hn hkY hinitY
      (X.room_calling (g := g) (R' := (headSpec ws rm).room) hsize hmY hcY hframes (by rw [hlY]; omega) h4 h5) h1
  obtain ⟨mid, hmid⟩ := h.above
  have hfr : (U.setTop g).frames = (.java g :: mid) ++ below := by rw [State.frames_setTop' g h.top, hmid]; rfl
  obtain ⟨o, s₂, hsteps, -, hend, hq⟩ := Steps.callFree hM p X.admits X.cas X.clock (acts := []) hfr happ hPc trivial
  have hq' : vx_Q Qc XC mc ms free a (U.calling g mk a) o s₂ := hq
  rw [State.frames_setTop' g h.top] at hend
  obtain ⟨g₀, hg0⟩ := Option.isSome_iff_exists.mp h.top
  obtain ⟨r, hr⟩ := State.topJava?_eq_some.mp hg0
  have hr' : (({ U with heap := s₂.heap, slotsUsed := s₂.slotsUsed } : State).setVm s₂.vm).frames = .java g₀ :: r := hr
  rcases hq' with ⟨hqc, L, hfe, hL⟩ | ⟨q, rfl, E, ce, L, hx, hce, hcv, hcl, hW₂, hsm, hL⟩
  · obtain ⟨⟨v, rfl⟩, hW₂, e2, q2, q3, q4, q5, q6⟩ := id hfe
    have e3 : s₂ = ({ (U.calling g mk a).setFrames s₂.frames with heap := s₂.heap, slotsUsed := s₂.slotsUsed } : State).setVm s₂.vm := by
      have : s₂ = ({ s₂ with vm := (U.calling g mk a).vm } : State).setVm s₂.vm := rfl
      rw [e2] at this
      exact this
    obtain ⟨c₂, i₂, len₂, hc₂, hd₂, hf₂⟩ := hend
    have hW' : U.WarmedH s₂.vm := hW₂
    have hcc : c₂ = c := by
      have h1 : s₂.code? g.method = U.code? g.method := by
        rw [State.code?_eq, State.code?_eq, hW'.alike.method?]
      exact Option.some.inj (hc₂.symm.trans (h1.trans h.code))
    subst hcc
    have hlen : len₂ = len := by rw [hdg] at hd₂; cases hd₂; rfl
    subst hlen
    have hs₂ : s₂ = (({ U with heap := s₂.heap, slotsUsed := s₂.slotsUsed } : State).setVm s₂.vm).setTop { g with pc := g.pc + len₂, stack := v.toList ++ g.stack } := by
      refine e3.trans ?_
      rw [hf₂, State.calling_eq h.top, State.setFrames_setFrames, State.setTop_of_frames _ hr', hr]
      rfl
    have hsame : U.sameButNew ({ U with heap := s₂.heap, slotsUsed := s₂.slotsUsed } : State) L mc ms := by
      refine ⟨?_, q2, q3, q4, q5, q6⟩
      obtain ⟨t, ht, -⟩ := State.frames_cons hr
      show ({ U with heap := s₂.heap, slotsUsed := s₂.slotsUsed } : State) = { U.setFrames U.frames with heap := s₂.heap, slotsUsed := s₂.slotsUsed }
      rw [State.setFrames_self ht]
    subst hg
    refine Or.inl ⟨v, ⟨(({ U with heap := s₂.heap, slotsUsed := s₂.slotsUsed } : State).setVm s₂.vm), Ls ++ L, c0 + mc, s0 + ms⟩,
      ⟨X.admits, X.cas, X.clock, X.frames, X.room, X.hears, X.method, X.code, (X.here.setHeapUsed s₂.heap s₂.slotsUsed).setVm hW'.alike, X.tail, State.WarmedH.trans X.warmed hW', X.limits, X.bytes, X.same.trans (hsame.setVm s.vm)⟩,
      ⟨g, mk, s₂, L, rfl, rfl, hqc, rfl, hL, rfl, rfl⟩, ?_⟩
    show Steps p.tables e below _ ((({ U with heap := s₂.heap, slotsUsed := s₂.slotsUsed } : State).setVm s₂.vm).setTop { g with pc := g.pc + len₂, stack := v.toList ++ g.stack })
    rw [← hs₂]
    exact hsteps
  · obtain ⟨e2, q2, q3, q4, q5, q6⟩ := id hsm
    have e3 : s₂ = ({ (U.calling g mk a).setFrames s₂.frames with heap := s₂.heap, slotsUsed := s₂.slotsUsed } : State).setVm s₂.vm := by
      have : s₂ = ({ s₂ with vm := (U.calling g mk a).vm } : State).setVm s₂.vm := rfl
      rw [e2] at this
      exact this
    have hf₂ : s₂.frames = .throwing q :: .java g :: U.frames.tail := hend
    have hW' : U.WarmedH s₂.vm := hW₂
    have hs₂ : s₂ = ((({ U with heap := s₂.heap, slotsUsed := s₂.slotsUsed } : State).setVm s₂.vm).setTop g).pushFrame (.throwing q) := by
      refine e3.trans ?_
      rw [hf₂, State.calling_eq h.top, State.setFrames_setFrames, State.pushFrame, State.frames_setTop _ hr', State.setTop_of_frames _ hr', State.setFrames_setFrames, hr]
      rfl
    have hsame : U.sameButNew ({ U with heap := s₂.heap, slotsUsed := s₂.slotsUsed } : State) L mc ms := by
      refine ⟨?_, q2, q3, q4, q5, q6⟩
      obtain ⟨t, ht, -⟩ := State.frames_cons hr
      show ({ U with heap := s₂.heap, slotsUsed := s₂.slotsUsed } : State) = { U.setFrames U.frames with heap := s₂.heap, slotsUsed := s₂.slotsUsed }
      rw [State.setFrames_self ht]
    subst hg
    refine Or.inr ⟨q, ⟨(({ U with heap := s₂.heap, slotsUsed := s₂.slotsUsed } : State).setVm s₂.vm), Ls ++ L, c0 + mc, s0 + ms⟩,
      ⟨X.admits, X.cas, X.clock, X.frames, X.room, X.hears, X.method, X.code, (X.here.setHeapUsed s₂.heap s₂.slotsUsed).setVm hW'.alike, X.tail, State.WarmedH.trans X.warmed hW', X.limits, X.bytes, X.same.trans (hsame.setVm s.vm)⟩,
      ⟨g, mk, s₂, L, E, ce, rfl, rfl, hx, hce, hcv, hcl, rfl, hL, rfl, rfl⟩, ?_⟩
    show Steps p.tables e below _ (((({ U with heap := s₂.heap, slotsUsed := s₂.slotsUsed } : State).setVm s₂.vm).setTop g).pushFrame (.throwing q))
    rw [← hs₂]
    exact hsteps
end Payer
section Calls
variable {p : Program} {l : Launch} {e : Env} {R : Room} {s : State} {m : MethodId} {args : Array Value} {below : List Frame} {meth : Method} {c : Code} {T : State} {locs : List Loc} {cells slots : Nat}
theorem vx_callV (X : Stand p l e R s m args below meth c T locs cells slots) (hexec : p.tables.exec = Jvm.exec) {own C : String} {index : Nat} {y : MethodName} {bytes : ByteArray} {maxL : Nat} {ret : Option FieldType}
    (hown : s.vm.findClass own = some m.cls) (hlink : (Cond.methodLink own index y).before args s = true) (hinst : (Cond.instanceMethod y).before args s = true) (hsel : (Cond.selects C y y).before args s = true)
    (hcode : (Cond.code y bytes maxL ret).before args s = true) (hy : y.cls ≠ "java/lang/invoke/MethodHandle" ∧ y.cls ≠ "java/lang/invoke/VarHandle")
    {W9 : Nat} {Pre : Pt → Array Value → Prop} {Post : Pt → Array Value → Option Value → Pt → Prop} {PostX : Pt → Array Value → Addr → Pt → Prop} (hK : vx_Back l R p e below s args y 3 W9 Pre Post PostX)
    {b : Addr} {cellB : Cell} (hcell : T.heap[b]? = some cellB) (hobj : cellB.vm.isStatics = false) (hcls : s.vm.findClass C = some cellB.cls)
    {g : JFrame} (hg : g.method = m) (hsize : g.locals.size = c.maxLocals) {argsL rest : List Value} (hlen : ∀ sig, parseMethodDescriptor y.desc = some sig → argsL.length = sig.parameters.length)
    (hstack : g.stack = argsL.reverse ++ .ref b :: rest) (hW : 2 * g.monitorRoom + (rest.map fun v => v.category).sum ≤ W9) (hdg : decode c.code g.pc = .ok (.invokevirtual index, 3))
    (hpre : ∀ vm₁, s.WarmedH vm₁ → Pre ⟨T.setVm vm₁, locs, cells, slots⟩ (Value.ref b :: argsL).toArray) :
    (∃ (v : Option Value) (vm₁ : Vm) (B : Pt), s.WarmedH vm₁ ∧ Stand p l e R s m args below meth c B.U B.locs B.cells B.slots ∧ Post ⟨T.setVm vm₁, locs, cells, slots⟩ (Value.ref b :: argsL).toArray v B ∧
      ∀ target, Steps p.tables e below (B.U.setTop { g with pc := g.pc + 3, stack := v.toList ++ rest }) target → Steps p.tables e below (T.setTop g) target) ∨
    (∃ (q : Addr) (vm₁ : Vm) (B : Pt), s.WarmedH vm₁ ∧ Stand p l e R s m args below meth c B.U B.locs B.cells B.slots ∧ PostX ⟨T.setVm vm₁, locs, cells, slots⟩ (Value.ref b :: argsL).toArray q B ∧
      Steps p.tables e below (T.setTop g) ((B.U.setTop { g with stack := rest }).pushFrame (.throwing q))) := by
  obtain ⟨mk, methM, hnamed, hmethM, hstM, habM⟩ := Cond.instanceMethod_spec hinst
  obtain ⟨methM', cM, hmethM', -, -, -, -, -, -, hsigM⟩ := Cond.code_spec hnamed hcode
  cases hmethM.symm.trans hmethM'
  obtain ⟨c2, r2, m2, q1, q2, q3, q4, kP, hkP, hkPi⟩ := Cond.selects_spec hsel
  cases hcls.symm.trans q1
  cases (State.methodFound?_of_named hnamed hy).symm.trans q2
  cases hnamed.symm.trans q3
  have hselP : selectMethod e.platform s.vm cellB.cls mk = .method mk := by rw [Launch.admits_selectMethod X.admits]; exact q4
  obtain ⟨vm₁, X₁, hstep₁⟩ := X.invokevirtual hexec hown hlink hnamed hmethM hstM hkP hkPi hy (a := b) (cell := cellB) hcell
    (fun z h => by rw [h] at hobj; cases hobj) hselP hmethM habM hkP hkPi (g := g) hg (argsL := argsL) (rest := rest) (hlen _ hsigM) hstack hdg
  rcases hK m meth c ⟨T.setVm vm₁, locs, cells, slots⟩ { g with stack := rest } (.invokevirtual index) mk (Value.ref b :: argsL).toArray X₁ hg hsize hdg hW (X₁.named hnamed) (hpre vm₁ X₁.warmed) with ⟨v, B, X', hpost, hsteps⟩ | ⟨q, B, X', hpost, hsteps⟩
  · exact Or.inl ⟨v, vm₁, B, X₁.warmed, X', hpost, fun target h => hstep₁ _ fun acts => by rw [doInvoke_state]; exact hsteps.trans h⟩
  · exact Or.inr ⟨q, vm₁, B, X₁.warmed, X', hpost, hstep₁ _ fun acts => by rw [doInvoke_state]; exact hsteps⟩
theorem vx_callS (X : Stand p l e R s m args below meth c T locs cells slots) (hexec : p.tables.exec = Jvm.exec) {own : String} {index : Nat} {y : MethodName} {bytes : ByteArray} {maxL : Nat} {ret : Option FieldType}
    (hown : s.vm.findClass own = some m.cls) (hlink : (Cond.methodLink own index y).before args s = true) (hstat : (Cond.static y).before args s = true) (hinit : (Cond.initialized y.cls).before args s = true)
    (hcode : (Cond.code y bytes maxL ret).before args s = true) (hy : y.cls ≠ "java/lang/invoke/MethodHandle" ∧ y.cls ≠ "java/lang/invoke/VarHandle")
    {W9 : Nat} {Pre : Pt → Array Value → Prop} {Post : Pt → Array Value → Option Value → Pt → Prop} {PostX : Pt → Array Value → Addr → Pt → Prop} (hK : vx_Back l R p e below s args y 3 W9 Pre Post PostX)
    {g : JFrame} (hg : g.method = m) (hsize : g.locals.size = c.maxLocals) {argsL rest : List Value} (hlen : ∀ sig, parseMethodDescriptor y.desc = some sig → argsL.length = sig.parameters.length)
    (hstack : g.stack = argsL.reverse ++ rest) (hW : 2 * g.monitorRoom + (rest.map fun v => v.category).sum ≤ W9) (hdg : decode c.code g.pc = .ok (.invokestatic index, 3))
    (hpre : ∀ vm₁, s.WarmedH vm₁ → Pre ⟨T.setVm vm₁, locs, cells, slots⟩ argsL.toArray) :
    (∃ (v : Option Value) (vm₁ : Vm) (B : Pt), s.WarmedH vm₁ ∧ Stand p l e R s m args below meth c B.U B.locs B.cells B.slots ∧ Post ⟨T.setVm vm₁, locs, cells, slots⟩ argsL.toArray v B ∧
      ∀ target, Steps p.tables e below (B.U.setTop { g with pc := g.pc + 3, stack := v.toList ++ rest }) target → Steps p.tables e below (T.setTop g) target) ∨
    (∃ (q : Addr) (vm₁ : Vm) (B : Pt), s.WarmedH vm₁ ∧ Stand p l e R s m args below meth c B.U B.locs B.cells B.slots ∧ PostX ⟨T.setVm vm₁, locs, cells, slots⟩ argsL.toArray q B ∧
      Steps p.tables e below (T.setTop g) ((B.U.setTop { g with stack := rest }).pushFrame (.throwing q))) := by
  obtain ⟨mk, hnamed⟩ := Cond.code_named hcode
  obtain ⟨methM, cM, hmethM, -, -, -, -, -, -, hsigM⟩ := Cond.code_spec hnamed hcode
  have hstatic : methM.isStatic = true := Cond.static_spec hnamed hmethM hstat
  obtain ⟨kP, hkP, -⟩ := className_of_methodNamed hnamed
  have hinitP : kP.init = .initialized := Cond.initialized_spec (findClass_of_methodNamed hnamed) hkP hinit
  obtain ⟨vm₁, X₁, hstep₁⟩ := X.invokestatic hexec hown hlink hnamed hmethM hstatic hkP hinitP hy (g := g) hg (argsL := argsL) (rest := rest) (hlen _ hsigM) hstack hdg
  rcases hK m meth c ⟨T.setVm vm₁, locs, cells, slots⟩ { g with stack := rest } (.invokestatic index) mk argsL.toArray X₁ hg hsize hdg hW (X₁.named hnamed) (hpre vm₁ X₁.warmed) with ⟨v, B, X', hpost, hsteps⟩ | ⟨q, B, X', hpost, hsteps⟩
  · exact Or.inl ⟨v, vm₁, B, X₁.warmed, X', hpost, fun target h => hstep₁ _ fun acts => by rw [doInvoke_state]; exact hsteps.trans h⟩
  · exact Or.inr ⟨q, vm₁, B, X₁.warmed, X', hpost, hstep₁ _ fun acts => by rw [doInvoke_state]; exact hsteps⟩
end Calls
theorem vx_cls {s : State} {T : State} {vm₁ : Vm} {E : String} {k : ClassId} (hW : s.WarmedH vm₁) (h : (T.setVm vm₁).vm.findClass E = some k) : s.vm.findClass E = some k := by
  have h1 : vm₁.findClass E = some k := h
  rw [hW.alike.findClass] at h1
  exact h1
/-- the method's frame g, with q thrown over it -/
def vx_W (p : Program) (l : Launch) (e : Env) (R : Room) (s : State) (m : MethodId) (args : Array Value) (below : List Frame) (meth : Method) (c : Code) (H : Heap) (locs : List Loc) (cells slots : Nat) (Q : State → Prop) (g : JFrame) (q : Addr) : Prop :=
  ∀ T : State, T.heap = H → Stand p l e R s m args below meth c T locs cells slots → ∃ t, Steps p.tables e below ((T.setTop g).pushFrame (.throwing q)) t ∧ Q t
def vx_Run (p : Program) (l : Launch) (e : Env) (R : Room) (s : State) (m : MethodId) (args : Array Value) (below : List Frame) (meth : Method) (c : Code) (H : Heap) (locs : List Loc) (cells slots mc ms : Nat) (g : JFrame) (rest : List Value) (Qa : State → Outcome → State → Prop) (XC : String → State → State → Prop) (free : Addr → Prop) : Prop :=
  ∀ T : State, T.heap = H → Stand p l e R s m args below meth c T locs cells slots →
    (∃ (v : Option Value) (st₀ t T' : State) (L : List Loc), st₀.heap = H ∧ Stand p l e R s m args below meth c T' (locs ++ L) (cells + mc) (slots + ms) ∧ (∀ q ∈ L, free q.base) ∧ T'.heap = t.heap ∧ T'.vm = t.vm ∧ Qa st₀ (.returned v) t ∧
      Goes p e below T g T' { g with pc := g.pc + 3, stack := v.toList ++ rest }) ∨
    (∃ (q : Addr) (st₀ t T' : State) (L : List Loc) (E : String) (ce : Cell), st₀.heap = H ∧ Stand p l e R s m args below meth c T' (locs ++ L) (cells + mc) (slots + ms) ∧ (∀ z ∈ L, free z.base) ∧ T'.heap = t.heap ∧ T'.vm = t.vm ∧ XC E st₀ t ∧ t.heap[q]? = some ce ∧ ce.vm = .none ∧ s.vm.findClass E = some ce.cls ∧
      Steps p.tables e below (T.setTop g) ((T'.setTop { g with stack := rest }).pushFrame (.throwing q)))
def vx_X {S : Type} (px : S → Prop) (B : String → S → State → Prop) (A : Nat → Prop) : String → State → State → Prop := fun E st t => ∃ u : S, px u ∧ B E u t ∧ va_F A st t
section Runs
variable {p : Program} {l : Launch} {e : Env} {R : Room} {s : State} {m : MethodId} {args : Array Value} {below : List Frame} {meth : Method} {c : Code} {H : Heap} {locs : List Loc} {cells slots : Nat}
variable {y : MethodName} {bytes cc : ByteArray} {maxL nL mc ms n index : Nat} {ret : Option FieldType} {ws : List Cond} {rm : Room} {Pc : Array Value → State → Prop} {Qc : Array Value → State → Outcome → State → Prop} {XC : String → State → State → Prop} {free : Addr → Prop} {Ts : List Cond} {own C : String} {b : Addr} {As rest : List Value} {g : JFrame}
theorem vx_callBack (cb : CallB R s args own index y bytes maxL ret ws rm mc ms n) (hM : vx_Met l y ws rm Pc Qc XC mc ms free) (hbl : FrameBlind Pc) : vx_Back l R p e below s args y 3 8 (PreOf R mc ms Pc) (PostOf Qc mc ms free) (vx_Post XC mc ms free) := by
  obtain ⟨hrc, hrs, hfr, hlo, hws, hcw, -, hini, -⟩ := cb
  exact vx_back (bytes := bytes) (maxL := maxL) (ret := ret) hM hbl hrc hrs hfr hlo hws hcw (fun a' U hW => word_at hW (Or.inl (by first | rfl | simp [Cond.onTables, Cond.keeps, Cond.steady])) hini)
theorem vx_runV (S : CallFix p m c cc nL s args Ts own) (hM : vx_Met l y ws rm Pc Qc XC mc ms free) (cw : CallW R s args own C index y bytes maxL ret ws rm mc ms n) (hp : PreV s H C b Pc As)
    (hg : g.method = m) (hn : As.length = n) (hsize : g.locals.size = nL) (hstack : g.stack = As.reverse ++ .ref b :: rest) (hW : 2 * g.monitorRoom + (rest.map fun v => v.category).sum ≤ 8) (hdg : decode cc g.pc = .ok (.invokevirtual index, 3)) (hf : cells + mc ≤ R.cells ∧ slots + ms ≤ R.slots) :
    vx_Run p l e R s m args below meth c H locs cells slots mc ms g rest (Qc (Value.ref b :: As).toArray) XC free := by
  have hK : vx_Back l R p e below s args y 3 8 (PreOf R mc ms Pc) (PostOf Qc mc ms free) (vx_Post XC mc ms free) := vx_callBack cw.1 hM hp.1
  obtain ⟨⟨-, -, -, -, -, -, hcode, -, hy, hlen, hl⟩, hin, hse⟩ := cw
  obtain ⟨hx, hb, hml, ho, -⟩ := S
  obtain ⟨-, ⟨cellB, hcB, hoB, hclB⟩, hPc⟩ := hp
  intro T hT X
  rcases vx_callV X hx (C := C) (bytes := bytes) (maxL := maxL) (ret := ret) ho hl hin hse hcode hy hK (by rw [hT]; exact hcB) hoB hclB hg (hsize.trans hml.symm) (argsL := As) (rest := rest) (fun sig h => hn.trans (hlen sig h)) hstack hW (by rw [hb]; exact hdg)
    (fun vm₁ hW₁ => ⟨hf.1, hf.2, hPc (T.setVm vm₁) hT hW₁⟩) with ⟨v, vm₁, ⟨U', l2, c2, s2⟩, hW₁, X', ⟨g', mk, t, L, e1, e2, hq, h1, hL, h2, h3⟩, st⟩ | ⟨q, vm₁, ⟨U', l2, c2, s2⟩, hW₁, X', ⟨g', mk, t, L, E, ce, e1, e2, hq, hce, hcv, hcl, h1, hL, h2, h3⟩, st⟩
  · dsimp only [Pt.U, Pt.locs, Pt.cells, Pt.slots] at X' e1 e2 h1 h2 h3 st
    subst h1; subst h2; subst h3
    exact Or.inl ⟨v, (T.setVm vm₁).calling g' mk (Value.ref b :: As).toArray, t, U', L, hT, X', hL, e1, e2, hq, st⟩
  · dsimp only [Pt.U, Pt.locs, Pt.cells, Pt.slots] at X' e1 e2 h1 h2 h3 st hcl
    subst h1; subst h2; subst h3
    exact Or.inr ⟨q, (T.setVm vm₁).calling g' mk (Value.ref b :: As).toArray, t, U', L, E, ce, hT, X', hL, e1, e2, hq, hce, hcv, vx_cls hW₁ hcl, st⟩
theorem vx_runS (S : CallFix p m c cc nL s args Ts own) (hM : vx_Met l y ws rm Pc Qc XC mc ms free) (cw : CallB R s args own index y bytes maxL ret ws rm mc ms n ∧ (Cond.static y).before args s = true) (hp : PreS s H Pc As)
    (hg : g.method = m) (hn : As.length = n) (hsize : g.locals.size = nL) (hstack : g.stack = As.reverse ++ rest) (hW : 2 * g.monitorRoom + (rest.map fun v => v.category).sum ≤ 8) (hdg : decode cc g.pc = .ok (.invokestatic index, 3)) (hf : cells + mc ≤ R.cells ∧ slots + ms ≤ R.slots) :
    vx_Run p l e R s m args below meth c H locs cells slots mc ms g rest (Qc As.toArray) XC free := by
  have hK : vx_Back l R p e below s args y 3 8 (PreOf R mc ms Pc) (PostOf Qc mc ms free) (vx_Post XC mc ms free) := vx_callBack cw.1 hM hp.1
  obtain ⟨⟨-, -, -, -, -, -, hcode, hini, hy, hlen, hl⟩, hstt⟩ := cw
  obtain ⟨hx, hb, hml, ho, -⟩ := S
  intro T hT X
  rcases vx_callS X hx (bytes := bytes) (maxL := maxL) (ret := ret) ho hl hstt hini hcode hy hK hg (hsize.trans hml.symm) (argsL := As) (rest := rest) (fun sig h => hn.trans (hlen sig h)) hstack hW (by rw [hb]; exact hdg)
    (fun vm₁ hW₁ => ⟨hf.1, hf.2, hp.2 (T.setVm vm₁) hT hW₁⟩) with ⟨v, vm₁, ⟨U', l2, c2, s2⟩, hW₁, X', ⟨g', mk, t, L, e1, e2, hq, h1, hL, h2, h3⟩, st⟩ | ⟨q, vm₁, ⟨U', l2, c2, s2⟩, hW₁, X', ⟨g', mk, t, L, E, ce, e1, e2, hq, hce, hcv, hcl, h1, hL, h2, h3⟩, st⟩
  · dsimp only [Pt.U, Pt.locs, Pt.cells, Pt.slots] at X' e1 e2 h1 h2 h3 st
    subst h1; subst h2; subst h3
    exact Or.inl ⟨v, (T.setVm vm₁).calling g' mk As.toArray, t, U', L, hT, X', hL, e1, e2, hq, st⟩
  · dsimp only [Pt.U, Pt.locs, Pt.cells, Pt.slots] at X' e1 e2 h1 h2 h3 st hcl
    subst h1; subst h2; subst h3
    exact Or.inr ⟨q, (T.setVm vm₁).calling g' mk As.toArray, t, U', L, E, ce, hT, X', hL, e1, e2, hq, hce, hcv, vx_cls hW₁ hcl, st⟩
end Runs
section Rows
variable {p : Program} {l : Launch} {e : Env} {R : Room} {s : State} {m : MethodId} {args : Array Value} {below : List Frame} {meth : Method} {c : Code} {H : Heap} {locs : List Loc} {cells slots : Nat} {Q : State → Prop}
variable {mc ms : Nat} {free : Addr → Prop} {A0 A1 : Nat → Prop} {H0 : Heap} {a : Array Value} {pc : Nat} {ls : Array Slot} {st0 rest : List Value}
theorem vx_keep {st₀ t T' : State} {L : List Loc} (h0 : st₀.heap = H) (e1 : T'.heap = t.heap) (hS : va_S A0 H0 H locs) (hA : ∀ q, q < H.size → A1 q → A0 q) (hf : ∀ q, free q → A0 q) (hL : ∀ q ∈ L, free q.base) (hF : va_F A1 st₀ t) :
    H.size ≤ T'.heap.size ∧ (∀ q : Nat, q < H.size → ¬ A1 q → T'.heap[q]? = H[q]?) ∧ va_S A0 H0 T'.heap (locs ++ L) := by
  obtain ⟨hz, hk⟩ := hF
  rw [h0] at hz hk
  exact ⟨by rw [e1]; exact hz, fun q h1 h2 => by rw [e1]; exact hk q h1 h2,
    ⟨Nat.le_trans hS.1 (by rw [e1]; exact hz), fun q h1 h2 => by rw [e1, hk q (Nat.lt_of_lt_of_le h1 hS.1) (fun z => h2 (hA q (Nat.lt_of_lt_of_le h1 hS.1) z))]; exact hS.2.1 q h1 h2, fun q hq => by
      rcases List.mem_append.mp hq with h | h
      · exact hS.2.2 q h
      · exact hf _ (hL q h)⟩⟩
theorem vx_calli {S SX : Type} {post : Int32 → S → Prop} {px : SX → Prop} {B : S → State → Prop} {BX : String → SX → State → Prop} {AX : Nat → Prop} (hr : vx_Run p l e R s m args below meth c H locs cells slots mc ms (F0 m pc ls st0) rest (va_Qi post B A1 a) (vx_X px BX AX) free) (hS : va_S A0 H0 H locs) (hA : ∀ q, q < H.size → A1 q → A0 q) (hf : ∀ q, free q → A0 q) (hAX : ∀ q, q < H.size → AX q → A0 q)
    (kx : ∀ (E : String) (ce : Cell) (q9 : Addr) (u : SX) (t : State) (H1 : Heap) (locs1 : List Loc), t.heap = H1 → s.vm.Alike t.vm → px u → BX E u t → H.size ≤ H1.size → (∀ q : Nat, q < H.size → ¬ AX q → H1[q]? = H[q]?) → va_S A0 H0 H1 locs1 → H1[q9]? = some ce → ce.vm = .none → s.vm.findClass E = some ce.cls → vx_W p l e R s m args below meth c H1 locs1 (cells + mc) (slots + ms) Q (F0 m pc ls rest) q9)
    (kk : ∀ (r : Int32) (u : S) (t : State) (H1 : Heap) (locs1 : List Loc), t.heap = H1 → s.vm.Alike t.vm → post r u → B u t → H.size ≤ H1.size → (∀ q : Nat, q < H.size → ¬ A1 q → H1[q]? = H[q]?) → va_S A0 H0 H1 locs1 → W p l e R s m args below meth c H1 locs1 (cells + mc) (slots + ms) Q (F0 m (pc + 3) ls (.int r :: rest))) : W p l e R s m args below meth c H locs cells slots Q (F0 m pc ls st0) := by
  intro T hT X
  rcases hr T hT X with ⟨v, st₀, t, T', L, h0, X', hL, e1, e2, ⟨⟨r, u, hv, hp, hb⟩, hF⟩, st⟩ | ⟨q, st₀, t, T', L, E, ce, h0, X', hL, e1, e2, ⟨u, hp, hb, hF⟩, hce, hcv, hcl, st⟩
  · cases hv
    obtain ⟨k1, k2, k3⟩ := vx_keep h0 e1 hS hA hf hL hF
    obtain ⟨t2, a1, b1⟩ := kk r u t T'.heap (locs ++ L) e1.symm (by rw [← e2]; exact X'.warmed.alike) hp hb k1 k2 k3 T' rfl X'
    exact ⟨t2, st t2 a1, b1⟩
  · obtain ⟨k1, k2, k3⟩ := vx_keep h0 e1 hS hAX hf hL hF
    obtain ⟨t2, a1, b1⟩ := kx E ce q u t T'.heap (locs ++ L) e1.symm (by rw [← e2]; exact X'.warmed.alike) hp hb k1 k2 k3 (by rw [e1]; exact hce) hcv hcl T' rfl X'
    exact ⟨t2, st.trans a1, b1⟩
theorem vx_calll {S SX : Type} {post : Int64 → S → Prop} {px : SX → Prop} {B : S → State → Prop} {BX : String → SX → State → Prop} {AX : Nat → Prop} (hr : vx_Run p l e R s m args below meth c H locs cells slots mc ms (F0 m pc ls st0) rest (va_Ql post B A1 a) (vx_X px BX AX) free) (hS : va_S A0 H0 H locs) (hA : ∀ q, q < H.size → A1 q → A0 q) (hf : ∀ q, free q → A0 q) (hAX : ∀ q, q < H.size → AX q → A0 q)
    (kx : ∀ (E : String) (ce : Cell) (q9 : Addr) (u : SX) (t : State) (H1 : Heap) (locs1 : List Loc), t.heap = H1 → s.vm.Alike t.vm → px u → BX E u t → H.size ≤ H1.size → (∀ q : Nat, q < H.size → ¬ AX q → H1[q]? = H[q]?) → va_S A0 H0 H1 locs1 → H1[q9]? = some ce → ce.vm = .none → s.vm.findClass E = some ce.cls → vx_W p l e R s m args below meth c H1 locs1 (cells + mc) (slots + ms) Q (F0 m pc ls rest) q9)
    (kk : ∀ (r : Int64) (u : S) (t : State) (H1 : Heap) (locs1 : List Loc), t.heap = H1 → s.vm.Alike t.vm → post r u → B u t → H.size ≤ H1.size → (∀ q : Nat, q < H.size → ¬ A1 q → H1[q]? = H[q]?) → va_S A0 H0 H1 locs1 → W p l e R s m args below meth c H1 locs1 (cells + mc) (slots + ms) Q (F0 m (pc + 3) ls (.long r :: rest))) : W p l e R s m args below meth c H locs cells slots Q (F0 m pc ls st0) := by
  intro T hT X
  rcases hr T hT X with ⟨v, st₀, t, T', L, h0, X', hL, e1, e2, ⟨⟨r, u, hv, hp, hb⟩, hF⟩, st⟩ | ⟨q, st₀, t, T', L, E, ce, h0, X', hL, e1, e2, ⟨u, hp, hb, hF⟩, hce, hcv, hcl, st⟩
  · cases hv
    obtain ⟨k1, k2, k3⟩ := vx_keep h0 e1 hS hA hf hL hF
    obtain ⟨t2, a1, b1⟩ := kk r u t T'.heap (locs ++ L) e1.symm (by rw [← e2]; exact X'.warmed.alike) hp hb k1 k2 k3 T' rfl X'
    exact ⟨t2, st t2 a1, b1⟩
  · obtain ⟨k1, k2, k3⟩ := vx_keep h0 e1 hS hAX hf hL hF
    obtain ⟨t2, a1, b1⟩ := kx E ce q u t T'.heap (locs ++ L) e1.symm (by rw [← e2]; exact X'.warmed.alike) hp hb k1 k2 k3 (by rw [e1]; exact hce) hcv hcl T' rfl X'
    exact ⟨t2, st.trans a1, b1⟩
theorem vx_callf {S SX : Type} {post : UInt32 → S → Prop} {px : SX → Prop} {B : S → State → Prop} {BX : String → SX → State → Prop} {AX : Nat → Prop} (hr : vx_Run p l e R s m args below meth c H locs cells slots mc ms (F0 m pc ls st0) rest (va_Qf post B A1 a) (vx_X px BX AX) free) (hS : va_S A0 H0 H locs) (hA : ∀ q, q < H.size → A1 q → A0 q) (hf : ∀ q, free q → A0 q) (hAX : ∀ q, q < H.size → AX q → A0 q)
    (kx : ∀ (E : String) (ce : Cell) (q9 : Addr) (u : SX) (t : State) (H1 : Heap) (locs1 : List Loc), t.heap = H1 → s.vm.Alike t.vm → px u → BX E u t → H.size ≤ H1.size → (∀ q : Nat, q < H.size → ¬ AX q → H1[q]? = H[q]?) → va_S A0 H0 H1 locs1 → H1[q9]? = some ce → ce.vm = .none → s.vm.findClass E = some ce.cls → vx_W p l e R s m args below meth c H1 locs1 (cells + mc) (slots + ms) Q (F0 m pc ls rest) q9)
    (kk : ∀ (r : UInt32) (u : S) (t : State) (H1 : Heap) (locs1 : List Loc), t.heap = H1 → s.vm.Alike t.vm → post r u → B u t → H.size ≤ H1.size → (∀ q : Nat, q < H.size → ¬ A1 q → H1[q]? = H[q]?) → va_S A0 H0 H1 locs1 → W p l e R s m args below meth c H1 locs1 (cells + mc) (slots + ms) Q (F0 m (pc + 3) ls (.float r :: rest))) : W p l e R s m args below meth c H locs cells slots Q (F0 m pc ls st0) := by
  intro T hT X
  rcases hr T hT X with ⟨v, st₀, t, T', L, h0, X', hL, e1, e2, ⟨⟨r, u, hv, hp, hb⟩, hF⟩, st⟩ | ⟨q, st₀, t, T', L, E, ce, h0, X', hL, e1, e2, ⟨u, hp, hb, hF⟩, hce, hcv, hcl, st⟩
  · cases hv
    obtain ⟨k1, k2, k3⟩ := vx_keep h0 e1 hS hA hf hL hF
    obtain ⟨t2, a1, b1⟩ := kk r u t T'.heap (locs ++ L) e1.symm (by rw [← e2]; exact X'.warmed.alike) hp hb k1 k2 k3 T' rfl X'
    exact ⟨t2, st t2 a1, b1⟩
  · obtain ⟨k1, k2, k3⟩ := vx_keep h0 e1 hS hAX hf hL hF
    obtain ⟨t2, a1, b1⟩ := kx E ce q u t T'.heap (locs ++ L) e1.symm (by rw [← e2]; exact X'.warmed.alike) hp hb k1 k2 k3 (by rw [e1]; exact hce) hcv hcl T' rfl X'
    exact ⟨t2, st.trans a1, b1⟩
theorem vx_calld {S SX : Type} {post : UInt64 → S → Prop} {px : SX → Prop} {B : S → State → Prop} {BX : String → SX → State → Prop} {AX : Nat → Prop} (hr : vx_Run p l e R s m args below meth c H locs cells slots mc ms (F0 m pc ls st0) rest (va_Qd post B A1 a) (vx_X px BX AX) free) (hS : va_S A0 H0 H locs) (hA : ∀ q, q < H.size → A1 q → A0 q) (hf : ∀ q, free q → A0 q) (hAX : ∀ q, q < H.size → AX q → A0 q)
    (kx : ∀ (E : String) (ce : Cell) (q9 : Addr) (u : SX) (t : State) (H1 : Heap) (locs1 : List Loc), t.heap = H1 → s.vm.Alike t.vm → px u → BX E u t → H.size ≤ H1.size → (∀ q : Nat, q < H.size → ¬ AX q → H1[q]? = H[q]?) → va_S A0 H0 H1 locs1 → H1[q9]? = some ce → ce.vm = .none → s.vm.findClass E = some ce.cls → vx_W p l e R s m args below meth c H1 locs1 (cells + mc) (slots + ms) Q (F0 m pc ls rest) q9)
    (kk : ∀ (r : UInt64) (u : S) (t : State) (H1 : Heap) (locs1 : List Loc), t.heap = H1 → s.vm.Alike t.vm → post r u → B u t → H.size ≤ H1.size → (∀ q : Nat, q < H.size → ¬ A1 q → H1[q]? = H[q]?) → va_S A0 H0 H1 locs1 → W p l e R s m args below meth c H1 locs1 (cells + mc) (slots + ms) Q (F0 m (pc + 3) ls (.double r :: rest))) : W p l e R s m args below meth c H locs cells slots Q (F0 m pc ls st0) := by
  intro T hT X
  rcases hr T hT X with ⟨v, st₀, t, T', L, h0, X', hL, e1, e2, ⟨⟨r, u, hv, hp, hb⟩, hF⟩, st⟩ | ⟨q, st₀, t, T', L, E, ce, h0, X', hL, e1, e2, ⟨u, hp, hb, hF⟩, hce, hcv, hcl, st⟩
  · cases hv
    obtain ⟨k1, k2, k3⟩ := vx_keep h0 e1 hS hA hf hL hF
    obtain ⟨t2, a1, b1⟩ := kk r u t T'.heap (locs ++ L) e1.symm (by rw [← e2]; exact X'.warmed.alike) hp hb k1 k2 k3 T' rfl X'
    exact ⟨t2, st t2 a1, b1⟩
  · obtain ⟨k1, k2, k3⟩ := vx_keep h0 e1 hS hAX hf hL hF
    obtain ⟨t2, a1, b1⟩ := kx E ce q u t T'.heap (locs ++ L) e1.symm (by rw [← e2]; exact X'.warmed.alike) hp hb k1 k2 k3 (by rw [e1]; exact hce) hcv hcl T' rfl X'
    exact ⟨t2, st.trans a1, b1⟩
theorem vx_callv {S SX : Type} {post : S → Prop} {px : SX → Prop} {B : S → State → Prop} {BX : String → SX → State → Prop} {AX : Nat → Prop} (hr : vx_Run p l e R s m args below meth c H locs cells slots mc ms (F0 m pc ls st0) rest (va_Qv post B A1 a) (vx_X px BX AX) free) (hS : va_S A0 H0 H locs) (hA : ∀ q, q < H.size → A1 q → A0 q) (hf : ∀ q, free q → A0 q) (hAX : ∀ q, q < H.size → AX q → A0 q)
    (kx : ∀ (E : String) (ce : Cell) (q9 : Addr) (u : SX) (t : State) (H1 : Heap) (locs1 : List Loc), t.heap = H1 → s.vm.Alike t.vm → px u → BX E u t → H.size ≤ H1.size → (∀ q : Nat, q < H.size → ¬ AX q → H1[q]? = H[q]?) → va_S A0 H0 H1 locs1 → H1[q9]? = some ce → ce.vm = .none → s.vm.findClass E = some ce.cls → vx_W p l e R s m args below meth c H1 locs1 (cells + mc) (slots + ms) Q (F0 m pc ls rest) q9)
    (kk : ∀ (u : S) (t : State) (H1 : Heap) (locs1 : List Loc), t.heap = H1 → s.vm.Alike t.vm → post u → B u t → H.size ≤ H1.size → (∀ q : Nat, q < H.size → ¬ A1 q → H1[q]? = H[q]?) → va_S A0 H0 H1 locs1 → W p l e R s m args below meth c H1 locs1 (cells + mc) (slots + ms) Q (F0 m (pc + 3) ls (rest))) : W p l e R s m args below meth c H locs cells slots Q (F0 m pc ls st0) := by
  intro T hT X
  rcases hr T hT X with ⟨v, st₀, t, T', L, h0, X', hL, e1, e2, ⟨⟨u, hv, hp, hb⟩, hF⟩, st⟩ | ⟨q, st₀, t, T', L, E, ce, h0, X', hL, e1, e2, ⟨u, hp, hb, hF⟩, hce, hcv, hcl, st⟩
  · cases hv
    obtain ⟨k1, k2, k3⟩ := vx_keep h0 e1 hS hA hf hL hF
    obtain ⟨t2, a1, b1⟩ := kk u t T'.heap (locs ++ L) e1.symm (by rw [← e2]; exact X'.warmed.alike) hp hb k1 k2 k3 T' rfl X'
    exact ⟨t2, st t2 a1, b1⟩
  · obtain ⟨k1, k2, k3⟩ := vx_keep h0 e1 hS hAX hf hL hF
    obtain ⟨t2, a1, b1⟩ := kx E ce q u t T'.heap (locs ++ L) e1.symm (by rw [← e2]; exact X'.warmed.alike) hp hb k1 k2 k3 (by rw [e1]; exact hce) hcv hcl T' rfl X'
    exact ⟨t2, st.trans a1, b1⟩
/-- caught by the row x of this method's table; the rows ahead don't take it -/
theorem vx_catch {own name : String} {E : String} {ce : Cell} {q : Addr} (hown : s.vm.findClass own = some m.cls) (pre : List ExceptionTableEntry) (x : ExceptionTableEntry) (suf : List ExceptionTableEntry) (hsplit : c.exceptionTable.toList = pre ++ x :: suf)
    (hpass : ∀ z ∈ pre, covers z pc = false ∨ (z.catchType ≠ 0 ∧ ∃ nm : String, (Cond.classLink own z.catchType nm).before args s = true ∧ va_Nc E nm s)) (hx : covers x pc = true) (h0 : x.catchType ≠ 0)
    (hlink : (Cond.classLink own x.catchType name).before args s = true) (hcast : (Cond.castable E name).before args s = true) (hcell : H[q]? = some ce) (hv : ce.vm = .none) (hcl : s.vm.findClass E = some ce.cls)
    (kk : W p l e R s m args below meth c H locs cells slots Q (F0 m x.handlerPc ls [.ref q])) : vx_W p l e R s m args below meth c H locs cells slots Q (F0 m pc ls rest) q := by
  intro T hT X
  have hpl : e.platform.magicAccessors = ({} : Platform).magicAccessors := by rw [X.admits.platform]
  obtain ⟨c3, c4, hc3, hc4, hasg⟩ := Cond.castable_spec hcast
  cases Option.some.inj (hc3.symm.trans hcl)
  obtain ⟨c5, hc5, hcl5⟩ := Cond.classLink_spec hown hlink e.platform hpl
  cases Option.some.inj (hc4.symm.trans hc5)
  obtain ⟨vm', X', st⟩ := X.thenCaughtThrough q (g := F0 m pc ls rest) rfl (Steps.refl _) (by rw [hT]; exact hcell) (by rw [hv]; rfl) (by obtain ⟨k9, h9, -⟩ := Vm.findClass_spec hcl; exact ⟨k9, h9⟩) pre x suf hsplit
    (fun z hz => by
      rcases hpass z hz with h | ⟨hz0, nm, hl1, hn1⟩
      · exact Or.inl h
      · obtain ⟨c6, hc6, hcl6⟩ := Cond.classLink_spec hown hl1 e.platform hpl
        obtain ⟨a8, b8, h1, h2, h3⟩ := hn1
        cases Option.some.inj (h1.symm.trans hcl)
        cases Option.some.inj (h2.symm.trans hc6)
        exact Or.inr ⟨hz0, _, hcl6, h3⟩) hx (Or.inr ⟨h0, c4, hcl5, hasg⟩)
  obtain ⟨t, a1, b1⟩ := kk (T.setVm vm') hT X'
  exact ⟨t, st.trans a1, b1⟩
end Rows
section Ends
variable {p : Program} {l : Launch} {e : Env} {R : Room} {s : State} {m : MethodId} {args : Array Value} {below : List Frame} {meth : Method} {c : Code} {H : Heap} {locs : List Loc} {cells slots : Nat} {Q : State → Prop}
variable {mc ms : Nat} {free : Addr → Prop} {A0 A1 : Nat → Prop} {H0 : Heap} {a : Array Value} {ls : Array Slot} {st0 rest : List Value}
variable {Qc : Array Value → State → Outcome → State → Prop} {XC : String → State → State → Prop}
/-- what a body that may throw owes at its end -/
def vx_MQ (below : List Frame) (Qc : Array Value → State → Outcome → State → Prop) (XC : String → State → State → Prop) (a : Array Value) (s : State) (mc ms : Nat) (free : Addr → Prop) : State → Prop := fun t =>
  ∃ o, t.status = .running ∧ Ended t below o ∧ vx_Q Qc XC mc ms free a s o t
theorem vx_ret {g : JFrame} {mc ms : Nat} (k : W p l e R s m args below meth c H locs cells slots (MQ below Qc args s mc ms free) g) : W p l e R s m args below meth c H locs cells slots (vx_MQ below Qc XC args s mc ms free) g := by
  intro T hT X
  obtain ⟨t, a1, o, b1, b2, b3, b4⟩ := k T hT X
  exact ⟨t, a1, o, b1, b2, Or.inl ⟨b3, b4⟩⟩
/-- not caught here: it goes on to the caller -/
theorem vx_widen {g : JFrame} {q : Addr} {k n : Nat} (h1 : cells ≤ k) (h2 : slots ≤ n) (kk : vx_W p l e R s m args below meth c H locs k n Q g q) : vx_W p l e R s m args below meth c H locs cells slots Q g q := fun T hT X => kk T hT (stand_widen X h1 h2)
theorem vx_out {pc : Nat} {E : String} {ce : Cell} {q : Addr} {mc ms : Nat} (hout : ∀ x ∈ c.exceptionTable.toList, covers x pc = false) (hlocks : meth.locks = false) (hcell : H[q]? = some ce) (hv : ce.vm = .none) (hcl : s.vm.findClass E = some ce.cls)
    (hx : ∀ t : State, t.heap = H → s.vm.Alike t.vm → XC E s t) (hf : ∀ z ∈ locs, free z.base) (hc : cells ≤ mc) (hs : slots ≤ ms) :
    vx_W p l e R s m args below meth c H locs cells slots (vx_MQ below Qc XC args s mc ms free) (F0 m pc ls rest) q := by
  intro T hT X
  obtain ⟨st1, hrun, hend, hW, hsm⟩ := X.leaveThrown q (g := F0 m pc ls rest) rfl rfl rfl hout hlocks
  have hcell9 : (T.setFrames (.throwing q :: below)).heap[q]? = some ce := by
    show T.heap[q]? = some ce
    rw [hT]; exact hcell
  exact ⟨_, st1, .threw q, hrun, hend, Or.inr ⟨q, rfl, E, ce, locs, hx _ hT hW.alike, hcell9, hv, hcl, hW, hsm.mono hc hs, hf⟩⟩
theorem vx_frame {U : State} {k n : Nat} (h : s.sameButNew ({ U with vm := s.vm } : State) locs k n) : s.heap.size ≤ U.heap.size ∧ ∀ q : Nat, q < s.heap.size → (∀ z ∈ locs, z.base ≠ q) → U.heap[q]? = s.heap[q]? := by
  obtain ⟨-, h2, -, -, -, h6⟩ := h
  refine ⟨h2, fun q hq hz => ?_⟩
  obtain ⟨c9, e1, e2, e3, e4⟩ := h6 q _ (Array.getElem?_eq_getElem hq)
  have hs : c9.slots = (s.heap[q]).slots := Array.ext_getElem? fun i => e4 i fun hm => hz _ hm rfl
  have h9 : c9 = s.heap[q] := by
    rw [hs] at e2
    exact e2
  have e5 : U.heap[q]? = some c9 := e1
  rw [e5, h9, Array.getElem?_eq_getElem hq]
/-- the words of a throw but the four that speak of the heap -/
def vx_no (w : Cond) : Bool := decide (w ≠ .isRef (.static Bundle.tN "UNASSIGNED_STACK" Bundle.steD)) && decide (w ≠ .isRef (.static Bundle.tN "SUPPRESSED_SENTINEL" Bundle.listD)) && decide (w ≠ .laysStatic Bundle.tN "UNASSIGNED_STACK" Bundle.steD) && decide (w ≠ .laysStatic Bundle.tN "SUPPRESSED_SENTINEL" Bundle.listD)
def vx_at0 (own : String) (ic : Nat) (X : String) (names : List String) : List Cond := (Bundle.ownAtoms0 own ic X names).filter vx_no
def vx_atS (own : String) (ic : Nat) (X : String) (names : List String) : List Cond := (Bundle.ownAtoms own ic X names).filter vx_no
/-- a word that the tables alone decide, or a good one -/
def vx_ot (w : Cond) : Bool := w.onTables || goodWord w
theorem vx_ot_at {args a' : Array Value} {s U : State} {w : Cond} (hW : s.WarmedH U.vm) (hvm : s.vm = U.vm) (hg : vx_ot w = true) (h : w.before args s = true) : w.before a' U = true := by
  simp only [vx_ot, Bool.or_eq_true] at hg
  rcases hg with hg | hg
  · exact va_tabs hg hvm h
  · exact word_at hW (good_of_word hg) h
/-- a list's words: the good ones out of the method's own list, the others by premises of their own -/
theorem vx_hat {args : Array Value} {s : State} {L B : List Cond} (h1 : ∀ w ∈ L.filter goodWord, w.before args s = true) (h2 : ∀ w ∈ L.filter (fun w => !goodWord w), w ∈ B) (h3 : ∀ w ∈ B, w.before args s = true) : ∀ w ∈ L, w.before args s = true := by
  intro w hw
  by_cases g : goodWord w = true
  · exact h1 w (List.mem_filter.mpr ⟨hw, g⟩)
  · refine h3 w (h2 w (List.mem_filter.mpr ⟨hw, ?_⟩))
    show (!goodWord w) = true
    cases hgw : goodWord w
    · rfl
    · exact absurd hgw g
theorem vx_c {args : Array Value} {s : State} {w : Cond} {B : List Cond} (h : w.before args s = true) (t : ∀ w ∈ B, w.before args s = true) : ∀ w' ∈ w :: B, w'.before args s = true := fun w' h' => (List.mem_cons.mp h').elim (fun e => by rw [e]; exact h) (t w')
theorem vx_n {args : Array Value} {s : State} : ∀ w ∈ ([] : List Cond), w.before args s = true := fun _ h => nomatch h
theorem vx_own {args : Array Value} {s : State} {L : List Cond} (h1 : ∀ w ∈ L.filter vx_no, w.before args s = true)
    (hU : (Cond.isRef (.static Bundle.tN "UNASSIGNED_STACK" Bundle.steD)).before args s = true) (hN : (Cond.isRef (.static Bundle.tN "SUPPRESSED_SENTINEL" Bundle.listD)).before args s = true)
    (lU : (Cond.laysStatic Bundle.tN "UNASSIGNED_STACK" Bundle.steD).before args s = true) (lN : (Cond.laysStatic Bundle.tN "SUPPRESSED_SENTINEL" Bundle.listD).before args s = true) : ∀ w ∈ L, w.before args s = true := by
  intro w hw
  by_cases e1 : w = .isRef (.static Bundle.tN "UNASSIGNED_STACK" Bundle.steD)
  · rw [e1]; exact hU
  · by_cases e2 : w = .isRef (.static Bundle.tN "SUPPRESSED_SENTINEL" Bundle.listD)
    · rw [e2]; exact hN
    · by_cases e3 : w = .laysStatic Bundle.tN "UNASSIGNED_STACK" Bundle.steD
      · rw [e3]; exact lU
      · by_cases e4 : w = .laysStatic Bundle.tN "SUPPRESSED_SENTINEL" Bundle.listD
        · rw [e4]; exact lN
        · exact h1 w (List.mem_filter.mpr ⟨hw, by unfold vx_no; rw [decide_eq_true e1, decide_eq_true e2, decide_eq_true e3, decide_eq_true e4]; rfl⟩)
/-- where a static field lies, its class's statics cell in H -/
def vx_L (C n d : String) (A : Nat → Prop) (U : State) (H : Heap) : Prop := ∃ (c : ClassId) (k : Class) (i : Nat) (f : Field) (a : Nat) (cell : Cell), U.vm.findClass C = some c ∧ U.fieldFound? C n d = some (c, k, i, f) ∧ f.isStatic = true ∧ k.statics = some a ∧ H[a]? = some cell ∧ cell.vm.isStatics = true ∧ cell.cls = c ∧ f.slot < cell.slots.size ∧ k.staticTypes[f.slot]? = some f.type ∧ ¬ A a
theorem vx_L.moved {C n d : String} {A : Nat → Prop} {u U : State} {H : Heap} (hvm : u.vm.Alike U.vm) (h : vx_L C n d A u H) : vx_L C n d A U H := by
  obtain ⟨c, k, i, f, a, cell, h1, h2, h3, h4, h5, h6, h7, h8, h9, h10⟩ := h
  obtain ⟨k', hi', he⟩ := State.fieldFound?_setVm hvm h2
  exact ⟨c, k', i, f, a, cell, by rw [hvm.findClass]; exact h1, hi', h3, by rw [he]; exact h4, h5, h6, h7, h8, by rw [he]; exact h9, h10⟩
theorem vx_L.kept {C n d : String} {A : Nat → Prop} {U : State} {H H1 : Heap} (h : vx_L C n d A U H) (hq : ∀ a : Nat, a < H.size → ¬ A a → H1[a]? = H[a]?) : vx_L C n d A U H1 := by
  obtain ⟨c, k, i, f, a, cell, h1, h2, h3, h4, h5, h6, h7, h8, h9, h10⟩ := h
  exact ⟨c, k, i, f, a, cell, h1, h2, h3, h4, by rw [hq a (Array.getElem?_eq_some_iff.mp h5).1 h10]; exact h5, h6, h7, h8, h9, h10⟩
theorem vx_L.narrow {C n d : String} {A B : Nat → Prop} {U : State} {H : Heap} (h : vx_L C n d A U H) (hAB : ∀ q, B q → A q) : vx_L C n d B U H := by
  obtain ⟨c, k, i, f, a, cell, h1, h2, h3, h4, h5, h6, h7, h8, h9, h10⟩ := h
  exact ⟨c, k, i, f, a, cell, h1, h2, h3, h4, h5, h6, h7, h8, h9, fun z => h10 (hAB _ z)⟩
theorem vx_L.word {C n d : String} {A : Nat → Prop} {s : State} {args : Array Value} (h : vx_L C n d A s s.heap) : (Cond.laysStatic C n d).before args s = true := by
  obtain ⟨c, k, i, f, a, cell, h1, h2, h3, h4, h5, h6, h7, h8, h9, -⟩ := h
  show (Cond.laysStatic C n d).holds args s none s [] = true
  exact Cond.laysStatic_of h1 h2 h3 h4 h5 h6 h7 h8 h9
/-- .. and what it holds: null or some reference -/
def vx_Zq (C n d : String) (A : Nat → Prop) (U : State) (H : Heap) : Prop := va_Zq C n d A U H ∧ vx_L C n d A U H
theorem vx_Zq.moved {C n d : String} {A : Nat → Prop} {u U : State} {H : Heap} (hvm : u.vm.Alike U.vm) (h : vx_Zq C n d A u H) : vx_Zq C n d A U H := ⟨va_Zq.moved hvm h.1, vx_L.moved hvm h.2⟩
theorem vx_Zq.kept {C n d : String} {A : Nat → Prop} {U : State} {H H1 : Heap} (h : vx_Zq C n d A U H) (hq : ∀ a : Nat, a < H.size → ¬ A a → H1[a]? = H[a]?) : vx_Zq C n d A U H1 := ⟨va_Zq.kept h.1 hq, vx_L.kept h.2 hq⟩
theorem vx_Zq.narrow {C n d : String} {A B : Nat → Prop} {U : State} {H : Heap} (h : vx_Zq C n d A U H) (hAB : ∀ q, B q → A q) : vx_Zq C n d B U H := ⟨va_Zq.narrow h.1 hAB, vx_L.narrow h.2 hAB⟩
theorem vx_Zqof {args : Array Value} {s : State} {C n d : String} {A : Nat → Prop} (hl : (Cond.laysStatic C n d).before args s = true) (hini : (Cond.initialized C).before args s = true) (h : (Cond.isRef (.static C n d)).before args s = true) (hA : ∀ a : Nat, a < s.heap.size → ¬ A a) : vx_Zq C n d A s s.heap := by
  refine ⟨va_Zqof hl hini h hA, ?_⟩
  obtain ⟨c, k, i, f, a, cell, h1, h2, h3, h4, h5, h6, h7, h8, h9⟩ := Cond.laysStatic_spec hl
  exact ⟨c, k, i, f, a, cell, h1, h2, h3, h4, h5, h6, h7, h8, h9, hA a (Array.getElem?_eq_some_iff.mp h5).1⟩
theorem vx_isRef {C n d : String} {v : Value} {A : Nat → Prop} {s : State} {args : Array Value} (h : va_Z C n d v A s s.heap) (hv : v.isRef = true) : (Cond.isRef (.static C n d)).before args s = true := by
  obtain ⟨cf, kf, fi, f, a, cell, h1, h2, h3, h4, h5, h6, h7, -⟩ := h
  have he : (Term.static C n d).eval args s none [] s = some v := by
    simp [Term.eval, State.fieldNamed?, h1, h2, h4, h5, h6, h7]
  simp only [Cond.before, Cond.holds, Cond.value, he]
  cases v <;> simp_all [Value.isRef]
theorem vx_isRefq {C n d : String} {A : Nat → Prop} {s : State} {args : Array Value} (h : va_Zq C n d A s s.heap) : (Cond.isRef (.static C n d)).before args s = true := by
  rcases h with h | ⟨t, h⟩
  · exact vx_isRef h rfl
  · exact vx_isRef h rfl
/-- the same frame, seen from here: as if the method were called anew in this heap -/
theorem vx_rebase {T : State} (X : Stand p l e R s m args below meth c T locs cells slots) {R' : Room} (hf : R'.frames ≤ R.frames) (hl : R'.locals ≤ R.locals) (hc : cells + R'.cells ≤ R.cells) (hs : slots + R'.slots ≤ R.slots) :
    Stand p l e R' ((T.setVm s.vm).setFrames (.invoking m args :: below)) m args below meth c T [] 0 0 := by
  have htop : (T.setVm s.vm).topJava?.isSome := X.here.top
  have hF : ((T.setVm s.vm).setFrames (.invoking m args :: below)).frames = .invoking m args :: below := State.frames_setFrames _ (State.cur_lt_of_top htop)
  obtain ⟨g₀, hg0⟩ := Option.isSome_iff_exists.mp htop
  obtain ⟨r, hr⟩ := State.topJava?_eq_some.mp hg0
  have hl9 : e.platform.stackLimits (T.setVm s.vm).me = e.platform.stackLimits s.me := X.limits
  have hb9 : (T.setVm s.vm).me.stackBytes = s.me.stackBytes := X.bytes
  refine ⟨X.admits, X.cas, X.clock, hF, ?_, X.hears, X.method, X.code, X.here, X.tail, X.warmed, ?_, ?_, ?_⟩
  · have h := X.room
    have hU : ((T.setVm s.vm).setFrames (.invoking m args :: below)).localsInUse = s.localsInUse := by
      rw [State.localsInUse_invoking hF (meth := meth) (c := c) X.method X.code, State.localsInUse_invoking X.frames X.method X.code]
    simp only [State.hasRoom, Bool.and_eq_true, decide_eq_true_eq] at h ⊢
    obtain ⟨⟨⟨⟨h1, h2, h3, h4, h5, h6⟩, h7⟩, h8⟩, h9⟩ := h
    rw [X.frames, List.length_cons] at h2 h3
    have q1 := X.heapSize
    have q2 := X.used
    simp only [hF, hU, List.length_cons, State.stackLimits_setFrames, State.stackBytes_setFrames, hl9, hb9]
    refine ⟨⟨⟨⟨by omega, by omega, by omega, by omega, by omega, h6⟩, ?_⟩, ?_⟩, X.book⟩
    · show T.heap.size + R'.cells ≤ e.platform.maxCells
      omega
    · show T.slotsUsed + R'.slots ≤ e.platform.maxSlots
      omega
  · rw [State.stackLimits_setFrames]; rfl
  · rw [State.stackBytes_setFrames]; rfl
  · refine ⟨?_, Nat.le_refl _, Nat.le_refl _, ?_, ?_, fun a c9 h9 => ⟨c9, h9, rfl, rfl, fun _ _ => rfl⟩⟩
    · obtain ⟨t, ht, -⟩ := State.frames_cons hr
      show T.setVm s.vm = { ((T.setVm s.vm).setFrames (.invoking m args :: below)).setFrames (T.setVm s.vm).frames with heap := T.heap, slotsUsed := T.slotsUsed }
      rw [State.setFrames_setFrames, State.setFrames_self ht]
      rfl
    · show T.slotsUsed = T.slotsUsed + ((T.heap.toList.drop T.heap.size).map (·.slots.size)).sum
      rw [List.drop_eq_nil_of_le (Nat.le_of_eq Array.length_toList)]
      rfl
    · show ((T.heap.toList.drop T.heap.size).map (·.slots.size)).sum ≤ 0
      rw [List.drop_eq_nil_of_le (Nat.le_of_eq Array.length_toList)]
      exact Nat.le_refl _
/-- 'throw new E()': new; dup; invokespecial; athrow -/
theorem vx_throw0 {cc : ByteArray} {pc : Nat} (hexec : p.tables.exec = Jvm.exec) (hb : c.code = cc) (hl : l.stackTraces = false) {own cls : String} {names : List String} {ik ic mc ms : Nat} {A : Nat → Prop}
    (hown : s.vm.findClass own = some m.cls) (hcls : Bundle.fit cls = true) (hnames : ∀ n ∈ names, Bundle.fit n = true)
    (hk : (Cond.classLink own ik cls).before args s = true) (hini : (Cond.initialized cls).before args s = true) (hat : ∀ w ∈ vx_at0 own ic cls names, w.before args s = true)
    (hgood : ∀ w ∈ Cond.classLink own ik cls :: Cond.initialized cls :: vx_at0 own ic cls names, vx_ot w = true)
    (hU : vx_Zq Bundle.tN "UNASSIGNED_STACK" Bundle.steD A s s.heap) (hN : vx_Zq Bundle.tN "SUPPRESSED_SENTINEL" Bundle.listD A s s.heap) (hS : va_S A s.heap H locs) (hsize : ls.size = c.maxLocals)
    (d0 : decode cc pc = .ok (.new ik, 3)) (d3 : decode cc (pc + 3) = .ok (.dup, 1)) (d4 : decode cc (pc + 4) = .ok (.invokespecial ic, 3)) (d7 : decode cc (pc + 7) = .ok (.athrow, 1))
    (hout : ∀ x ∈ c.exceptionTable.toList, covers x (pc + 7) = false)
    (hRframes : names.length + 3 < R.frames) (hRlocals : (rest.map fun v => v.category).sum + (13 * (names.length + 1) + 42) ≤ R.locals) (hRcells : cells + 1 ≤ R.cells) (hRslots : slots + 6 ≤ R.slots) (hlocks : meth.locks = false)
    (hx : ∀ t : State, s.vm.Alike t.vm → H.size ≤ t.heap.size → (∀ q : Nat, q < H.size → t.heap[q]? = H[q]?) → XC cls s t)
    (hf : ∀ z ∈ locs, free z.base) (hc : cells + 1 ≤ mc) (hs : slots + 6 ≤ ms) :
    W p l e R s m args below meth c H locs cells slots (vx_MQ below Qc XC args s mc ms free) (F0 m pc ls rest) := by
  intro T hT X
  have htr : e.platform.stackTraces = false := (show e.platform.stackTraces = l.stackTraces by rw [X.admits.platform]).trans hl
  have Y := vx_rebase X (R' := { frames := R.frames, locals := R.locals, cells := 1, slots := 6 }) (Nat.le_refl _) (Nat.le_refl _) hRcells hRslots
  obtain ⟨s', hA⟩ : ∃ z, z = (T.setVm s.vm).setFrames (.invoking m args :: below) := ⟨_, rfl⟩
  rw [← hA] at Y
  have hvm : s'.vm = s.vm := by rw [hA]; rfl
  have hhp : s'.heap = H := by rw [hA]; exact hT
  have hW0 : s.WarmedH s'.vm := by rw [hvm]; exact State.WarmedH.refl s
  have hat' : ∀ w ∈ vx_at0 own ic cls names, w.before args s' = true := fun w hw => vx_ot_at hW0 hvm.symm (hgood w (List.mem_cons_of_mem _ (List.mem_cons_of_mem _ hw))) (hat w hw)
  have hk' : (Cond.classLink own ik cls).before args s' = true := vx_ot_at hW0 hvm.symm (hgood _ List.mem_cons_self) hk
  have hini' : (Cond.initialized cls).before args s' = true := vx_ot_at hW0 hvm.symm (hgood _ (List.mem_cons_of_mem _ List.mem_cons_self)) hini
  have hU' : vx_Zq Bundle.tN "UNASSIGNED_STACK" Bundle.steD A s' s'.heap := by rw [hhp]; exact vx_Zq.moved hW0.alike (hU.kept hS.2.1)
  have hN' : vx_Zq Bundle.tN "SUPPRESSED_SENTINEL" Bundle.listD A s' s'.heap := by rw [hhp]; exact vx_Zq.moved hW0.alike (hN.kept hS.2.1)
  have h : ∀ w ∈ Bundle.ownAtoms0 own ic cls names, w.before args s' = true := vx_own hat' (vx_isRefq hU'.1) (vx_isRefq hN'.1) hU'.2.word hN'.2.word
  have hown' : s'.vm.findClass own = some m.cls := by rw [hvm]; exact hown
  have hins : (Cond.instantiable cls 6).before args s' = true := h _ (by simp [Bundle.ownAtoms0])
  obtain ⟨vm₁, cX, kX, hfX, hkX, -, -, X₁, st1⟩ := Y.newCold hexec (own := own) (C := cls) (index := ik) (n := 6) hown' hk' hins hini'
    (g := F0 m pc ls rest) rfl (by rw [hb]; exact d0) (Nat.le_refl _) (Nat.le_refl _)
  generalize hT1 : (T.setVm vm₁).pushCell { cls := cX, slots := kX.instanceTypes.map defaultValue, vm := .none } = T1 at X₁ st1
  have hcat : (Value.ref T.heap.size).category = 1 := rfl
  have hcellA : T1.heap[T.heap.size]? = some (freshCell cX kX) := by rw [← hT1]; exact State.heap_pushCell_size _ _
  have d3' : decode c.code (pc + 3) = .ok (.dup, 1) := by rw [hb]; exact d3
  obtain ⟨U, hsteps, hrun, hend, hW, hsame, ce, hce, hO⟩ := X₁.ctorThrow0 hexec htr (own := own) (cls := cls) (names := names) (ic := ic) hown' hcls hnames h (fun x hx => nomatch hx) hfX hkX hcellA (by rw [hhp, hT]; exact Nat.le_refl _)
    (g := { method := m, pc := pc + 4, locals := ls, stack := .ref T.heap.size :: .ref T.heap.size :: rest, locked := none }) rfl hsize rfl rfl (rest := rest) rfl
    (by rw [hb]; exact d4) (by rw [hb]; exact d7) hout hRframes (by simp only [List.map_cons, List.sum_cons, hcat]; omega) hlocks
  obtain ⟨f1, f2⟩ := vx_frame hsame
  rw [hhp] at f1 f2
  have hWs : s.WarmedH U.vm := State.WarmedH.trans hW0 hW
  have hcl : s.vm.findClass cls = some ce.cls := by
    have h9 := hO.cls
    rw [hvm] at h9
    exact h9
  have hall : s.sameButNew ({ U with vm := s.vm } : State) locs mc ms := by
    subst hA
    obtain ⟨e1, e2⟩ := hsame
    rw [State.setFrames_setFrames] at e1
    have h2 : (T.setVm s.vm).sameButNew ({ U with vm := s.vm } : State) [] (0 + 1) (0 + 6) := ⟨e1, e2⟩
    have h3 := X.same.trans h2
    rw [List.append_nil] at h3
    exact h3.mono hc hs
  refine ⟨U, ?_, .threw T.heap.size, hrun, hend, Or.inr ⟨T.heap.size, rfl, cls, ce, locs, hx U hWs.alike f1 (fun q hq => f2 q hq (fun z hz => nomatch hz)), hce, hO.vm, hcl, hWs, hall, hf⟩⟩
  refine st1 _ ?_
  show Steps p.tables e below (T1.setTop { method := m, pc := pc + 3, locals := ls, stack := .ref T.heap.size :: rest, locked := none }) _
  jvm_step X₁.here [X₁.here.top, hexec, d3', Value.category]
  exact hsteps
/-- 'throw new E("text")': new; dup; ldc; invokespecial; athrow -/
theorem vx_throwS {cc : ByteArray} {pc : Nat} (hexec : p.tables.exec = Jvm.exec) (hb : c.code = cc) (hl : l.stackTraces = false) {own cls text : String} {names : List String} {ik is ic mc ms sa : Nat} {A : Nat → Prop}
    (hown : s.vm.findClass own = some m.cls) (hcls : Bundle.fit cls = true) (hnames : ∀ n ∈ names, Bundle.fit n = true)
    (hk : (Cond.classLink own ik cls).before args s = true) (hini : (Cond.initialized cls).before args s = true) (hstr : vk_R own is text sa s) (hat : ∀ w ∈ vx_atS own ic cls names, w.before args s = true)
    (hgood : ∀ w ∈ Cond.classLink own ik cls :: Cond.initialized cls :: vx_atS own ic cls names, vx_ot w = true)
    (hU : vx_Zq Bundle.tN "UNASSIGNED_STACK" Bundle.steD A s s.heap) (hN : vx_Zq Bundle.tN "SUPPRESSED_SENTINEL" Bundle.listD A s s.heap) (hS : va_S A s.heap H locs) (hsize : ls.size = c.maxLocals)
    (d0 : decode cc pc = .ok (.new ik, 3)) (d3 : decode cc (pc + 3) = .ok (.dup, 1)) (d4 : decode cc (pc + 4) = .ok (.ldc is, 2)) (d6 : decode cc (pc + 6) = .ok (.invokespecial ic, 3)) (d9 : decode cc (pc + 9) = .ok (.athrow, 1))
    (hout : ∀ x ∈ c.exceptionTable.toList, covers x (pc + 9) = false)
    (hRframes : names.length + 3 < R.frames) (hRlocals : (rest.map fun v => v.category).sum + (13 * (names.length + 1) + 43) ≤ R.locals) (hRcells : cells + 1 ≤ R.cells) (hRslots : slots + 6 ≤ R.slots) (hlocks : meth.locks = false)
    (hx : ∀ t : State, s.vm.Alike t.vm → H.size ≤ t.heap.size → (∀ q : Nat, q < H.size → t.heap[q]? = H[q]?) → XC cls s t)
    (hf : ∀ z ∈ locs, free z.base) (hc : cells + 1 ≤ mc) (hs : slots + 6 ≤ ms) :
    W p l e R s m args below meth c H locs cells slots (vx_MQ below Qc XC args s mc ms free) (F0 m pc ls rest) := by
  intro T hT X
  have htr : e.platform.stackTraces = false := (show e.platform.stackTraces = l.stackTraces by rw [X.admits.platform]).trans hl
  have Y := vx_rebase X (R' := { frames := R.frames, locals := R.locals, cells := 1, slots := 6 }) (Nat.le_refl _) (Nat.le_refl _) hRcells hRslots
  obtain ⟨s', hA⟩ : ∃ z, z = (T.setVm s.vm).setFrames (.invoking m args :: below) := ⟨_, rfl⟩
  rw [← hA] at Y
  have hvm : s'.vm = s.vm := by rw [hA]; rfl
  have hhp : s'.heap = H := by rw [hA]; exact hT
  have hW0 : s.WarmedH s'.vm := by rw [hvm]; exact State.WarmedH.refl s
  have hat' : ∀ w ∈ vx_atS own ic cls names, w.before args s' = true := fun w hw => vx_ot_at hW0 hvm.symm (hgood w (List.mem_cons_of_mem _ (List.mem_cons_of_mem _ hw))) (hat w hw)
  have hk' : (Cond.classLink own ik cls).before args s' = true := vx_ot_at hW0 hvm.symm (hgood _ List.mem_cons_self) hk
  have hini' : (Cond.initialized cls).before args s' = true := vx_ot_at hW0 hvm.symm (hgood _ (List.mem_cons_of_mem _ List.mem_cons_self)) hini
  have hU' : vx_Zq Bundle.tN "UNASSIGNED_STACK" Bundle.steD A s' s'.heap := by rw [hhp]; exact vx_Zq.moved hW0.alike (hU.kept hS.2.1)
  have hN' : vx_Zq Bundle.tN "SUPPRESSED_SENTINEL" Bundle.listD A s' s'.heap := by rw [hhp]; exact vx_Zq.moved hW0.alike (hN.kept hS.2.1)
  have h : ∀ w ∈ Bundle.ownAtoms own ic cls names, w.before args s' = true := vx_own hat' (vx_isRefq hU'.1) (vx_isRefq hN'.1) hU'.2.word hN'.2.word
  have hown' : s'.vm.findClass own = some m.cls := by rw [hvm]; exact hown
  have hins : (Cond.instantiable cls 6).before args s' = true := h _ (by simp [Bundle.ownAtoms])
  obtain ⟨vm₁, cX, kX, hfX, hkX, -, -, X₁, st1⟩ := Y.newCold hexec (own := own) (C := cls) (index := ik) (n := 6) hown' hk' hins hini'
    (g := F0 m pc ls rest) rfl (by rw [hb]; exact d0) (Nat.le_refl _) (Nat.le_refl _)
  generalize hT1 : (T.setVm vm₁).pushCell { cls := cX, slots := kX.instanceTypes.map defaultValue, vm := .none } = T1 at X₁ st1
  have hcat : (Value.ref T.heap.size).category = 1 := rfl
  have hcellA : T1.heap[T.heap.size]? = some (freshCell cX kX) := by rw [← hT1]; exact State.heap_pushCell_size _ _
  have d3' : decode c.code (pc + 3) = .ok (.dup, 1) := by rw [hb]; exact d3
  have d4' : decode c.code (pc + 4) = .ok (.ldc is, 2) := by rw [hb]; exact d4
  have hstr' : vk_R own is text sa s' := vk_R.warm hW0 hstr
  obtain ⟨U, hsteps, hrun, hend, hW, hsame, ce, hce, hO⟩ := X₁.ctorThrowS hexec htr (own := own) (cls := cls) (names := names) (ic := ic) hown' hcls hnames h (fun x hx => nomatch hx) hfX hkX hcellA (by rw [hhp, hT]; exact Nat.le_refl _) (msg := .ref sa) rfl
    (g := { method := m, pc := pc + 6, locals := ls, stack := .ref sa :: .ref T.heap.size :: .ref T.heap.size :: rest, locked := none }) rfl hsize rfl rfl (rest := rest) rfl
    (by rw [hb]; exact d6) (by rw [hb]; exact d9) hout hRframes (by simp only [List.map_cons, List.sum_cons, hcat]; omega) hlocks
  obtain ⟨f1, f2⟩ := vx_frame hsame
  rw [hhp] at f1 f2
  have hWs : s.WarmedH U.vm := State.WarmedH.trans hW0 hW
  have hcl : s.vm.findClass cls = some ce.cls := by
    have h9 := hO.cls
    rw [hvm] at h9
    exact h9
  have hall : s.sameButNew ({ U with vm := s.vm } : State) locs mc ms := by
    subst hA
    obtain ⟨e1, e2⟩ := hsame
    rw [State.setFrames_setFrames] at e1
    have h2 : (T.setVm s.vm).sameButNew ({ U with vm := s.vm } : State) [] (0 + 1) (0 + 6) := ⟨e1, e2⟩
    have h3 := X.same.trans h2
    rw [List.append_nil] at h3
    exact h3.mono hc hs
  refine ⟨U, ?_, .threw T.heap.size, hrun, hend, Or.inr ⟨T.heap.size, rfl, cls, ce, locs, hx U hWs.alike f1 (fun q hq => f2 q hq (fun z hz => nomatch hz)), hce, hO.vm, hcl, hWs, hall, hf⟩⟩
  refine st1 _ ?_
  show Steps p.tables e below (T1.setTop { method := m, pc := pc + 3, locals := ls, stack := .ref T.heap.size :: rest, locked := none }) _
  jvm_step X₁.here [X₁.here.top, hexec, d3', Value.category]
  exact X₁.ldcString hexec (own := own) (text := text) (index := is) (a := sa) hown' hstr'.1 hstr'.2
    (g := { method := m, pc := pc + 4, locals := ls, stack := .ref T.heap.size :: .ref T.heap.size :: rest, locked := none }) rfl d4' _ hsteps
/-- 'throw new E("text")', the text by a wide index -/
theorem vx_throwSW {cc : ByteArray} {pc : Nat} (hexec : p.tables.exec = Jvm.exec) (hb : c.code = cc) (hl : l.stackTraces = false) {own cls text : String} {names : List String} {ik is ic mc ms sa : Nat} {A : Nat → Prop}
    (hown : s.vm.findClass own = some m.cls) (hcls : Bundle.fit cls = true) (hnames : ∀ n ∈ names, Bundle.fit n = true)
    (hk : (Cond.classLink own ik cls).before args s = true) (hini : (Cond.initialized cls).before args s = true) (hstr : vk_R own is text sa s) (hat : ∀ w ∈ vx_atS own ic cls names, w.before args s = true)
    (hgood : ∀ w ∈ Cond.classLink own ik cls :: Cond.initialized cls :: vx_atS own ic cls names, vx_ot w = true)
    (hU : vx_Zq Bundle.tN "UNASSIGNED_STACK" Bundle.steD A s s.heap) (hN : vx_Zq Bundle.tN "SUPPRESSED_SENTINEL" Bundle.listD A s s.heap) (hS : va_S A s.heap H locs) (hsize : ls.size = c.maxLocals)
    (d0 : decode cc pc = .ok (.new ik, 3)) (d3 : decode cc (pc + 3) = .ok (.dup, 1)) (d4 : decode cc (pc + 4) = .ok (.ldc_w is, 3)) (d7 : decode cc (pc + 7) = .ok (.invokespecial ic, 3)) (d10 : decode cc (pc + 10) = .ok (.athrow, 1))
    (hout : ∀ x ∈ c.exceptionTable.toList, covers x (pc + 10) = false)
    (hRframes : names.length + 3 < R.frames) (hRlocals : (rest.map fun v => v.category).sum + (13 * (names.length + 1) + 43) ≤ R.locals) (hRcells : cells + 1 ≤ R.cells) (hRslots : slots + 6 ≤ R.slots) (hlocks : meth.locks = false)
    (hx : ∀ t : State, s.vm.Alike t.vm → H.size ≤ t.heap.size → (∀ q : Nat, q < H.size → t.heap[q]? = H[q]?) → XC cls s t)
    (hf : ∀ z ∈ locs, free z.base) (hc : cells + 1 ≤ mc) (hs : slots + 6 ≤ ms) :
    W p l e R s m args below meth c H locs cells slots (vx_MQ below Qc XC args s mc ms free) (F0 m pc ls rest) := by
  intro T hT X
  have htr : e.platform.stackTraces = false := (show e.platform.stackTraces = l.stackTraces by rw [X.admits.platform]).trans hl
  have Y := vx_rebase X (R' := { frames := R.frames, locals := R.locals, cells := 1, slots := 6 }) (Nat.le_refl _) (Nat.le_refl _) hRcells hRslots
  obtain ⟨s', hA⟩ : ∃ z, z = (T.setVm s.vm).setFrames (.invoking m args :: below) := ⟨_, rfl⟩
  rw [← hA] at Y
  have hvm : s'.vm = s.vm := by rw [hA]; rfl
  have hhp : s'.heap = H := by rw [hA]; exact hT
  have hW0 : s.WarmedH s'.vm := by rw [hvm]; exact State.WarmedH.refl s
  have hat' : ∀ w ∈ vx_atS own ic cls names, w.before args s' = true := fun w hw => vx_ot_at hW0 hvm.symm (hgood w (List.mem_cons_of_mem _ (List.mem_cons_of_mem _ hw))) (hat w hw)
  have hk' : (Cond.classLink own ik cls).before args s' = true := vx_ot_at hW0 hvm.symm (hgood _ List.mem_cons_self) hk
  have hini' : (Cond.initialized cls).before args s' = true := vx_ot_at hW0 hvm.symm (hgood _ (List.mem_cons_of_mem _ List.mem_cons_self)) hini
  have hU' : vx_Zq Bundle.tN "UNASSIGNED_STACK" Bundle.steD A s' s'.heap := by rw [hhp]; exact vx_Zq.moved hW0.alike (hU.kept hS.2.1)
  have hN' : vx_Zq Bundle.tN "SUPPRESSED_SENTINEL" Bundle.listD A s' s'.heap := by rw [hhp]; exact vx_Zq.moved hW0.alike (hN.kept hS.2.1)
  have h : ∀ w ∈ Bundle.ownAtoms own ic cls names, w.before args s' = true := vx_own hat' (vx_isRefq hU'.1) (vx_isRefq hN'.1) hU'.2.word hN'.2.word
  have hown' : s'.vm.findClass own = some m.cls := by rw [hvm]; exact hown
  have hins : (Cond.instantiable cls 6).before args s' = true := h _ (by simp [Bundle.ownAtoms])
  obtain ⟨vm₁, cX, kX, hfX, hkX, -, -, X₁, st1⟩ := Y.newCold hexec (own := own) (C := cls) (index := ik) (n := 6) hown' hk' hins hini'
    (g := F0 m pc ls rest) rfl (by rw [hb]; exact d0) (Nat.le_refl _) (Nat.le_refl _)
  generalize hT1 : (T.setVm vm₁).pushCell { cls := cX, slots := kX.instanceTypes.map defaultValue, vm := .none } = T1 at X₁ st1
  have hcat : (Value.ref T.heap.size).category = 1 := rfl
  have hcellA : T1.heap[T.heap.size]? = some (freshCell cX kX) := by rw [← hT1]; exact State.heap_pushCell_size _ _
  have d3' : decode c.code (pc + 3) = .ok (.dup, 1) := by rw [hb]; exact d3
  have d4' : decode c.code (pc + 4) = .ok (.ldc_w is, 3) := by rw [hb]; exact d4
  have hstr' : vk_R own is text sa s' := vk_R.warm hW0 hstr
  obtain ⟨U, hsteps, hrun, hend, hW, hsame, ce, hce, hO⟩ := X₁.ctorThrowS hexec htr (own := own) (cls := cls) (names := names) (ic := ic) hown' hcls hnames h (fun x hx => nomatch hx) hfX hkX hcellA (by rw [hhp, hT]; exact Nat.le_refl _) (msg := .ref sa) rfl
    (g := { method := m, pc := pc + 7, locals := ls, stack := .ref sa :: .ref T.heap.size :: .ref T.heap.size :: rest, locked := none }) rfl hsize rfl rfl (rest := rest) rfl
    (by rw [hb]; exact d7) (by rw [hb]; exact d10) hout hRframes (by simp only [List.map_cons, List.sum_cons, hcat]; omega) hlocks
  obtain ⟨f1, f2⟩ := vx_frame hsame
  rw [hhp] at f1 f2
  have hWs : s.WarmedH U.vm := State.WarmedH.trans hW0 hW
  have hcl : s.vm.findClass cls = some ce.cls := by
    have h9 := hO.cls
    rw [hvm] at h9
    exact h9
  have hall : s.sameButNew ({ U with vm := s.vm } : State) locs mc ms := by
    subst hA
    obtain ⟨e1, e2⟩ := hsame
    rw [State.setFrames_setFrames] at e1
    have h2 : (T.setVm s.vm).sameButNew ({ U with vm := s.vm } : State) [] (0 + 1) (0 + 6) := ⟨e1, e2⟩
    have h3 := X.same.trans h2
    rw [List.append_nil] at h3
    exact h3.mono hc hs
  refine ⟨U, ?_, .threw T.heap.size, hrun, hend, Or.inr ⟨T.heap.size, rfl, cls, ce, locs, hx U hWs.alike f1 (fun q hq => f2 q hq (fun z hz => nomatch hz)), hce, hO.vm, hcl, hWs, hall, hf⟩⟩
  refine st1 _ ?_
  show Steps p.tables e below (T1.setTop { method := m, pc := pc + 3, locals := ls, stack := .ref T.heap.size :: rest, locked := none }) _
  jvm_step X₁.here [X₁.here.top, hexec, d3', Value.category]
  exact X₁.ldcStringW hexec (own := own) (text := text) (index := is) (a := sa) hown' hstr'.1 hstr'.2
    (g := { method := m, pc := pc + 4, locals := ls, stack := .ref T.heap.size :: .ref T.heap.size :: rest, locked := none }) rfl d4' _ hsteps
end Ends
section Bodies
variable {l : Launch}
theorem vx_ofW {y : MethodName} {ws ws' : List Cond} {rm : Room} {Pc : Array Value → State → Prop} {Qc : Array Value → State → Outcome → State → Prop} {XC : String → State → State → Prop} {mc ms : Nat} {free : Addr → Prop} {cc : ByteArray} {maxL : Nat} {ret : Option FieldType}
    (hy : plainName y.cls = true) (hw : ws = Cond.code y cc maxL ret :: ws')
    (body : ∀ p e s m args below meth c s₁, BodyLoose p l y (headSpec ws rm) cc maxL ret e s m args below meth c s₁ → c.maxLocals = maxL → (∀ x ∈ c.exceptionTable.toList, False) → Pc args s →
      W p l e (headSpec ws rm).room s m args below meth c s.heap [] 0 0 (vx_MQ below Qc XC args s mc ms free) (entryFrame m args maxL)) : vx_Met l y ws rm Pc Qc XC mc ms free := by
  refine MetFree.of_bodyS (code := cc) (maxLocals := maxL) (ret := ret) hy ?_ ?_
  · intro args s m h hn
    obtain ⟨meth, c, h1, h2, h3, h4, h5, h6, -, -⟩ := Cond.code_spec hn (atoms_spec (ws := ws) h _ (by rw [hw]; exact List.mem_cons_self))
    exact ⟨meth, c, h1, h2, h3, h4, h5, h6⟩
  · intro p e s m args below meth c s₁ B hml hP _
    have hh0 : s₁.heap = s.heap := by rw [B.state]; rfl
    have ht : ∀ x ∈ c.exceptionTable.toList, False := by
      obtain ⟨meth9, c9, h1, h2, -, -, -, -, h7, -⟩ := Cond.code_spec B.named (atoms_spec (ws := ws) B.pre _ (by rw [hw]; exact List.mem_cons_self))
      cases Option.some.inj (h1.symm.trans B.method)
      cases Option.some.inj (h2.symm.trans (Stand.of_body B).code)
      intro x hx
      rw [Array.isEmpty_iff.mp h7] at hx
      cases hx
    obtain ⟨t, a1, o, b1, b2, b3⟩ := body p e s m args below meth c s₁ B hml ht hP s₁ hh0 (Stand.of_body B)
    exact ⟨t, o, a1, b1, b2, b3⟩
/-- the table of a body with handlers -/
theorem vx_table {p : Program} {x y : MethodName} {S : Spec} {cc bytes : ByteArray} {maxL maxL' : Nat} {ret ret' : Option FieldType} {e : Env} {s s₁ : State} {m : MethodId} {args : Array Value} {below : List Frame} {meth : Method} {c : Code} {hh : List (Nat × Nat × Nat × Nat)}
    (B : BodyLoose p l y S cc maxL ret e s m args below meth c s₁) (h : (Cond.codeWith y bytes maxL' ret' hh).before args s = true) : c.exceptionTable.toList = tableOf hh := by
  obtain ⟨m9, meth9, c9, hn9, h1, h2, -, -, h6, -⟩ := Cond.codeWith_spec h
  cases Option.some.inj (hn9.symm.trans B.named)
  cases Option.some.inj (h1.symm.trans B.method)
  cases Option.some.inj (h2.symm.trans (Stand.of_body B).code)
  rw [← h6, table_eq]
end Bodies
end VXA
/-! ===== END ===== -/
/-! ===== BEGIN a static call of a method with an exception table ===== -/
section VXS
variable {p : Program} {l : Launch} {e : Env} {R : Room} {s : State} {m : MethodId} {args : Array Value} {below : List Frame} {meth : Method} {c : Code} {T : State} {H : Heap} {locs : List Loc} {cells slots : Nat}
abbrev vx_CSW (R : Room) (s : State) (args : Array Value) (own : String) (index : Nat) (y : MethodName) (bytes : ByteArray) (maxL : Nat) (ret : Option FieldType) (hh : List (Nat × Nat × Nat × Nat)) (ws : List Cond) (rm : Room) (mc ms n : Nat) : Prop :=
  (rm.cells = mc ∧ rm.slots = ms ∧ rm.frames + 1 ≤ R.frames ∧ 8 + (maxL + 11) + rm.locals ≤ R.locals ∧ (∀ w ∈ ws, ∀ (a' : Array Value) (U : State), s.WarmedH U.vm → w.before a' U = true) ∧ Cond.codeWith y bytes maxL ret hh ∈ ws) ∧
  (Cond.codeWith y bytes maxL ret hh).before args s = true ∧ (Cond.initialized y.cls).before args s = true ∧ (y.cls ≠ "java/lang/invoke/MethodHandle" ∧ y.cls ≠ "java/lang/invoke/VarHandle") ∧
  (∀ sig, parseMethodDescriptor y.desc = some sig → n = sig.parameters.length) ∧ (Cond.methodLink own index y).before args s = true ∧ (Cond.static y).before args s = true
theorem vx_cwSW {own : String} {index maxL mc ms : Nat} {y : MethodName} {bytes : ByteArray} {ret : Option FieldType} {hh : List (Nat × Nat × Nat × Nat)} {Ts ws ws' : List Cond} {rm : Room} (n : Nat) (ht : ∀ w ∈ Ts, w.before args s = true) (hT : GoodIn Ts (va_wsS own index y ws)) (hw : ws = Cond.codeWith y bytes maxL ret hh :: ws') (hrc : rm.cells = mc) (hrs : rm.slots = ms)
    (hd : y.cls ≠ "java/lang/invoke/MethodHandle" ∧ y.cls ≠ "java/lang/invoke/VarHandle" ∧ (parseMethodDescriptor y.desc).map (fun d => d.parameters.length) = some n) (hR : rm.frames + 1 ≤ R.frames ∧ 8 + (maxL + 11) + rm.locals ≤ R.locals) :
    vx_CSW R s args own index y bytes maxL ret hh ws rm mc ms n := by
  have ok : ∀ w ∈ va_wsS own index y ws, w.before args s = true := fun w h => ht w (hT w h).1
  have hG : GoodIn Ts ws := fun w h => hT w (by unfold va_wsS; exact List.mem_append_right _ h)
  have hc : Cond.codeWith y bytes maxL ret hh ∈ ws := by rw [hw]; exact List.mem_cons_self
  refine ⟨⟨hrc, hrs, hR.1, hR.2, pay_in ht hG, hc⟩, ht _ (hG _ hc).1, ok _ (by simp [va_wsS]), ⟨hd.1, hd.2.1⟩, fun sig h => ?_, ok _ (by simp [va_wsS]), ok _ (by simp [va_wsS])⟩
  have h2 := hd.2.2
  rw [h] at h2
  exact (Option.some.inj h2).symm
theorem vx_callSW (X : Stand p l e R s m args below meth c T locs cells slots) (hexec : p.tables.exec = Jvm.exec) {own : String} {index : Nat} {y : MethodName} {bytes : ByteArray} {maxL : Nat} {ret : Option FieldType} {hh : List (Nat × Nat × Nat × Nat)}
    (hown : s.vm.findClass own = some m.cls) (hlink : (Cond.methodLink own index y).before args s = true) (hstat : (Cond.static y).before args s = true) (hinit : (Cond.initialized y.cls).before args s = true)
    (hcode : (Cond.codeWith y bytes maxL ret hh).before args s = true) (hy : y.cls ≠ "java/lang/invoke/MethodHandle" ∧ y.cls ≠ "java/lang/invoke/VarHandle")
    {W9 : Nat} {Pre : Pt → Array Value → Prop} {Post : Pt → Array Value → Option Value → Pt → Prop} (hK : Back l R p e below s args y 3 W9 Pre Post)
    {g : JFrame} (hg : g.method = m) (hsize : g.locals.size = c.maxLocals) {argsL rest : List Value} (hlen : ∀ sig, parseMethodDescriptor y.desc = some sig → argsL.length = sig.parameters.length)
    (hstack : g.stack = argsL.reverse ++ rest) (hW : 2 * g.monitorRoom + (rest.map fun v => v.category).sum ≤ W9) (hdg : decode c.code g.pc = .ok (.invokestatic index, 3))
    (hpre : ∀ vm₁, s.WarmedH vm₁ → Pre ⟨T.setVm vm₁, locs, cells, slots⟩ argsL.toArray) :
    ∃ (v : Option Value) (vm₁ : Vm) (B : Pt), s.WarmedH vm₁ ∧ Stand p l e R s m args below meth c B.U B.locs B.cells B.slots ∧ Post ⟨T.setVm vm₁, locs, cells, slots⟩ argsL.toArray v B ∧
      ∀ target, Steps p.tables e below (B.U.setTop { g with pc := g.pc + 3, stack := v.toList ++ rest }) target → Steps p.tables e below (T.setTop g) target := by
  obtain ⟨mk, methM, cM, hnamed, hmethM, -, -, -, -, -, -, hsigM⟩ := Cond.codeWith_spec hcode
  have hstatic : methM.isStatic = true := Cond.static_spec hnamed hmethM hstat
  obtain ⟨kP, hkP, -⟩ := className_of_methodNamed hnamed
  have hinitP : kP.init = .initialized := Cond.initialized_spec (findClass_of_methodNamed hnamed) hkP hinit
  obtain ⟨vm₁, X₁, hstep₁⟩ := X.invokestatic hexec hown hlink hnamed hmethM hstatic hkP hinitP hy (g := g) hg (argsL := argsL) (rest := rest) (hlen _ hsigM) hstack hdg
  obtain ⟨v, B, X', hpost, hsteps⟩ := hK m meth c ⟨T.setVm vm₁, locs, cells, slots⟩ { g with stack := rest } (.invokestatic index) mk argsL.toArray X₁ hg hsize hdg hW (X₁.named hnamed) (hpre vm₁ X₁.warmed)
  exact ⟨v, vm₁, B, X₁.warmed, X', hpost, fun target h => hstep₁ _ fun acts => by rw [doInvoke_state]; exact hsteps.trans h⟩
theorem vx_runSW {y : MethodName} {bytes cc : ByteArray} {maxL nL mc ms n index : Nat} {ret : Option FieldType} {hh : List (Nat × Nat × Nat × Nat)} {ws : List Cond} {rm : Room} {Pc : Array Value → State → Prop} {Qc : Array Value → State → Outcome → State → Prop} {free : Addr → Prop} {Ts : List Cond} {own : String} {As rest : List Value} {g : JFrame}
    (S : CallFix p m c cc nL s args Ts own) (hM : Met l y ws rm Pc Qc mc ms free) (cw : vx_CSW R s args own index y bytes maxL ret hh ws rm mc ms n) (hp : PreS s H Pc As)
    (hg : g.method = m) (hn : As.length = n) (hsize : g.locals.size = nL) (hstack : g.stack = As.reverse ++ rest) (hW : 2 * g.monitorRoom + (rest.map fun v => v.category).sum ≤ 8) (hdg : decode cc g.pc = .ok (.invokestatic index, 3)) (hf : cells + mc ≤ R.cells ∧ slots + ms ≤ R.slots) :
    va_Run p l e R s m args below meth c H locs cells slots mc ms g rest (Qc As.toArray) (free) := by
  obtain ⟨⟨hrc, hrs, hfr, hlo, hws, hcw⟩, hcode, hini, hy, hlen, hl, hstt⟩ := cw
  have hK : Back l R p e below s args y 3 8 (PreOf R mc ms Pc) (PostOf Qc mc ms free) := va_backW (hh := hh) (bytes := bytes) (maxL := maxL) (ret := ret) hM hp.1 hrc hrs hfr hlo hws hcw (fun a' U hW => word_at hW (Or.inl (by first | rfl | simp [Cond.onTables, Cond.keeps, Cond.steady])) hini)
  obtain ⟨hx, hb, hml, ho, -⟩ := S
  intro T hT X
  obtain ⟨v, vm₁, ⟨U', l2, c2, s2⟩, hW₁, X', ⟨g', mk, t, L, e1, e2, hq, h1, hL, h2, h3⟩, st⟩ := vx_callSW X hx (hh := hh) (bytes := bytes) (maxL := maxL) (ret := ret) ho hl hstt hini hcode hy hK hg (hsize.trans hml.symm) (argsL := As) (rest := rest) (fun sig h => hn.trans (hlen sig h)) hstack hW (by rw [hb]; exact hdg)
    (fun vm₁ hW₁ => ⟨hf.1, hf.2, hp.2 (T.setVm vm₁) hT hW₁⟩)
  dsimp only [Pt.U, Pt.locs, Pt.cells, Pt.slots] at X' e1 e2 h1 h2 h3 st
  subst h1; subst h2; subst h3
  exact ⟨v, (T.setVm vm₁).calling g' mk As.toArray, t, U', L, hT, X', hL, e1, e2, hq, st⟩
/-- not caught here, past rows that name other classes: it goes on to the caller -/
theorem vx_outP {p : Program} {l : Launch} {e : Env} {R : Room} {s : State} {m : MethodId} {args : Array Value} {below : List Frame} {meth : Method} {c : Code} {H : Heap} {locs : List Loc} {cells slots : Nat} {free : Addr → Prop} {ls : Array Slot} {rest : List Value} {Qc : Array Value → State → Outcome → State → Prop} {XC : String → State → State → Prop}
    {pc : Nat} {own E : String} {ce : Cell} {q : Addr} {mc ms : Nat} (hown : s.vm.findClass own = some m.cls) (hlocks : meth.locks = false)
    (hpass : ∀ z ∈ c.exceptionTable.toList, covers z pc = false ∨ (z.catchType ≠ 0 ∧ ∃ nm : String, (Cond.classLink own z.catchType nm).before args s = true ∧ va_Nc E nm s)) (hcell : H[q]? = some ce) (hv : ce.vm = .none) (hcl : s.vm.findClass E = some ce.cls)
    (hx : ∀ t : State, t.heap = H → s.vm.Alike t.vm → XC E s t) (hf : ∀ z ∈ locs, free z.base) (hc : cells ≤ mc) (hs : slots ≤ ms) :
    vx_W p l e R s m args below meth c H locs cells slots (vx_MQ below Qc XC args s mc ms free) (F0 m pc ls rest) q := by
  intro T hT X
  have hpl : e.platform.magicAccessors = ({} : Platform).magicAccessors := by rw [X.admits.platform]
  obtain ⟨vm', hW', X', st⟩ := X.outThrough hlocks q (g := F0 m pc ls rest) rfl rfl rfl (cell := ce) (by rw [hT]; exact hcell) (by rw [hv]; rfl)
    (by obtain ⟨k9, h9, -⟩ := Vm.findClass_spec hcl; exact ⟨k9, h9⟩) (fun z hz => by
      rcases hpass z hz with h | ⟨hz0, nm, hl1, hn1⟩
      · exact Or.inl h
      · obtain ⟨c6, hc6, hcl6⟩ := Cond.classLink_spec hown hl1 e.platform hpl
        obtain ⟨a8, b8, h1, h2, h3⟩ := hn1
        cases Option.some.inj (h1.symm.trans hcl)
        cases Option.some.inj (h2.symm.trans hc6)
        exact Or.inr ⟨hz0, _, hcl6, h3⟩)
  obtain ⟨g₀, hfr⟩ := X'.frames_eq
  have hcell9 : ((T.setVm vm').setFrames (.throwing q :: below)).heap[q]? = some ce := by
    show T.heap[q]? = some ce
    rw [hT]; exact hcell
  have hend : Ended ((T.setVm vm').setFrames (.throwing q :: below)) below (.threw q) := State.frames_setFrames _ (State.cur_lt_of_frames hfr)
  refine ⟨(T.setVm vm').setFrames (.throwing q :: below), ?_, .threw q, X'.here.running, hend, Or.inr ⟨q, rfl, E, ce, locs, hx _ hT (X'.ends _).1.alike, hcell9, hv, hcl, (X'.ends _).1, (X'.ends _).2.mono hc hs, hf⟩⟩
  rw [X.pushThrowing_eq]
  exact st
/-- a thing of a world lies in the heap -/
theorem vx_lt {D : va_G} {cl : List vw_C} {ws : va_W} {H1 : Heap} (h : va_P D cl ws H1) {k : Nat} {q : Nat × va_E} (hk : ws[k]? = some q) : q.1 < H1.size := (h k q hk).lt
end VXS
/-! ===== END ===== -/
/-! ===== BEGIN methods with a table of their own: called by a name, returning or throwing ===== -/
section VXH
/-! vx_backW, vx_callVX, vx_callSX, vx_callVW, vx_runVW, vx_runVX, vx_runSX, vx_ofWH follow the same proofs as their sisters above (Free/Laws.lean, Shelf42/LK1.lean); vx_outP calls Shelf42/NT130.lean (outThrough). -/
section
variable {l : Launch} {R : Room} {p : Program} {e : Env} {below : List Frame} {s : State} {sargs : Array Value} {y : MethodName} {len W9 : Nat}
theorem vx_backW {ws : List Cond} {rm : Room} {Pc : Array Value → State → Prop} {Qc : Array Value → State → Outcome → State → Prop} {XC : String → State → State → Prop} {mc ms : Nat} {free : Addr → Prop} {bytes : ByteArray} {maxL : Nat} {ret : Option FieldType} {hh : List (Nat × Nat × Nat × Nat)}
    (hM : vx_Met l y ws rm Pc Qc XC mc ms free) (hblind : FrameBlind Pc) (hrc : rm.cells = mc) (hrs : rm.slots = ms)
    (hframes : rm.frames + 1 ≤ R.frames) (hlocals : W9 + (maxL + 11) + rm.locals ≤ R.locals)
    (hws : ∀ w ∈ ws, ∀ a' U, s.WarmedH U.vm → w.before a' U = true) (hcode : Cond.codeWith y bytes maxL ret hh ∈ ws) (hinit : ∀ a' U, s.WarmedH U.vm → (Cond.initialized y.cls).before a' U = true) :
    vx_Back l R p e below s sargs y len W9 (PreOf R mc ms Pc) (PostOf Qc mc ms free) (vx_Post XC mc ms free) := by
  intro m meth c A g ig mk a X hg hsize hdg hW hn hp
  have h1 : (headSpec ws rm).pre.before a A.U = true := atoms_intro fun w hw => hws w hw _ _ X.warmed
  have h2 : (Cond.codeWith y bytes maxL ret hh).before a A.U = true := hws _ hcode _ _ X.warmed
  have h3 : (Cond.initialized y.cls).before a A.U = true := hinit _ _ X.warmed
  have h4 : A.cells + (headSpec ws rm).room.cells ≤ R.cells := by rw [show (headSpec ws rm).room.cells = mc from hrc]; exact hp.1
  have h5 : A.slots + (headSpec ws rm).room.slots ≤ R.slots := by rw [show (headSpec ws rm).room.slots = ms from hrs]; exact hp.2.1
  have hPc : Pc a (A.U.calling g mk a) := hblind _ _ _ _ hp.2.2
  obtain ⟨U, Ls, c0, s0⟩ := A
  dsimp only [Pt.U, Pt.locs, Pt.cells, Pt.slots] at h1 h2 h3 h4 h5 X hn hPc ⊢
  obtain ⟨m9, methY, cY, hn9, hmY, hcY, -, hlY, -⟩ := Cond.codeWith_spec h2
  cases Option.some.inj (hn9.symm.trans hn)
  obtain ⟨kY, hkY, -⟩ := className_of_methodNamed hn
  have hinitY : kY.init = .initialized := Cond.initialized_spec (findClass_of_methodNamed hn) hkY h3
  have h : At U g.method c below := by rw [hg]; exact X.here
  have hlocals9 : W9 + (maxL + 11) + (headSpec ws rm).room.locals ≤ R.locals := hlocals
  have happ : (headSpec ws rm).appliesLoose y e.platform (U.calling g mk a) = true :=
    Spec.appliesLoose_calling (g := g) h hdg hn hkY hinitY
      (X.room_calling (g := g) (R' := (headSpec ws rm).room) hsize hmY hcY hframes (by rw [hlY]; omega) h4 h5) h1
  obtain ⟨mid, hmid⟩ := h.above
  have hfr : (U.setTop g).frames = (.java g :: mid) ++ below := by rw [State.frames_setTop' g h.top, hmid]; rfl
  obtain ⟨o, s₂, hsteps, -, hend, hq⟩ := Steps.callFree hM p X.admits X.cas X.clock (acts := []) hfr happ hPc trivial
  have hq' : vx_Q Qc XC mc ms free a (U.calling g mk a) o s₂ := hq
  rw [State.frames_setTop' g h.top] at hend
  obtain ⟨g₀, hg0⟩ := Option.isSome_iff_exists.mp h.top
  obtain ⟨r, hr⟩ := State.topJava?_eq_some.mp hg0
  have hr' : (({ U with heap := s₂.heap, slotsUsed := s₂.slotsUsed } : State).setVm s₂.vm).frames = .java g₀ :: r := hr
  rcases hq' with ⟨hqc, L, hfe, hL⟩ | ⟨q, rfl, E, ce, L, hx, hce, hcv, hcl, hW₂, hsm, hL⟩
  · obtain ⟨⟨v, rfl⟩, hW₂, e2, q2, q3, q4, q5, q6⟩ := id hfe
    have e3 : s₂ = ({ (U.calling g mk a).setFrames s₂.frames with heap := s₂.heap, slotsUsed := s₂.slotsUsed } : State).setVm s₂.vm := by
      have : s₂ = ({ s₂ with vm := (U.calling g mk a).vm } : State).setVm s₂.vm := rfl
      rw [e2] at this
      exact this
    obtain ⟨c₂, i₂, len₂, hc₂, hd₂, hf₂⟩ := hend
    have hW' : U.WarmedH s₂.vm := hW₂
    have hcc : c₂ = c := by
      have h1 : s₂.code? g.method = U.code? g.method := by
        rw [State.code?_eq, State.code?_eq, hW'.alike.method?]
      exact Option.some.inj (hc₂.symm.trans (h1.trans h.code))
    subst hcc
    have hlen : len₂ = len := by rw [hdg] at hd₂; cases hd₂; rfl
    subst hlen
    have hs₂ : s₂ = (({ U with heap := s₂.heap, slotsUsed := s₂.slotsUsed } : State).setVm s₂.vm).setTop { g with pc := g.pc + len₂, stack := v.toList ++ g.stack } := by
      refine e3.trans ?_
      rw [hf₂, State.calling_eq h.top, State.setFrames_setFrames, State.setTop_of_frames _ hr', hr]
      rfl
    have hsame : U.sameButNew ({ U with heap := s₂.heap, slotsUsed := s₂.slotsUsed } : State) L mc ms := by
      refine ⟨?_, q2, q3, q4, q5, q6⟩
      obtain ⟨t, ht, -⟩ := State.frames_cons hr
      show ({ U with heap := s₂.heap, slotsUsed := s₂.slotsUsed } : State) = { U.setFrames U.frames with heap := s₂.heap, slotsUsed := s₂.slotsUsed }
      rw [State.setFrames_self ht]
    subst hg
    refine Or.inl ⟨v, ⟨(({ U with heap := s₂.heap, slotsUsed := s₂.slotsUsed } : State).setVm s₂.vm), Ls ++ L, c0 + mc, s0 + ms⟩,
      ⟨X.admits, X.cas, X.clock, X.frames, X.room, X.hears, X.method, X.code, (X.here.setHeapUsed s₂.heap s₂.slotsUsed).setVm hW'.alike, X.tail, State.WarmedH.trans X.warmed hW', X.limits, X.bytes, X.same.trans (hsame.setVm s.vm)⟩,
      ⟨g, mk, s₂, L, rfl, rfl, hqc, rfl, hL, rfl, rfl⟩, ?_⟩
    show Steps p.tables e below _ ((({ U with heap := s₂.heap, slotsUsed := s₂.slotsUsed } : State).setVm s₂.vm).setTop { g with pc := g.pc + len₂, stack := v.toList ++ g.stack })
    rw [← hs₂]
    exact hsteps
  · obtain ⟨e2, q2, q3, q4, q5, q6⟩ := id hsm
    have e3 : s₂ = ({ (U.calling g mk a).setFrames s₂.frames with heap := s₂.heap, slotsUsed := s₂.slotsUsed } : State).setVm s₂.vm := by
      have : s₂ = ({ s₂ with vm := (U.calling g mk a).vm } : State).setVm s₂.vm := rfl
      rw [e2] at this
      exact this
    have hf₂ : s₂.frames = .throwing q :: .java g :: U.frames.tail := hend
    have hW' : U.WarmedH s₂.vm := hW₂
    have hs₂ : s₂ = ((({ U with heap := s₂.heap, slotsUsed := s₂.slotsUsed } : State).setVm s₂.vm).setTop g).pushFrame (.throwing q) := by
      refine e3.trans ?_
      rw [hf₂, State.calling_eq h.top, State.setFrames_setFrames, State.pushFrame, State.frames_setTop _ hr', State.setTop_of_frames _ hr', State.setFrames_setFrames, hr]
      rfl
    have hsame : U.sameButNew ({ U with heap := s₂.heap, slotsUsed := s₂.slotsUsed } : State) L mc ms := by
      refine ⟨?_, q2, q3, q4, q5, q6⟩
      obtain ⟨t, ht, -⟩ := State.frames_cons hr
      show ({ U with heap := s₂.heap, slotsUsed := s₂.slotsUsed } : State) = { U.setFrames U.frames with heap := s₂.heap, slotsUsed := s₂.slotsUsed }
      rw [State.setFrames_self ht]
    subst hg
    refine Or.inr ⟨q, ⟨(({ U with heap := s₂.heap, slotsUsed := s₂.slotsUsed } : State).setVm s₂.vm), Ls ++ L, c0 + mc, s0 + ms⟩,
      ⟨X.admits, X.cas, X.clock, X.frames, X.room, X.hears, X.method, X.code, (X.here.setHeapUsed s₂.heap s₂.slotsUsed).setVm hW'.alike, X.tail, State.WarmedH.trans X.warmed hW', X.limits, X.bytes, X.same.trans (hsame.setVm s.vm)⟩,
      ⟨g, mk, s₂, L, E, ce, rfl, rfl, hx, hce, hcv, hcl, rfl, hL, rfl, rfl⟩, ?_⟩
    show Steps p.tables e below _ (((({ U with heap := s₂.heap, slotsUsed := s₂.slotsUsed } : State).setVm s₂.vm).setTop g).pushFrame (.throwing q))
    rw [← hs₂]
    exact hsteps
end
variable {p : Program} {l : Launch} {e : Env} {R : Room} {s : State} {m : MethodId} {args : Array Value} {below : List Frame} {meth : Method} {c : Code} {T : State} {H : Heap} {locs : List Loc} {cells slots : Nat}
theorem vx_callVX (X : Stand p l e R s m args below meth c T locs cells slots) (hexec : p.tables.exec = Jvm.exec) {own C : String} {index : Nat} {y : MethodName} {bytes : ByteArray} {maxL : Nat} {ret : Option FieldType} {hh : List (Nat × Nat × Nat × Nat)}
    (hown : s.vm.findClass own = some m.cls) (hlink : (Cond.methodLink own index y).before args s = true) (hinst : (Cond.instanceMethod y).before args s = true) (hsel : (Cond.selects C y y).before args s = true)
    (hcode : (Cond.codeWith y bytes maxL ret hh).before args s = true) (hy : y.cls ≠ "java/lang/invoke/MethodHandle" ∧ y.cls ≠ "java/lang/invoke/VarHandle")
    {W9 : Nat} {Pre : Pt → Array Value → Prop} {Post : Pt → Array Value → Option Value → Pt → Prop} {PostX : Pt → Array Value → Addr → Pt → Prop} (hK : vx_Back l R p e below s args y 3 W9 Pre Post PostX)
    {b : Addr} {cellB : Cell} (hcell : T.heap[b]? = some cellB) (hobj : cellB.vm.isStatics = false) (hcls : s.vm.findClass C = some cellB.cls)
    {g : JFrame} (hg : g.method = m) (hsize : g.locals.size = c.maxLocals) {argsL rest : List Value} (hlen : ∀ sig, parseMethodDescriptor y.desc = some sig → argsL.length = sig.parameters.length)
    (hstack : g.stack = argsL.reverse ++ .ref b :: rest) (hW : 2 * g.monitorRoom + (rest.map fun v => v.category).sum ≤ W9) (hdg : decode c.code g.pc = .ok (.invokevirtual index, 3))
    (hpre : ∀ vm₁, s.WarmedH vm₁ → Pre ⟨T.setVm vm₁, locs, cells, slots⟩ (Value.ref b :: argsL).toArray) :
    (∃ (v : Option Value) (vm₁ : Vm) (B : Pt), s.WarmedH vm₁ ∧ Stand p l e R s m args below meth c B.U B.locs B.cells B.slots ∧ Post ⟨T.setVm vm₁, locs, cells, slots⟩ (Value.ref b :: argsL).toArray v B ∧
      ∀ target, Steps p.tables e below (B.U.setTop { g with pc := g.pc + 3, stack := v.toList ++ rest }) target → Steps p.tables e below (T.setTop g) target) ∨
    (∃ (q : Addr) (vm₁ : Vm) (B : Pt), s.WarmedH vm₁ ∧ Stand p l e R s m args below meth c B.U B.locs B.cells B.slots ∧ PostX ⟨T.setVm vm₁, locs, cells, slots⟩ (Value.ref b :: argsL).toArray q B ∧
      Steps p.tables e below (T.setTop g) ((B.U.setTop { g with stack := rest }).pushFrame (.throwing q))) := by
  obtain ⟨mk, methM, hnamed, hmethM, hstM, habM⟩ := Cond.instanceMethod_spec hinst
  obtain ⟨m8, methM', cM, hn8, hmethM', -, -, -, -, -, -, hsigM⟩ := Cond.codeWith_spec hcode
  cases Option.some.inj (hn8.symm.trans hnamed)
  cases hmethM.symm.trans hmethM'
  obtain ⟨c2, r2, m2, q1, q2, q3, q4, kP, hkP, hkPi⟩ := Cond.selects_spec hsel
  cases hcls.symm.trans q1
  cases (State.methodFound?_of_named hnamed hy).symm.trans q2
  cases hnamed.symm.trans q3
  have hselP : selectMethod e.platform s.vm cellB.cls mk = .method mk := by rw [Launch.admits_selectMethod X.admits]; exact q4
  obtain ⟨vm₁, X₁, hstep₁⟩ := X.invokevirtual hexec hown hlink hnamed hmethM hstM hkP hkPi hy (a := b) (cell := cellB) hcell
    (fun z h => by rw [h] at hobj; cases hobj) hselP hmethM habM hkP hkPi (g := g) hg (argsL := argsL) (rest := rest) (hlen _ hsigM) hstack hdg
  rcases hK m meth c ⟨T.setVm vm₁, locs, cells, slots⟩ { g with stack := rest } (.invokevirtual index) mk (Value.ref b :: argsL).toArray X₁ hg hsize hdg hW (X₁.named hnamed) (hpre vm₁ X₁.warmed) with ⟨v, B, X', hpost, hsteps⟩ | ⟨q, B, X', hpost, hsteps⟩
  · exact Or.inl ⟨v, vm₁, B, X₁.warmed, X', hpost, fun target h => hstep₁ _ fun acts => by rw [doInvoke_state]; exact hsteps.trans h⟩
  · exact Or.inr ⟨q, vm₁, B, X₁.warmed, X', hpost, hstep₁ _ fun acts => by rw [doInvoke_state]; exact hsteps⟩
theorem vx_callSX (X : Stand p l e R s m args below meth c T locs cells slots) (hexec : p.tables.exec = Jvm.exec) {own : String} {index : Nat} {y : MethodName} {bytes : ByteArray} {maxL : Nat} {ret : Option FieldType} {hh : List (Nat × Nat × Nat × Nat)}
    (hown : s.vm.findClass own = some m.cls) (hlink : (Cond.methodLink own index y).before args s = true) (hstat : (Cond.static y).before args s = true) (hinit : (Cond.initialized y.cls).before args s = true)
    (hcode : (Cond.codeWith y bytes maxL ret hh).before args s = true) (hy : y.cls ≠ "java/lang/invoke/MethodHandle" ∧ y.cls ≠ "java/lang/invoke/VarHandle")
    {W9 : Nat} {Pre : Pt → Array Value → Prop} {Post : Pt → Array Value → Option Value → Pt → Prop} {PostX : Pt → Array Value → Addr → Pt → Prop} (hK : vx_Back l R p e below s args y 3 W9 Pre Post PostX)
    {g : JFrame} (hg : g.method = m) (hsize : g.locals.size = c.maxLocals) {argsL rest : List Value} (hlen : ∀ sig, parseMethodDescriptor y.desc = some sig → argsL.length = sig.parameters.length)
    (hstack : g.stack = argsL.reverse ++ rest) (hW : 2 * g.monitorRoom + (rest.map fun v => v.category).sum ≤ W9) (hdg : decode c.code g.pc = .ok (.invokestatic index, 3))
    (hpre : ∀ vm₁, s.WarmedH vm₁ → Pre ⟨T.setVm vm₁, locs, cells, slots⟩ argsL.toArray) :
    (∃ (v : Option Value) (vm₁ : Vm) (B : Pt), s.WarmedH vm₁ ∧ Stand p l e R s m args below meth c B.U B.locs B.cells B.slots ∧ Post ⟨T.setVm vm₁, locs, cells, slots⟩ argsL.toArray v B ∧
      ∀ target, Steps p.tables e below (B.U.setTop { g with pc := g.pc + 3, stack := v.toList ++ rest }) target → Steps p.tables e below (T.setTop g) target) ∨
    (∃ (q : Addr) (vm₁ : Vm) (B : Pt), s.WarmedH vm₁ ∧ Stand p l e R s m args below meth c B.U B.locs B.cells B.slots ∧ PostX ⟨T.setVm vm₁, locs, cells, slots⟩ argsL.toArray q B ∧
      Steps p.tables e below (T.setTop g) ((B.U.setTop { g with stack := rest }).pushFrame (.throwing q))) := by
  obtain ⟨mk, methM, cM, hnamed, hmethM, -, -, -, -, -, -, hsigM⟩ := Cond.codeWith_spec hcode
  have hstatic : methM.isStatic = true := Cond.static_spec hnamed hmethM hstat
  obtain ⟨kP, hkP, -⟩ := className_of_methodNamed hnamed
  have hinitP : kP.init = .initialized := Cond.initialized_spec (findClass_of_methodNamed hnamed) hkP hinit
  obtain ⟨vm₁, X₁, hstep₁⟩ := X.invokestatic hexec hown hlink hnamed hmethM hstatic hkP hinitP hy (g := g) hg (argsL := argsL) (rest := rest) (hlen _ hsigM) hstack hdg
  rcases hK m meth c ⟨T.setVm vm₁, locs, cells, slots⟩ { g with stack := rest } (.invokestatic index) mk argsL.toArray X₁ hg hsize hdg hW (X₁.named hnamed) (hpre vm₁ X₁.warmed) with ⟨v, B, X', hpost, hsteps⟩ | ⟨q, B, X', hpost, hsteps⟩
  · exact Or.inl ⟨v, vm₁, B, X₁.warmed, X', hpost, fun target h => hstep₁ _ fun acts => by rw [doInvoke_state]; exact hsteps.trans h⟩
  · exact Or.inr ⟨q, vm₁, B, X₁.warmed, X', hpost, hstep₁ _ fun acts => by rw [doInvoke_state]; exact hsteps⟩
theorem vx_callVW (X : Stand p l e R s m args below meth c T locs cells slots) (hexec : p.tables.exec = Jvm.exec) {own C : String} {index : Nat} {y : MethodName} {bytes : ByteArray} {maxL : Nat} {ret : Option FieldType} {hh : List (Nat × Nat × Nat × Nat)}
    (hown : s.vm.findClass own = some m.cls) (hlink : (Cond.methodLink own index y).before args s = true) (hinst : (Cond.instanceMethod y).before args s = true) (hsel : (Cond.selects C y y).before args s = true)
    (hcode : (Cond.codeWith y bytes maxL ret hh).before args s = true) (hy : y.cls ≠ "java/lang/invoke/MethodHandle" ∧ y.cls ≠ "java/lang/invoke/VarHandle")
    {W9 : Nat} {Pre : Pt → Array Value → Prop} {Post : Pt → Array Value → Option Value → Pt → Prop} (hK : Back l R p e below s args y 3 W9 Pre Post)
    {b : Addr} {cellB : Cell} (hcell : T.heap[b]? = some cellB) (hobj : cellB.vm.isStatics = false) (hcls : s.vm.findClass C = some cellB.cls)
    {g : JFrame} (hg : g.method = m) (hsize : g.locals.size = c.maxLocals) {argsL rest : List Value} (hlen : ∀ sig, parseMethodDescriptor y.desc = some sig → argsL.length = sig.parameters.length)
    (hstack : g.stack = argsL.reverse ++ .ref b :: rest) (hW : 2 * g.monitorRoom + (rest.map fun v => v.category).sum ≤ W9) (hdg : decode c.code g.pc = .ok (.invokevirtual index, 3))
    (hpre : ∀ vm₁, s.WarmedH vm₁ → Pre ⟨T.setVm vm₁, locs, cells, slots⟩ (Value.ref b :: argsL).toArray) :
    ∃ (v : Option Value) (vm₁ : Vm) (B : Pt), s.WarmedH vm₁ ∧ Stand p l e R s m args below meth c B.U B.locs B.cells B.slots ∧ Post ⟨T.setVm vm₁, locs, cells, slots⟩ (Value.ref b :: argsL).toArray v B ∧
      ∀ target, Steps p.tables e below (B.U.setTop { g with pc := g.pc + 3, stack := v.toList ++ rest }) target → Steps p.tables e below (T.setTop g) target := by
  obtain ⟨mk, methM, hnamed, hmethM, hstM, habM⟩ := Cond.instanceMethod_spec hinst
  obtain ⟨m8, methM', cM, hn8, hmethM', -, -, -, -, -, -, hsigM⟩ := Cond.codeWith_spec hcode
  cases Option.some.inj (hn8.symm.trans hnamed)
  cases hmethM.symm.trans hmethM'
  obtain ⟨c2, r2, m2, q1, q2, q3, q4, kP, hkP, hkPi⟩ := Cond.selects_spec hsel
  cases hcls.symm.trans q1
  cases (State.methodFound?_of_named hnamed hy).symm.trans q2
  cases hnamed.symm.trans q3
  have hselP : selectMethod e.platform s.vm cellB.cls mk = .method mk := by rw [Launch.admits_selectMethod X.admits]; exact q4
  obtain ⟨vm₁, X₁, hstep₁⟩ := X.invokevirtual hexec hown hlink hnamed hmethM hstM hkP hkPi hy (a := b) (cell := cellB) hcell
    (fun z h => by rw [h] at hobj; cases hobj) hselP hmethM habM hkP hkPi (g := g) hg (argsL := argsL) (rest := rest) (hlen _ hsigM) hstack hdg
  obtain ⟨v, B, X', hpost, hsteps⟩ := hK m meth c ⟨T.setVm vm₁, locs, cells, slots⟩ { g with stack := rest } (.invokevirtual index) mk (Value.ref b :: argsL).toArray X₁ hg hsize hdg hW (X₁.named hnamed) (hpre vm₁ X₁.warmed)
  exact ⟨v, vm₁, B, X₁.warmed, X', hpost, fun target h => hstep₁ _ fun acts => by rw [doInvoke_state]; exact hsteps.trans h⟩
abbrev vx_CVW (R : Room) (s : State) (args : Array Value) (own C : String) (index : Nat) (y : MethodName) (bytes : ByteArray) (maxL : Nat) (ret : Option FieldType) (hh : List (Nat × Nat × Nat × Nat)) (ws : List Cond) (rm : Room) (mc ms n : Nat) : Prop :=
  (rm.cells = mc ∧ rm.slots = ms ∧ rm.frames + 1 ≤ R.frames ∧ 8 + (maxL + 11) + rm.locals ≤ R.locals ∧ (∀ w ∈ ws, ∀ (a' : Array Value) (U : State), s.WarmedH U.vm → w.before a' U = true) ∧ Cond.codeWith y bytes maxL ret hh ∈ ws) ∧
  (Cond.codeWith y bytes maxL ret hh).before args s = true ∧ (Cond.initialized y.cls).before args s = true ∧ (y.cls ≠ "java/lang/invoke/MethodHandle" ∧ y.cls ≠ "java/lang/invoke/VarHandle") ∧
  (∀ sig, parseMethodDescriptor y.desc = some sig → n = sig.parameters.length) ∧ (Cond.methodLink own index y).before args s = true ∧ (Cond.instanceMethod y).before args s = true ∧ (Cond.selects C y y).before args s = true
theorem vx_cwVW {own C : String} {index maxL mc ms : Nat} {y : MethodName} {bytes : ByteArray} {ret : Option FieldType} {hh : List (Nat × Nat × Nat × Nat)} {Ts ws ws' : List Cond} {rm : Room} (n : Nat) (ht : ∀ w ∈ Ts, w.before args s = true) (hT : GoodIn Ts (wsV own index C y ws)) (hw : ws = Cond.codeWith y bytes maxL ret hh :: ws') (hrc : rm.cells = mc) (hrs : rm.slots = ms)
    (hd : y.cls = C ∧ y.cls ≠ "java/lang/invoke/MethodHandle" ∧ y.cls ≠ "java/lang/invoke/VarHandle" ∧ (parseMethodDescriptor y.desc).map (fun d => d.parameters.length) = some n) (hR : rm.frames + 1 ≤ R.frames ∧ 8 + (maxL + 11) + rm.locals ≤ R.locals) :
    vx_CVW R s args own C index y bytes maxL ret hh ws rm mc ms n := by
  obtain ⟨hC, hd⟩ := hd
  subst hC
  have ok : ∀ w ∈ wsV own index y.cls y ws, w.before args s = true := fun w h => ht w (hT w h).1
  have hG : GoodIn Ts ws := fun w h => hT w (by unfold wsV; exact List.mem_append_right _ h)
  have hc : Cond.codeWith y bytes maxL ret hh ∈ ws := by rw [hw]; exact List.mem_cons_self
  refine ⟨⟨hrc, hrs, hR.1, hR.2, pay_in ht hG, hc⟩, ht _ (hG _ hc).1, ok _ (by simp [wsV]), ⟨hd.1, hd.2.1⟩, fun sig h => ?_, ok _ (by simp [wsV]), ok _ (by simp [wsV]), ok _ (by simp [wsV])⟩
  have h2 := hd.2.2
  rw [h] at h2
  exact (Option.some.inj h2).symm
theorem vx_runVW {y : MethodName} {bytes cc : ByteArray} {maxL nL mc ms n index : Nat} {ret : Option FieldType} {hh : List (Nat × Nat × Nat × Nat)} {ws : List Cond} {rm : Room} {Pc : Array Value → State → Prop} {Qc : Array Value → State → Outcome → State → Prop} {free : Addr → Prop} {Ts : List Cond} {own C : String} {b : Addr} {As rest : List Value} {g : JFrame}
    (S : CallFix p m c cc nL s args Ts own) (hM : Met l y ws rm Pc Qc mc ms free) (cw : vx_CVW R s args own C index y bytes maxL ret hh ws rm mc ms n) (hp : PreV s H C b Pc As)
    (hg : g.method = m) (hn : As.length = n) (hsize : g.locals.size = nL) (hstack : g.stack = As.reverse ++ .ref b :: rest) (hW : 2 * g.monitorRoom + (rest.map fun v => v.category).sum ≤ 8) (hdg : decode cc g.pc = .ok (.invokevirtual index, 3)) (hf : cells + mc ≤ R.cells ∧ slots + ms ≤ R.slots) :
    va_Run p l e R s m args below meth c H locs cells slots mc ms g rest (Qc (Value.ref b :: As).toArray) free := by
  obtain ⟨⟨hrc, hrs, hfr, hlo, hws, hcw⟩, hcode, hini, hy, hlen, hl, hin, hse⟩ := cw
  have hK : Back l R p e below s args y 3 8 (PreOf R mc ms Pc) (PostOf Qc mc ms free) := va_backW (hh := hh) (bytes := bytes) (maxL := maxL) (ret := ret) hM hp.1 hrc hrs hfr hlo hws hcw (fun a' U hW => word_at hW (Or.inl (by first | rfl | simp [Cond.onTables, Cond.keeps, Cond.steady])) hini)
  obtain ⟨hx, hb, hml, ho, -⟩ := S
  obtain ⟨-, ⟨cellB, hcB, hoB, hclB⟩, hPc⟩ := hp
  intro T hT X
  obtain ⟨v, vm₁, ⟨U', l2, c2, s2⟩, hW₁, X', ⟨g', mk, t, L, e1, e2, hq, h1, hL, h2, h3⟩, st⟩ := vx_callVW X hx (C := C) (hh := hh) (bytes := bytes) (maxL := maxL) (ret := ret) ho hl hin hse hcode hy hK (by rw [hT]; exact hcB) hoB hclB hg (hsize.trans hml.symm) (argsL := As) (rest := rest) (fun sig h => hn.trans (hlen sig h)) hstack hW (by rw [hb]; exact hdg)
    (fun vm₁ hW₁ => ⟨hf.1, hf.2, hPc (T.setVm vm₁) hT hW₁⟩)
  dsimp only [Pt.U, Pt.locs, Pt.cells, Pt.slots] at X' e1 e2 h1 h2 h3 st
  subst h1; subst h2; subst h3
  exact ⟨v, (T.setVm vm₁).calling g' mk (Value.ref b :: As).toArray, t, U', L, hT, X', hL, e1, e2, hq, st⟩
section
variable {y : MethodName} {bytes cc : ByteArray} {maxL nL mc ms n index : Nat} {ret : Option FieldType} {ws : List Cond} {rm : Room} {Pc : Array Value → State → Prop} {Qc : Array Value → State → Outcome → State → Prop} {XC : String → State → State → Prop} {free : Addr → Prop} {Ts : List Cond} {own C : String} {b : Addr} {As rest : List Value} {g : JFrame}
theorem vx_runVX {hh : List (Nat × Nat × Nat × Nat)} (S : CallFix p m c cc nL s args Ts own) (hM : vx_Met l y ws rm Pc Qc XC mc ms free) (cw : vx_CVW R s args own C index y bytes maxL ret hh ws rm mc ms n) (hp : PreV s H C b Pc As)
    (hg : g.method = m) (hn : As.length = n) (hsize : g.locals.size = nL) (hstack : g.stack = As.reverse ++ .ref b :: rest) (hW : 2 * g.monitorRoom + (rest.map fun v => v.category).sum ≤ 8) (hdg : decode cc g.pc = .ok (.invokevirtual index, 3)) (hf : cells + mc ≤ R.cells ∧ slots + ms ≤ R.slots) :
    vx_Run p l e R s m args below meth c H locs cells slots mc ms g rest (Qc (Value.ref b :: As).toArray) XC free := by
  obtain ⟨⟨hrc, hrs, hfr, hlo, hws, hcw⟩, hcode, hini, hy, hlen, hl, hin, hse⟩ := cw
  have hK : vx_Back l R p e below s args y 3 8 (PreOf R mc ms Pc) (PostOf Qc mc ms free) (vx_Post XC mc ms free) := vx_backW (hh := hh) (bytes := bytes) (maxL := maxL) (ret := ret) hM hp.1 hrc hrs hfr hlo hws hcw (fun a' U hW => word_at hW (Or.inl (by first | rfl | simp [Cond.onTables, Cond.keeps, Cond.steady])) hini)
  obtain ⟨hx, hb, hml, ho, -⟩ := S
  obtain ⟨-, ⟨cellB, hcB, hoB, hclB⟩, hPc⟩ := hp
  intro T hT X
  rcases vx_callVX X hx (C := C) (hh := hh) (bytes := bytes) (maxL := maxL) (ret := ret) ho hl hin hse hcode hy hK (by rw [hT]; exact hcB) hoB hclB hg (hsize.trans hml.symm) (argsL := As) (rest := rest) (fun sig h => hn.trans (hlen sig h)) hstack hW (by rw [hb]; exact hdg)
    (fun vm₁ hW₁ => ⟨hf.1, hf.2, hPc (T.setVm vm₁) hT hW₁⟩) with ⟨v, vm₁, ⟨U', l2, c2, s2⟩, hW₁, X', ⟨g', mk, t, L, e1, e2, hq, h1, hL, h2, h3⟩, st⟩ | ⟨q, vm₁, ⟨U', l2, c2, s2⟩, hW₁, X', ⟨g', mk, t, L, E, ce, e1, e2, hq, hce, hcv, hcl, h1, hL, h2, h3⟩, st⟩
  · dsimp only [Pt.U, Pt.locs, Pt.cells, Pt.slots] at X' e1 e2 h1 h2 h3 st
    subst h1; subst h2; subst h3
    exact Or.inl ⟨v, (T.setVm vm₁).calling g' mk (Value.ref b :: As).toArray, t, U', L, hT, X', hL, e1, e2, hq, st⟩
  · dsimp only [Pt.U, Pt.locs, Pt.cells, Pt.slots] at X' e1 e2 h1 h2 h3 st hcl
    subst h1; subst h2; subst h3
    exact Or.inr ⟨q, (T.setVm vm₁).calling g' mk (Value.ref b :: As).toArray, t, U', L, E, ce, hT, X', hL, e1, e2, hq, hce, hcv, vx_cls hW₁ hcl, st⟩
theorem vx_runSX {hh : List (Nat × Nat × Nat × Nat)} (S : CallFix p m c cc nL s args Ts own) (hM : vx_Met l y ws rm Pc Qc XC mc ms free) (cw : vx_CSW R s args own index y bytes maxL ret hh ws rm mc ms n) (hp : PreS s H Pc As)
    (hg : g.method = m) (hn : As.length = n) (hsize : g.locals.size = nL) (hstack : g.stack = As.reverse ++ rest) (hW : 2 * g.monitorRoom + (rest.map fun v => v.category).sum ≤ 8) (hdg : decode cc g.pc = .ok (.invokestatic index, 3)) (hf : cells + mc ≤ R.cells ∧ slots + ms ≤ R.slots) :
    vx_Run p l e R s m args below meth c H locs cells slots mc ms g rest (Qc As.toArray) XC free := by
  obtain ⟨⟨hrc, hrs, hfr, hlo, hws, hcw⟩, hcode, hini, hy, hlen, hl, hstt⟩ := cw
  have hK : vx_Back l R p e below s args y 3 8 (PreOf R mc ms Pc) (PostOf Qc mc ms free) (vx_Post XC mc ms free) := vx_backW (hh := hh) (bytes := bytes) (maxL := maxL) (ret := ret) hM hp.1 hrc hrs hfr hlo hws hcw (fun a' U hW => word_at hW (Or.inl (by first | rfl | simp [Cond.onTables, Cond.keeps, Cond.steady])) hini)
  obtain ⟨hx, hb, hml, ho, -⟩ := S
  intro T hT X
  rcases vx_callSX X hx (hh := hh) (bytes := bytes) (maxL := maxL) (ret := ret) ho hl hstt hini hcode hy hK hg (hsize.trans hml.symm) (argsL := As) (rest := rest) (fun sig h => hn.trans (hlen sig h)) hstack hW (by rw [hb]; exact hdg)
    (fun vm₁ hW₁ => ⟨hf.1, hf.2, hp.2 (T.setVm vm₁) hT hW₁⟩) with ⟨v, vm₁, ⟨U', l2, c2, s2⟩, hW₁, X', ⟨g', mk, t, L, e1, e2, hq, h1, hL, h2, h3⟩, st⟩ | ⟨q, vm₁, ⟨U', l2, c2, s2⟩, hW₁, X', ⟨g', mk, t, L, E, ce, e1, e2, hq, hce, hcv, hcl, h1, hL, h2, h3⟩, st⟩
  · dsimp only [Pt.U, Pt.locs, Pt.cells, Pt.slots] at X' e1 e2 h1 h2 h3 st
    subst h1; subst h2; subst h3
    exact Or.inl ⟨v, (T.setVm vm₁).calling g' mk As.toArray, t, U', L, hT, X', hL, e1, e2, hq, st⟩
  · dsimp only [Pt.U, Pt.locs, Pt.cells, Pt.slots] at X' e1 e2 h1 h2 h3 st hcl
    subst h1; subst h2; subst h3
    exact Or.inr ⟨q, (T.setVm vm₁).calling g' mk As.toArray, t, U', L, E, ce, hT, X', hL, e1, e2, hq, hce, hcv, vx_cls hW₁ hcl, st⟩
end
end VXH
theorem vx_ofWH {l : Launch} {y : MethodName} {ws ws' : List Cond} {rm : Room} {Pc : Array Value → State → Prop} {Qc : Array Value → State → Outcome → State → Prop} {XC : String → State → State → Prop} {mc ms : Nat} {free : Addr → Prop} {cc : ByteArray} {maxL : Nat} {ret : Option FieldType} {hh : List (Nat × Nat × Nat × Nat)}
    (hy : plainName y.cls = true) (hw : ws = Cond.codeWith y cc maxL ret hh :: ws')
    (body : ∀ p e s m args below meth c s₁, BodyLoose p l y (headSpec ws rm) cc maxL ret e s m args below meth c s₁ → c.maxLocals = maxL → Pc args s →
      W p l e (headSpec ws rm).room s m args below meth c s.heap [] 0 0 (vx_MQ below Qc XC args s mc ms free) (entryFrame m args maxL)) : vx_Met l y ws rm Pc Qc XC mc ms free := by
  refine MetFree.of_bodyS (code := cc) (maxLocals := maxL) (ret := ret) hy ?_ ?_
  · intro args s m h hn
    obtain ⟨m9, meth, c, hn9, h1, h2, h3, h4, -, h5, h6, -⟩ := Cond.codeWith_spec (atoms_spec (ws := ws) h _ (by rw [hw]; exact List.mem_cons_self))
    cases hn.symm.trans hn9
    exact ⟨meth, c, h1, h2, h3, h4, h5, h6⟩
  · intro p e s m args below meth c s₁ B hml hP _
    have hh0 : s₁.heap = s.heap := by rw [B.state]; rfl
    obtain ⟨t, a1, o, b1, b2, b3⟩ := body p e s m args below meth c s₁ B hml hP s₁ hh0 (Stand.of_body B)
    exact ⟨t, o, a1, b1, b2, b3⟩
/-! ===== END ===== -/
/-! ===== BEGIN what the machine throws by itself, no traces kept ===== -/
section VXM
set_option maxHeartbeats 1000000 in
/-- the machine throws cls with the message text, no traces kept: from its note over the frame g to 'throwing' over the same frame (follows the proofs of Stand.vmThrowsMessage, Shelf/KitTracedVmS.lean, and Stand.throwsMessageColdBareV, StandMessageColdV.lean, without the step out of the frame) -/
theorem vx_vmAt {p : Program} {l : Launch} {e : Env} {R : Room} {s : State} {m₀ : MethodId} {args : Array Value} {below : List Frame} {meth : Method} {c : Code} {W : State} {locs : List Loc} {cells slots : Nat}
    (X : Stand p l e R s m₀ args below meth c W locs cells slots) (hexec : p.tables.exec = Jvm.exec) (htr : e.platform.stackTraces = false) {cls : String} {names : List String} {text : String}
    (hcls : Bundle.fit cls = true) (hnames : ∀ n ∈ names, Bundle.fit n = true) (hsoe : (cls == "java/lang/StackOverflowError") = false) (hoom : (cls == "java/lang/OutOfMemoryError") = false)
    (h : ∀ a ∈ Bundle.messageArmAtoms cls names, a.before args s = true)
    (hlocs : ∀ x ∈ locs, ∀ cell, s.heap[x.base]? = some cell → cell.vm.isStatics = false)
    (htext : (text == notModelled) = false) (hlimit : ¬ (stringBytes (stringToUtf16 text)).size > e.platform.arrayLengthLimit) (hheap : ¬ (stringBytes (stringToUtf16 text)).size * componentBytes .byte > e.platform.maxHeapBytes)
    {g : JFrame} (hg : g.method = m₀) (hsize : g.locals.size = c.maxLocals)
    (hRframes : names.length + 4 < R.frames) (hRlocals : 2 * g.monitorRoom + (g.stack.map fun v => v.category).sum + 10240 ≤ R.locals) (hshort : 13 * names.length + 55 ≤ 10240)
    (hRcells : cells + 3 ≤ R.cells) (hRslots : slots + ((stringBytes (stringToUtf16 text)).size + 4 + 6) ≤ R.slots) (hlocks : meth.locks = false) :
    ∃ (S : State) (q : Addr) (ce : Cell), (∀ target, Steps p.tables e below ((S.setTop g).pushFrame (.throwing q)) target → Steps p.tables e below ((W.setTop g).pushFrame (.throwNew cls (some text) none)) target) ∧
      Stand p l e R s m₀ args below meth c S locs (cells + 3) (slots + ((stringBytes (stringToUtf16 text)).size + 4 + 6)) ∧ S.heap[q]? = some ce ∧ s.vm.findClass cls = some ce.cls ∧ ce.vm = .none := by
  have howns : e.platform.frameOwnsMonitors = true := by rw [X.admits.platform]
  have hfin : e.platform.finalization = false := by rw [X.admits.platform]
  have hpl : e.platform.magicAccessors = ({} : Platform).magicAccessors := by rw [X.admits.platform]
  have a : ∀ x, x ∈ Bundle.messageArmAtoms cls names → x.holds args s none s [] = true := fun x hx => h x hx
  obtain ⟨T, Z0, L, -, Y⟩ := ThrowableC.of_atoms (args := args) howns hfin hpl (fun x hx => h x (by simp [Bundle.messageArmAtoms, hx]))
  obtain ⟨Z, M, LZ, LM, hnZ⟩ := Init0T.ofS_atoms (args := args) hpl L Y (fun x hx => h x (by simp [Bundle.messageArmAtoms, hx]))
  obtain ⟨P1, Ps, hlen, L1, hL, hP1m, hlink1, hlink⟩ := Bundle.chainS (args := args) hpl hnZ names cls hcls hnames (fun x hx => h x (by simp [Bundle.messageArmAtoms, hx]))
  obtain ⟨Zs, LZs, hn4, hfitv, hfitc⟩ := StringT.of_atoms (args := args) (fun x hx => h x (by simp [Bundle.messageArmAtoms, hx]))
  have hfound : s.vm.findClass cls = some P1.m.cls := findClass_of_methodNamed hP1m
  obtain ⟨c1, kX, hc1, hk, hord, -, -, hn6⟩ := Cond.instantiable_spec (a (.instantiable cls 6) (by simp [Bundle.messageArmAtoms]))
  cases Option.some.inj (hc1.symm.trans hfound)
  have hinit := Cond.initialized_spec hfound hk (a (.initialized cls) (by simp [Bundle.messageArmAtoms]))
  have hctor : kX.findMethod "<init>" "(Ljava/lang/String;)V" = some P1.m.idx := findMethod_of_methodNamed hP1m hk
  have hsel0 : selectMethod e.platform s.vm P1.m.cls T.fill0 = .method T.fill0 := by
    obtain ⟨c2, r2, m2, q1, q2, q3, q4, -⟩ := Cond.selects_spec (a (.selects cls Bundle.tFill0 Bundle.tFill0) (by simp [Bundle.messageArmAtoms]))
    cases Option.some.inj (q1.symm.trans hfound)
    cases Option.some.inj (q2.symm.trans (State.methodFound?_of_named Y.fill0 (by decide)))
    cases Option.some.inj (q3.symm.trans Y.fill0)
    rw [Launch.admits_selectMethod X.admits]; exact q4
  have hselF : selectMethod e.platform s.vm P1.m.cls T.fill = .method T.fill := by
    obtain ⟨c2, r2, m2, q1, q2, q3, q4, -⟩ := Cond.selects_spec (a (.selects cls Bundle.tFill Bundle.tFill) (by simp [Bundle.messageArmAtoms]))
    cases Option.some.inj (q1.symm.trans hfound)
    cases Option.some.inj (q2.symm.trans (State.methodFound?_of_named Y.fill (by decide)))
    cases Option.some.inj (q3.symm.trans Y.fill)
    rw [Launch.admits_selectMethod X.admits]; exact q4
  obtain ⟨cellS0, hcS0, hiss⟩ := Y.statics
  obtain ⟨u0, hu0⟩ := Cond.staticRefV Y.unassigned L.unassignedStatic L.statics hcS0 hiss (a (.isRef (.static Bundle.tN "UNASSIGNED_STACK" Bundle.steD)) (by simp [Bundle.messageArmAtoms]))
  obtain ⟨sen, hsen⟩ := Cond.staticRefV Y.sentinel L.sentinelStatic L.statics hcS0 hiss (a (.isRef (.static Bundle.tN "SUPPRESSED_SENTINEL" Bundle.listD)) (by simp [Bundle.messageArmAtoms]))
  obtain ⟨ci198, i198, fB, hk198, hg198, ha198, hsB, -, hnB, htB, hffB⟩ := Cond.ownField (t := .object "java/lang/Object") Y.found L.cls (by decide +kernel) (a (.fieldLink Bundle.tN 198 Bundle.tN "backtrace" "Ljava/lang/Object;") (by simp [Bundle.messageArmAtoms])) (a (.lays Bundle.tN Bundle.tN "backtrace" "Ljava/lang/Object;") (by simp [Bundle.messageArmAtoms])) e.platform hpl
  obtain ⟨cellS, hcS', heS, -, hkeep⟩ := X.same.2.2.2.2.2 T.aS cellS0 hcS0
  have hcellS : W.heap[T.aS]? = some cellS := hcS'
  have hout' : ∀ i, (⟨T.aS, i⟩ : Loc) ∉ locs := fun i hmem => by
    have := hlocs _ hmem cellS0 hcS0
    rw [hiss] at this; cases this
  have hknownS : cellS.vm ≠ .unknown := by
    rw [heS]; intro hu
    rw [show cellS0.vm = .unknown from hu] at hiss
    cases hiss
  have hvU : cellS.slots[T.fUnassigned.slot]? = some u0.v := by rw [hkeep _ (hout' _)]; exact hu0
  have hvSen : cellS.slots[T.fSentinel.slot]? = some sen.v := by rw [hkeep _ (hout' _)]; exact hsen
  obtain ⟨iM, hffM⟩ := Y.msg
  obtain ⟨tyC, dC, hdC, hdnC⟩ := Cond.laysAt hfound hk Y.cause (a (.lays cls Bundle.tN "cause" "Ljava/lang/Throwable;") (by simp [Bundle.messageArmAtoms]))
  obtain ⟨tyS, dS, hdS, hdnS⟩ := Cond.laysAt hfound hk Y.stack (a (.lays cls Bundle.tN "stackTrace" Bundle.steD) (by simp [Bundle.messageArmAtoms]))
  obtain ⟨tyP, dP, hdP, hdnP⟩ := Cond.laysAt hfound hk Y.supp (a (.lays cls Bundle.tN "suppressedExceptions" Bundle.listD) (by simp [Bundle.messageArmAtoms]))
  obtain ⟨tyM, dM, hdM, hdnM⟩ := Cond.laysAt hfound hk hffM (a (.lays cls Bundle.tN "detailMessage" "Ljava/lang/String;") (by simp [Bundle.messageArmAtoms]))
  obtain ⟨tyB, dB, hdB, hdnB⟩ := Cond.laysAt hfound hk hffB (a (.lays cls Bundle.tN "backtrace" "Ljava/lang/Object;") (by simp [Bundle.messageArmAtoms]))
  have bC := Cond.laysApart hdB hdC hdnB hdnC (by rw [hnB, Y.causeName]; decide)
  have bS := Cond.laysApart hdB hdS hdnB hdnS (by rw [hnB, Y.stackName]; decide)
  have bP := Cond.laysApart hdB hdP hdnB hdnP (by rw [hnB, Y.suppName]; decide)
  have hbk : ((preparedCellV T.toThrowableT (freshCell P1.m.cls kX) (W.heap.size + 2) u0 sen).withEntry W.cur).slots[fB.slot]? = some .null := by
    have := fresh_default (c := P1.m.cls) tyB
    rw [htB] at this
    simpa [preparedCellV, Cell.setSlot, Cell.withEntry, Array.getElem?_setIfInBounds, bC, bS, bP, bC.symm, bS.symm, bP.symm, defaultValue] using this
  have tkC := Takes.of_laid (v := .ref (W.heap.size + 2)) hk hord tyC (by rw [Y.causeType]; rfl)
  have tkS := Takes.of_laid (v := u0.v) hk hord tyS (by rw [Y.stackType]; exact fits_refV_array _ u0)
  have tkP := Takes.of_laid (v := sen.v) hk hord tyP (by rw [Y.suppType]; exact fits_refV_object _ sen)
  have tkM := Takes.of_laid (v := .ref (W.heap.size + 1)) hk hord tyM (by rw [Y.msgType]; rfl)
  have hskip : SkipFacts T e.platform s (fun u => u) u0 ((preparedCellV T.toThrowableT (freshCell P1.m.cls kX) (W.heap.size + 2) u0 sen).withEntry W.cur) := ⟨{ ci198 := ci198, i198 := i198, fBack := fB }, ⟨hk198, hg198, ha198, hsB⟩, hbk, fun _ _ => rfl⟩
  have h0 : At W g.method c below := by rw [hg]; exact X.here
  obtain ⟨hbeyond, hfreeW⟩ := X.vmMayThrow hsize (.throwNew cls (some text) none) (fun f hf => by cases hf) rfl hRlocals
  have hfr' : W.frames.length + Ps.length + 4 < (e.platform.stackLimits W.me).1 := by have := X.framesAbove hRframes; omega
  have hwd' : (stackUse (.java g :: W.frames.tail)).2 + 13 * Ps.length + 55 ≤ (e.platform.stackLimits W.me).2 := by have := X.stackAbove hsize (K := 13 * Ps.length + 55) (by omega); omega
  have hslots : W.slotsUsed + (stringBytes (stringToUtf16 text)).size + Zs.kS.instanceTypes.size + kX.instanceTypes.size ≤ e.platform.maxSlots := by
    have := X.slotsAbove hRslots
    rw [hn4, hn6]
    omega
  obtain ⟨vm', hW', st⟩ := Steps.vmThrowsMessageColdByV p (s₀ := s) (S := W) (g := g) h0 hexec T L Z LZ M LM X.warmed (t := W.cur) rfl Zs LZs P1 L1 Ps hL hlink1 hlink hsoe hoom hfound hk hinit hord hctor
    (Launch.admits_hotImplicitExceptions X.admits) hbeyond hfreeW htext hlimit hheap (X.cellsAbove hRcells) hslots (hfitv _) (hfitc _)
    (Nn := fun u => u) heapOnly_id (fun _ _ => rfl) (fun _ => rfl) (fun u x y => setCell_twice _ _ _ _) (fun _ => Nat.le_refl _) (cN := ((preparedCellV T.toThrowableT (freshCell P1.m.cls kX) (W.heap.size + 2) u0 sen).withEntry W.cur))
    hsel0 hcellS hknownS hvU tkS (fun _ hu => hu) (fun _ hu => hu) rfl rfl rfl (by simp [preparedCellV, Cell.setSlot, Cell.withEntry]) hskip (fun _ _ hA hW _ hroom _ hrest => L.nativeOff p htr hA hW hroom hrest) hselF hvSen tkC tkP tkM Y.objLocals rfl hfr' hwd'
  rw [plainBareV_eq T.toThrowableT (W.heap.size + 2) u0 sen (.ref (W.heap.size + 1)) W.cur rfl rfl] at st
  obtain ⟨-, -, w3, w4, -, -, -⟩ := withThrown_facts e.platform W Zs text P1.m.cls kX
  have X3 := ((X.pushed (bytesOf Zs.cB (stringToUtf16 text))).pushed (stringAt Zs.cS Zs.kS Zs.fv Zs.fc (stringToUtf16 text) W.heap.size)).pushed (freshCell P1.m.cls kX)
  rw [← withString_eq] at X3
  have X4 := X3.noted hW'
  have ha : (W.heap.size + 2) < ((withThrown W Zs text P1.m.cls kX).setVm vm').heap.size := by show _ < (withThrown W Zs text P1.m.cls kX).heap.size; rw [w3]; omega
  have hcell : ((withThrown W Zs text P1.m.cls kX).setVm vm').heap[(W.heap.size + 2)]? = some (freshCell P1.m.cls kX) := w4
  have X5 := ((((X4.stored hcell T.fCause.slot (.ref (W.heap.size + 2))).storedAgain ha T.fStack.slot u0.v).storedAgain ha T.fSupp.slot sen.v).storedAgain ha T.fStack.slot u0.v).storedAgain ha T.fMsg.slot (.ref (W.heap.size + 1))
  obtain ⟨g₁, hfrM⟩ := X5.frames_eq
  have hU : ((((withThrown W Zs text P1.m.cls kX).setVm vm').setCell (W.heap.size + 2) (plainBareV T.toThrowableT (freshCell P1.m.cls kX) (W.heap.size + 2) u0 sen (.ref (W.heap.size + 1)))).setTop g).pushFrame (.throwing (W.heap.size + 2)) = (((withThrown W Zs text P1.m.cls kX).setVm vm').setCell (W.heap.size + 2) (plainBareV T.toThrowableT (freshCell P1.m.cls kX) (W.heap.size + 2) u0 sen (.ref (W.heap.size + 1)))).setFrames (.throwing (W.heap.size + 2) :: .java g :: below) := by
    rw [State.pushFrame, State.frames_setTop _ hfrM, State.setTop_of_frames _ hfrM, State.setFrames_setFrames]
  have b1 : (bytesOf Zs.cB (stringToUtf16 text)).slots.size = (stringBytes (stringToUtf16 text)).size := by
    rw [(Cell.writeAll_facts _ _).2.2]; simp [bytes0]
  have b2 : (stringAt Zs.cS Zs.kS Zs.fv Zs.fc (stringToUtf16 text) W.heap.size).slots.size = 4 := by simp [string0, Cell.setSlot, hn4]
  have b3 : (freshCell P1.m.cls kX).slots.size = 6 := by simp [hn6]
  rw [b1, b2, b3] at X5
  have e9 : slots + (stringBytes (stringToUtf16 text)).size + 4 + 6 = slots + ((stringBytes (stringToUtf16 text)).size + 4 + 6) := by omega
  rw [e9] at X5
  simp only [List.append_assoc, List.cons_append, List.nil_append] at X5
  refine ⟨((withThrown W Zs text P1.m.cls kX).setVm vm').setCell (W.heap.size + 2) (plainBareV T.toThrowableT (freshCell P1.m.cls kX) (W.heap.size + 2) u0 sen (.ref (W.heap.size + 1))), W.heap.size + 2, _, fun target ht => st _ (by rw [X.tail, ← hU]; exact ht),
    X5.forget (fun y hy => ?_), heapAt_setCell_self _ ha, hfound, rfl⟩
  simp only [List.mem_cons, List.not_mem_nil, or_false] at hy
  have hge : s.heap.size ≤ W.heap.size := X.same.2.1
  rcases hy with rfl | rfl | rfl | rfl | rfl <;> exact Nat.le_trans hge (Nat.le_add_right _ 2)
set_option maxHeartbeats 1000000 in
/-- the machine throws NullPointerException, no traces kept: from its note over the frame g to 'throwing' over the same frame (follows the proof of Stand.vmThrowsNpe, Shelf42/KT2.lean; throwsNpeColdBareVAt, Shelf42/NT91.lean, called) -/
theorem vx_npeAt {p : Program} {l : Launch} {e : Env} {R : Room} {s : State} {m₀ : MethodId} {args : Array Value} {below : List Frame} {meth : Method} {c : Code} {W : State} {locs : List Loc} {cells slots : Nat}
    (X : Stand p l e R s m₀ args below meth c W locs cells slots) (hexec : p.tables.exec = Jvm.exec) (htr : e.platform.stackTraces = false) {n : Nat}
    (h : ∀ a ∈ Bundle.npeArmAtoms n, a.before args s = true)
    (hlocs : ∀ x ∈ locs, ∀ cell, s.heap[x.base]? = some cell → cell.vm.isStatics = false)
    {g : JFrame} (hg : g.method = m₀) (hsize : g.locals.size = c.maxLocals)
    (hRframes : 7 < R.frames) (hRlocals : 2 * g.monitorRoom + (g.stack.map fun v => v.category).sum + 10240 ≤ R.locals)
    (hRcells : cells + 1 ≤ R.cells) (hRslots : slots + n ≤ R.slots) (hlocks : meth.locks = false) :
    ∃ (S : State) (q : Addr) (ce : Cell), (∀ target, Steps p.tables e below ((S.setTop g).pushFrame (.throwing q)) target → Steps p.tables e below ((W.setTop g).pushFrame (.throwNew "java/lang/NullPointerException" none none)) target) ∧
      Stand p l e R s m₀ args below meth c S locs (cells + 1) (slots + n) ∧ S.heap[q]? = some ce ∧ s.vm.findClass "java/lang/NullPointerException" = some ce.cls ∧ ce.vm = .none := by
  have howns : e.platform.frameOwnsMonitors = true := by rw [X.admits.platform]
  have hfin : e.platform.finalization = false := by rw [X.admits.platform]
  have hpl : e.platform.magicAccessors = ({} : Platform).magicAccessors := by rw [X.admits.platform]
  have hpl2 : e.platform.arrayCloneIsPublic = true := by rw [X.admits.platform]
  have a' : ∀ x, x ∈ Bundle.npeArmAtoms n → x.holds args s none s [] = true := fun x hx => h x hx
  obtain ⟨T, Z, L, LZ, Y⟩ := ThrowableC.of_atoms (args := args) howns hfin hpl (fun x hx => h x (by simp [Bundle.npeArmAtoms, hx]))
  obtain ⟨N, LN, hcN, hnNF, hordN, hffS⟩ := NpeC.of_atoms (args := args) hpl hpl2 L Y (fun x hx => h x (by simp [Bundle.npeArmAtoms, hx]))
  obtain ⟨P1, L1, hP1m, hP1s⟩ := PassC.of_atoms (args := args) (s := s) hpl (X := Bundle.nN) (Y := Bundle.rN) (by decide) (by decide) LibCode.NullPointerException.Init0.at_0 LibCode.NullPointerException.Init0.at_1 LibCode.NullPointerException.Init0.at_4 (fun x hx => h x (by simp [Bundle.npeArmAtoms, hx]))
  obtain ⟨PR, LR, hPRm, hPRs⟩ := PassC.of_atoms (args := args) (s := s) hpl (X := Bundle.rN) (Y := Bundle.eN) (by decide) (by decide) LibCode.RuntimeException.Init0.at_0 LibCode.RuntimeException.Init0.at_1 LibCode.RuntimeException.Init0.at_4 (fun x hx => h x (by simp [Bundle.npeArmAtoms, hx]))
  obtain ⟨PE, LEx, hPEm, hPEs⟩ := PassC.of_atoms (args := args) (s := s) hpl (X := Bundle.eN) (Y := Bundle.tN) (by decide) (by decide) LibCode.Exception.Init0.at_0 LibCode.Exception.Init0.at_1 LibCode.Exception.Init0.at_4 (fun x hx => h x (by simp [Bundle.npeArmAtoms, hx]))
  have hfound : s.vm.findClass Bundle.nN = some P1.m.cls := findClass_of_methodNamed hP1m
  have ecls : N.cN = P1.m.cls := Option.some.inj (hcN.symm.trans hfound)
  have hk : s.vm.classes[P1.m.cls]? = some N.kN := by rw [← ecls]; exact LN.cls
  have hinit := Cond.initialized_spec hfound hk (a' (.initialized Bundle.nN) (by simp [Bundle.npeArmAtoms]))
  have hctor : N.kN.findMethod "<init>" "()V" = some P1.m.idx := findMethod_of_methodNamed hP1m hk
  obtain ⟨c1, k1, hc1, hk1, -, -, -, hn⟩ := Cond.instantiable_spec (a' (.instantiable Bundle.nN n) (by simp [Bundle.npeArmAtoms]))
  cases Option.some.inj (hc1.symm.trans hfound)
  cases Option.some.inj (hk1.symm.trans hk)
  have hfsz : (freshCell P1.m.cls N.kN).slots.size = n := by simp [hn]
  have hlink1 : P1.sup = PR.m := Option.some.inj (hP1s.symm.trans hPRm)
  have hlinkR : PR.sup = PE.m := Option.some.inj (hPRs.symm.trans hPEm)
  have hlinkE : PE.sup = Z.m T.toThrowableT := Option.some.inj (hPEs.symm.trans Y.init0)
  have hLs : ∀ P, P ∈ [PR, PE] → P.Links0 e.platform s := fun P hP => by
    simp only [List.mem_cons, List.not_mem_nil, or_false] at hP
    rcases hP with rfl | rfl
    · exact LR
    · exact LEx
  have hsel0 : selectMethod e.platform s.vm P1.m.cls T.fill0 = .method T.fill0 := by
    obtain ⟨c2, r2, m2, q1, q2, q3, q4, -⟩ := Cond.selects_spec (a' (.selects Bundle.nN Bundle.tFill0 Bundle.tFill0) (by simp [Bundle.npeArmAtoms]))
    cases Option.some.inj (q1.symm.trans hfound)
    cases Option.some.inj (q2.symm.trans (State.methodFound?_of_named Y.fill0 (by decide)))
    cases Option.some.inj (q3.symm.trans Y.fill0)
    rw [Launch.admits_selectMethod X.admits]; exact q4
  have hselF : selectMethod e.platform s.vm P1.m.cls T.fill = .method N.fill := by
    obtain ⟨c2, r2, m2, q1, q2, q3, q4, -⟩ := Cond.selects_spec (a' (.selects Bundle.nN Bundle.tFill Bundle.nFill) (by simp [Bundle.npeArmAtoms]))
    cases Option.some.inj (q1.symm.trans hfound)
    cases Option.some.inj (q2.symm.trans (State.methodFound?_of_named Y.fill (by decide)))
    cases Option.some.inj (q3.symm.trans hnNF)
    rw [Launch.admits_selectMethod X.admits]; exact q4
  obtain ⟨cellS0, hcS0, hiss⟩ := Y.statics
  obtain ⟨u0, hu0⟩ := Cond.staticRefV Y.unassigned L.unassignedStatic L.statics hcS0 hiss (a' (.isRef (.static Bundle.tN "UNASSIGNED_STACK" Bundle.steD)) (by simp [Bundle.npeArmAtoms]))
  obtain ⟨sen, hsen⟩ := Cond.staticRefV Y.sentinel L.sentinelStatic L.statics hcS0 hiss (a' (.isRef (.static Bundle.tN "SUPPRESSED_SENTINEL" Bundle.listD)) (by simp [Bundle.npeArmAtoms]))
  obtain ⟨ci198, i198, fB, hk198, hg198, ha198, hsB, -, hnB, htB, hffB⟩ := Cond.ownField (t := .object "java/lang/Object") Y.found L.cls (by decide +kernel) (a' (.fieldLink Bundle.tN 198 Bundle.tN "backtrace" Bundle.objD) (by simp [Bundle.npeArmAtoms])) (a' (.lays Bundle.tN Bundle.tN "backtrace" Bundle.objD) (by simp [Bundle.npeArmAtoms])) e.platform hpl
  obtain ⟨cellS, hcS', heS, -, hkeep⟩ := X.same.2.2.2.2.2 T.aS cellS0 hcS0
  have hcellS : W.heap[T.aS]? = some cellS := hcS'
  have hout' : ∀ i, (⟨T.aS, i⟩ : Loc) ∉ locs := fun i hmem => by
    have := hlocs _ hmem cellS0 hcS0
    rw [hiss] at this; cases this
  have hknownS : cellS.vm ≠ .unknown := by
    rw [heS]; intro hu
    rw [show cellS0.vm = .unknown from hu] at hiss
    cases hiss
  have hvU : cellS.slots[T.fUnassigned.slot]? = some u0.v := by rw [hkeep _ (hout' _)]; exact hu0
  have hvSen : cellS.slots[T.fSentinel.slot]? = some sen.v := by rw [hkeep _ (hout' _)]; exact hsen
  obtain ⟨tyC, dC, hdC, hdnC⟩ := Cond.laysAt hfound hk Y.cause (a' (.lays Bundle.nN Bundle.tN "cause" "Ljava/lang/Throwable;") (by simp [Bundle.npeArmAtoms]))
  obtain ⟨tyS, dS, hdS, hdnS⟩ := Cond.laysAt hfound hk Y.stack (a' (.lays Bundle.nN Bundle.tN "stackTrace" Bundle.steD) (by simp [Bundle.npeArmAtoms]))
  obtain ⟨tyP, dP, hdP, hdnP⟩ := Cond.laysAt hfound hk Y.supp (a' (.lays Bundle.nN Bundle.tN "suppressedExceptions" Bundle.listD) (by simp [Bundle.npeArmAtoms]))
  obtain ⟨tyX, dX, hdX, hdnX⟩ := Cond.laysAt hfound hk hffS (a' (.lays Bundle.nN Bundle.nN "extendedMessageState" "I") (by simp [Bundle.npeArmAtoms, Bundle.npeAtoms]))
  obtain ⟨hnX, htX⟩ := State.fieldFound?_type hffS (t := .int) (by decide +kernel)
  have xC := Cond.laysApart hdC hdX hdnC hdnX (by rw [hnX, Y.causeName]; decide)
  have xS := Cond.laysApart hdS hdX hdnS hdnX (by rw [hnX, Y.stackName]; decide)
  have xP := Cond.laysApart hdP hdX hdnP hdnX (by rw [hnX, Y.suppName]; decide)
  have hv0 : (freshCell P1.m.cls N.kN).slots[N.fState.slot]? = some (.int 0) := by
    have := fresh_default (c := P1.m.cls) tyX
    rw [htX] at this; exact this
  obtain ⟨tyB, dB, hdB, hdnB⟩ := Cond.laysAt hfound hk hffB (a' (.lays Bundle.nN Bundle.tN "backtrace" Bundle.objD) (by simp [Bundle.npeArmAtoms]))
  have bC := Cond.laysApart hdB hdC hdnB hdnC (by rw [hnB, Y.causeName]; decide)
  have bS := Cond.laysApart hdB hdS hdnB hdnS (by rw [hnB, Y.stackName]; decide)
  have bP := Cond.laysApart hdB hdP hdnB hdnP (by rw [hnB, Y.suppName]; decide)
  have bX := Cond.laysApart hdB hdX hdnB hdnX (by rw [hnB, hnX]; decide)
  have hbk : ((npeCell N.toNpeT (preparedCellV T.toThrowableT (freshCell P1.m.cls N.kN) W.heap.size u0 sen) W.cur).withEntry W.cur).slots[fB.slot]? = some .null := by
    have := fresh_default (c := P1.m.cls) tyB
    rw [htB] at this
    simpa [npeCell, preparedCellV, Cell.setSlot, Cell.withEntry, Array.getElem?_setIfInBounds, bC, bS, bP, bX, bC.symm, bS.symm, bP.symm, bX.symm, defaultValue] using this
  have tkC := Takes.of_laid (v := .ref W.heap.size) hk hordN tyC (by rw [Y.causeType]; rfl)
  have tkS := Takes.of_laid (v := u0.v) hk hordN tyS (by rw [Y.stackType]; exact fits_refV_array _ u0)
  have tkP := Takes.of_laid (v := sen.v) hk hordN tyP (by rw [Y.suppType]; exact fits_refV_object _ sen)
  have tkX := Takes.of_laid (v := .int 1) hk hordN tyX (by rw [htX]; rfl)
  have hskip : SkipFacts T e.platform s (fun u => u) u0 ((npeCell N.toNpeT (preparedCellV T.toThrowableT (freshCell P1.m.cls N.kN) W.heap.size u0 sen) W.cur).withEntry W.cur) := ⟨{ ci198 := ci198, i198 := i198, fBack := fB }, ⟨hk198, hg198, ha198, hsB⟩, hbk, fun _ _ => rfl⟩
  obtain ⟨vm', X3, st, -⟩ := X.throwsNpeColdBareVAt hexec hg hsize T L Z LZ N LN P1 L1 [PR, PE] hLs hlink1 ⟨hlinkR, hlinkE, trivial⟩ hfound hk hinit hordN hctor hsel0 hselF hcellS hknownS hvU hvSen
    hv0 xC xS xP tkC tkS tkP tkX Y.objLocals hskip (fun _ _ hA hW _ hroom _ hrest => L.nativeOff p htr hA hW hroom hrest) (by simpa using hRframes) hRlocals (by simp) hRcells (by rw [hn]; exact hRslots)
  have hlt : W.heap.size < ((W.pushCell (freshCell P1.m.cls N.kN)).setVm vm').heap.size := by
    show W.heap.size < (W.pushCell (freshCell P1.m.cls N.kN)).heap.size
    rw [State.heap_size_pushCell]; omega
  rw [hfsz] at X3
  obtain ⟨g₁, hfrM⟩ := X3.frames_eq
  have hU : ((((W.pushCell (freshCell P1.m.cls N.kN)).setVm vm').setCell W.heap.size (npeBareV T.toThrowableT N.toNpeT (freshCell P1.m.cls N.kN) W.heap.size u0 sen)).setTop g).pushFrame (.throwing W.heap.size) = (((W.pushCell (freshCell P1.m.cls N.kN)).setVm vm').setCell W.heap.size (npeBareV T.toThrowableT N.toNpeT (freshCell P1.m.cls N.kN) W.heap.size u0 sen)).setFrames (.throwing W.heap.size :: .java g :: below) := by
    rw [State.pushFrame, State.frames_setTop _ hfrM, State.setTop_of_frames _ hfrM, State.setFrames_setFrames]
  refine ⟨_, W.heap.size, _, fun target ht => st.trans (by rw [← hU]; exact ht), X3.forget (fun y hy => ?_), heapAt_setCell_self _ hlt, hfound, rfl⟩
  simp only [List.mem_cons, List.not_mem_nil, or_false] at hy
  have hge : s.heap.size ≤ W.heap.size := X.same.2.1
  rcases hy with rfl | rfl | rfl | rfl | rfl <;> exact hge
/-- the words of a machine's NullPointerException, but the four that speak of the heap -/
def vx_atN (n : Nat) : List Cond := (Bundle.npeArmAtoms n).filter vx_no
/-- the words of a machine's throw with a message, but the four that speak of the heap -/
def vx_atM (X : String) (names : List String) : List Cond := (Bundle.messageArmAtoms X names).filter vx_no
section
variable {p : Program} {l : Launch} {e : Env} {R : Room} {s : State} {m : MethodId} {args : Array Value} {below : List Frame} {meth : Method} {c : Code} {H : Heap} {locs : List Loc} {cells slots : Nat}
/-- a frame seen from a rebased start, seen from the first start again -/
theorem vx_back9 {T S : State} {R' : Room} {k n : Nat} (X : Stand p l e R s m args below meth c T locs cells slots) (Y : Stand p l e R' ((T.setVm s.vm).setFrames (.invoking m args :: below)) m args below meth c T [] 0 0) (Z : Stand p l e R' ((T.setVm s.vm).setFrames (.invoking m args :: below)) m args below meth c S [] k n) :
    Stand p l e R s m args below meth c S locs (cells + k) (slots + n) := by
  have hW0 : s.WarmedH ((T.setVm s.vm).setFrames (.invoking m args :: below)).vm := State.WarmedH.refl s
  refine { admits := X.admits, cas := X.cas, clock := X.clock, frames := X.frames, room := X.room, hears := X.hears, method := X.method, code := X.code, here := Z.here, tail := Z.tail, warmed := State.WarmedH.trans hW0 Z.warmed, limits := Z.limits.trans (Y.limits.symm.trans X.limits), bytes := Z.bytes.trans (Y.bytes.symm.trans X.bytes), same := ?_ }
  obtain ⟨e1, e2⟩ := Z.same
  rw [State.setFrames_setFrames] at e1
  have h2 : (T.setVm s.vm).sameButNew (S.setVm s.vm) [] k n := ⟨e1, e2⟩
  have h3 := X.same.trans h2
  rw [List.append_nil] at h3
  exact h3
/-- from the machine's note that E is thrown here with this text -/
def vx_Note (p : Program) (l : Launch) (e : Env) (R : Room) (s : State) (m : MethodId) (args : Array Value) (below : List Frame) (meth : Method) (c : Code) (H : Heap) (locs : List Loc) (cells slots : Nat) (Q : State → Prop) (g : JFrame) (E text : String) : Prop :=
  ∀ T : State, T.heap = H → Stand p l e R s m args below meth c T locs cells slots → ∃ t, Steps p.tables e below ((T.setTop g).pushFrame (.throwNew E (some text) none)) t ∧ Q t
theorem vx_vm {pc : Nat} {ls : Array Slot} {rest : List Value} {Q : State → Prop} (hexec : p.tables.exec = Jvm.exec) (hl : l.stackTraces = false) {cls text : String} {names : List String} {nb : Nat} {A : Nat → Prop}
    (hcls : Bundle.fit cls = true) (hnames : ∀ n ∈ names, Bundle.fit n = true) (hsoe : (cls == "java/lang/StackOverflowError") = false) (hoom : (cls == "java/lang/OutOfMemoryError") = false)
    (hat : ∀ w ∈ vx_atM cls names, w.before args s = true) (hgood : ∀ w ∈ vx_atM cls names, vx_ot w = true)
    (hU : vx_Zq Bundle.tN "UNASSIGNED_STACK" Bundle.steD A s s.heap) (hN : vx_Zq Bundle.tN "SUPPRESSED_SENTINEL" Bundle.listD A s s.heap) (hS : va_S A s.heap H locs) (hsize : ls.size = c.maxLocals)
    (htext : (text == notModelled) = false) (hnb : (stringBytes (stringToUtf16 text)).size ≤ nb) (hnb1 : nb ≤ 1000)
    (hRframes : names.length + 4 < R.frames) (hRlocals : (rest.map fun v => v.category).sum + 10240 ≤ R.locals) (hshort : 13 * names.length + 55 ≤ 10240) (hRcells : cells + 3 ≤ R.cells) (hRslots : slots + (nb + 10) ≤ R.slots) (hlocks : meth.locks = false)
    (k : ∀ (H1 : Heap) (q9 : Addr) (ce : Cell), H.size ≤ H1.size → (∀ q : Nat, q < H.size → H1[q]? = H[q]?) → va_S A s.heap H1 locs → H1[q9]? = some ce → ce.vm = .none → s.vm.findClass cls = some ce.cls → vx_W p l e R s m args below meth c H1 locs (cells + 3) (slots + (nb + 10)) Q (F0 m pc ls rest) q9) :
    vx_Note p l e R s m args below meth c H locs cells slots Q (F0 m pc ls rest) cls text := by
  intro T hT X
  have htr : e.platform.stackTraces = false := (show e.platform.stackTraces = l.stackTraces by rw [X.admits.platform]).trans hl
  have Y := vx_rebase X (R' := { frames := R.frames, locals := R.locals, cells := 3, slots := nb + 10 }) (Nat.le_refl _) (Nat.le_refl _) hRcells hRslots
  have hhp : ((T.setVm s.vm).setFrames (.invoking m args :: below)).heap = H := hT
  have hW0 : s.WarmedH ((T.setVm s.vm).setFrames (.invoking m args :: below)).vm := State.WarmedH.refl s
  have hat' : ∀ w ∈ vx_atM cls names, w.before args ((T.setVm s.vm).setFrames (.invoking m args :: below)) = true := fun w hw => vx_ot_at hW0 rfl (hgood w hw) (hat w hw)
  have hU' : vx_Zq Bundle.tN "UNASSIGNED_STACK" Bundle.steD A ((T.setVm s.vm).setFrames (.invoking m args :: below)) ((T.setVm s.vm).setFrames (.invoking m args :: below)).heap := by rw [hhp]; exact vx_Zq.moved hW0.alike (hU.kept hS.2.1)
  have hN' : vx_Zq Bundle.tN "SUPPRESSED_SENTINEL" Bundle.listD A ((T.setVm s.vm).setFrames (.invoking m args :: below)) ((T.setVm s.vm).setFrames (.invoking m args :: below)).heap := by rw [hhp]; exact vx_Zq.moved hW0.alike (hN.kept hS.2.1)
  obtain ⟨S, q, ce, st, Z, hce, hcl', hv⟩ := vx_vmAt Y hexec htr (cls := cls) (names := names) (text := text) hcls hnames hsoe hoom (vx_own hat' (vx_isRefq hU'.1) (vx_isRefq hN'.1) hU'.2.word hN'.2.word) (fun x hx => nomatch hx) htext
    (by rw [Launch.admits_arrayLengthLimit X.admits]; omega) (by rw [Launch.admits_maxHeapBytes X.admits]; simp only [componentBytes]; omega)
    (g := F0 m pc ls rest) rfl hsize hRframes (by show 2 * 0 + (rest.map fun v => v.category).sum + 10240 ≤ R.locals; omega) hshort (by show 0 + 3 ≤ 3; omega) (by show 0 + (_ + 4 + 6) ≤ nb + 10; omega) hlocks
  obtain ⟨f1, f2⟩ := vx_frame Z.same
  have f1' : H.size ≤ S.heap.size := by rw [← hT]; exact f1
  have f2' : ∀ q : Nat, q < H.size → S.heap[q]? = H[q]? := fun q hq => by
    rw [← hT]
    exact f2 q (by rw [← hT] at hq; exact hq) (fun z hz => nomatch hz)
  have X5 := vx_back9 X Y Z
  have X6 : Stand p l e R s m args below meth c S locs (cells + 3) (slots + (nb + 10)) := { X5 with same := X5.same.mono (by omega) (by omega) }
  obtain ⟨t, a1, b1⟩ := k S.heap q ce f1' f2' ⟨Nat.le_trans hS.1 f1', fun q h1 h2 => (f2' q (Nat.lt_of_lt_of_le h1 hS.1)).trans (hS.2.1 q h1 h2), hS.2.2⟩ hce hv hcl' S rfl X6
  exact ⟨t, st t a1, b1⟩
/-- from the machine's note that NullPointerException is thrown here -/
def vx_NoteN (p : Program) (l : Launch) (e : Env) (R : Room) (s : State) (m : MethodId) (args : Array Value) (below : List Frame) (meth : Method) (c : Code) (H : Heap) (locs : List Loc) (cells slots : Nat) (Q : State → Prop) (g : JFrame) : Prop :=
  ∀ T : State, T.heap = H → Stand p l e R s m args below meth c T locs cells slots → ∃ t, Steps p.tables e below ((T.setTop g).pushFrame (.throwNew "java/lang/NullPointerException" none none)) t ∧ Q t
theorem vx_npe {pc : Nat} {ls : Array Slot} {rest : List Value} {Q : State → Prop} (hexec : p.tables.exec = Jvm.exec) (hl : l.stackTraces = false) {nb : Nat} {A : Nat → Prop}
    (hat : ∀ w ∈ vx_atN nb, w.before args s = true) (hgood : ∀ w ∈ vx_atN nb, vx_ot w = true)
    (hU : vx_Zq Bundle.tN "UNASSIGNED_STACK" Bundle.steD A s s.heap) (hN : vx_Zq Bundle.tN "SUPPRESSED_SENTINEL" Bundle.listD A s s.heap) (hS : va_S A s.heap H locs) (hsize : ls.size = c.maxLocals)
    (hRframes : 7 < R.frames) (hRlocals : (rest.map fun v => v.category).sum + 10240 ≤ R.locals) (hRcells : cells + 1 ≤ R.cells) (hRslots : slots + nb ≤ R.slots) (hlocks : meth.locks = false)
    (k : ∀ (H1 : Heap) (q9 : Addr) (ce : Cell), H.size ≤ H1.size → (∀ q : Nat, q < H.size → H1[q]? = H[q]?) → va_S A s.heap H1 locs → H1[q9]? = some ce → ce.vm = .none → s.vm.findClass "java/lang/NullPointerException" = some ce.cls → vx_W p l e R s m args below meth c H1 locs (cells + 1) (slots + nb) Q (F0 m pc ls rest) q9) :
    vx_NoteN p l e R s m args below meth c H locs cells slots Q (F0 m pc ls rest) := by
  intro T hT X
  have htr : e.platform.stackTraces = false := (show e.platform.stackTraces = l.stackTraces by rw [X.admits.platform]).trans hl
  have Y := vx_rebase X (R' := { frames := R.frames, locals := R.locals, cells := 1, slots := nb }) (Nat.le_refl _) (Nat.le_refl _) hRcells hRslots
  have hhp : ((T.setVm s.vm).setFrames (.invoking m args :: below)).heap = H := hT
  have hW0 : s.WarmedH ((T.setVm s.vm).setFrames (.invoking m args :: below)).vm := State.WarmedH.refl s
  have hat' : ∀ w ∈ vx_atN nb, w.before args ((T.setVm s.vm).setFrames (.invoking m args :: below)) = true := fun w hw => vx_ot_at hW0 rfl (hgood w hw) (hat w hw)
  have hU' : vx_Zq Bundle.tN "UNASSIGNED_STACK" Bundle.steD A ((T.setVm s.vm).setFrames (.invoking m args :: below)) ((T.setVm s.vm).setFrames (.invoking m args :: below)).heap := by rw [hhp]; exact vx_Zq.moved hW0.alike (hU.kept hS.2.1)
  have hN' : vx_Zq Bundle.tN "SUPPRESSED_SENTINEL" Bundle.listD A ((T.setVm s.vm).setFrames (.invoking m args :: below)) ((T.setVm s.vm).setFrames (.invoking m args :: below)).heap := by rw [hhp]; exact vx_Zq.moved hW0.alike (hN.kept hS.2.1)
  obtain ⟨S, q, ce, st, Z, hce, hcl', hv⟩ := vx_npeAt Y hexec htr (n := nb) (vx_own hat' (vx_isRefq hU'.1) (vx_isRefq hN'.1) hU'.2.word hN'.2.word) (fun x hx => nomatch hx)
    (g := F0 m pc ls rest) rfl hsize hRframes (by show 2 * 0 + (rest.map fun v => v.category).sum + 10240 ≤ R.locals; omega) (by show 0 + 1 ≤ 1; omega) (by show 0 + nb ≤ nb; omega) hlocks
  obtain ⟨f1, f2⟩ := vx_frame Z.same
  have f1' : H.size ≤ S.heap.size := by rw [← hT]; exact f1
  have f2' : ∀ q : Nat, q < H.size → S.heap[q]? = H[q]? := fun q hq => by
    rw [← hT]
    exact f2 q (by rw [← hT] at hq; exact hq) (fun z hz => nomatch hz)
  have X5 := vx_back9 X Y Z
  have X6 : Stand p l e R s m args below meth c S locs (cells + 1) (slots + nb) := { X5 with same := X5.same.mono (by omega) (by omega) }
  obtain ⟨t, a1, b1⟩ := k S.heap q ce f1' f2' ⟨Nat.le_trans hS.1 f1', fun q h1 h2 => (f2' q (Nat.lt_of_lt_of_le h1 hS.1)).trans (hS.2.1 q h1 h2), hS.2.2⟩ hce hv hcl' S rfl X6
  exact ⟨t, st t a1, b1⟩
variable {Q : State → Prop} {cc : ByteArray} {pc : Nat} {ls : Array Slot} {rest : List Value}
theorem vx_idivZ (hexec : p.tables.exec = Jvm.exec) (hb : c.code = cc) {a b : Int32} (h0 : b = 0) (d : decode cc pc = .ok (.idiv, 1)) (k : vx_Note p l e R s m args below meth c H locs cells slots Q (F0 m pc ls rest) "java/lang/ArithmeticException" "/ by zero") :
    W p l e R s m args below meth c H locs cells slots Q (F0 m pc ls (.int b :: .int a :: rest)) := by
  intro T hT X
  obtain ⟨t, st, q⟩ := k T hT X
  exact ⟨t, X.idivZero hexec (g := F0 m pc ls (.int b :: .int a :: rest)) rfl (a := a) (rest := rest) (by rw [h0]) (by rw [hb]; exact d) t st, q⟩
theorem vx_iremZ (hexec : p.tables.exec = Jvm.exec) (hb : c.code = cc) {a b : Int32} (h0 : b = 0) (d : decode cc pc = .ok (.irem, 1)) (k : vx_Note p l e R s m args below meth c H locs cells slots Q (F0 m pc ls rest) "java/lang/ArithmeticException" "/ by zero") :
    W p l e R s m args below meth c H locs cells slots Q (F0 m pc ls (.int b :: .int a :: rest)) := by
  intro T hT X
  obtain ⟨t, st, q⟩ := k T hT X
  exact ⟨t, X.iremZero hexec (g := F0 m pc ls (.int b :: .int a :: rest)) rfl (a := a) (rest := rest) (by rw [h0]) (by rw [hb]; exact d) t st, q⟩
theorem vx_ldivZ (hexec : p.tables.exec = Jvm.exec) (hb : c.code = cc) {a b : Int64} (h0 : b = 0) (d : decode cc pc = .ok (.ldiv, 1)) (k : vx_Note p l e R s m args below meth c H locs cells slots Q (F0 m pc ls rest) "java/lang/ArithmeticException" "/ by zero") :
    W p l e R s m args below meth c H locs cells slots Q (F0 m pc ls (.long b :: .long a :: rest)) := by
  intro T hT X
  obtain ⟨t, st, q⟩ := k T hT X
  exact ⟨t, X.ldivZero hexec (g := F0 m pc ls (.long b :: .long a :: rest)) rfl (a := a) (rest := rest) (by rw [h0]) (by rw [hb]; exact d) t st, q⟩
theorem vx_lremZ (hexec : p.tables.exec = Jvm.exec) (hb : c.code = cc) {a b : Int64} (h0 : b = 0) (d : decode cc pc = .ok (.lrem, 1)) (k : vx_Note p l e R s m args below meth c H locs cells slots Q (F0 m pc ls rest) "java/lang/ArithmeticException" "/ by zero") :
    W p l e R s m args below meth c H locs cells slots Q (F0 m pc ls (.long b :: .long a :: rest)) := by
  intro T hT X
  obtain ⟨t, st, q⟩ := k T hT X
  exact ⟨t, X.lremZero hexec (g := F0 m pc ls (.long b :: .long a :: rest)) rfl (a := a) (rest := rest) (by rw [h0]) (by rw [hb]; exact d) t st, q⟩
theorem vx_ialdZ {D : va_G} {cl : List vw_C} {ws : va_W} {tys : List (ClassId × FieldType)} {a : Nat} (hexec : p.tables.exec = Jvm.exec) (hb : c.code = cc) (hK : va_K D cl tys s) (hP : va_P D cl ws H) (q0 t0 : Nat) {cA : ClassId} {n : Nat} {f : Nat → Int32} (ha : ws[q0]? = some (a, .inl (cA, n, .inl f))) (ht : tys[t0]? = some (cA, .int)) {i : Int32} (hout : ¬ vp_in i n) (hdg : decode cc pc = .ok (.iaload, 1))
    (k : ∀ tx : String, tx = (toString "Index " ++ toString i ++ toString " out of bounds for length " ++ toString n : String) → vx_Note p l e R s m args below meth c H locs cells slots Q (F0 m pc ls rest) "java/lang/ArrayIndexOutOfBoundsException" tx) : W p l e R s m args below meth c H locs cells slots Q (F0 m pc ls (.int i :: .ref a :: rest)) := by
  intro T hT X
  obtain ⟨t, st, q⟩ := k _ rfl T hT X
  refine ⟨t, ?_, q⟩
  have h1 := X.ialoadOut hexec (by rw [hT]; exact hP q0 _ ha) ((hK.2 t0 _ ht).1 n (fun j => .int (f j))) (j := i) (by show (i < 0 ∨ (arrV _ _ _).slots.size ≤ _); rw [arrV_size]; exact Classical.byContradiction hout) (g := F0 m pc ls (.int i :: .ref a :: rest)) rfl (rest := rest) rfl (by rw [hb]; exact hdg) t
  simp only [arrV_size] at h1
  exact h1 st
theorem vx_iastZ {D : va_G} {cl : List vw_C} {ws : va_W} {tys : List (ClassId × FieldType)} {a : Nat} (hexec : p.tables.exec = Jvm.exec) (hb : c.code = cc) (hK : va_K D cl tys s) (hP : va_P D cl ws H) (q0 t0 : Nat) {cA : ClassId} {n : Nat} {f : Nat → Int32} (ha : ws[q0]? = some (a, .inl (cA, n, .inl f))) (ht : tys[t0]? = some (cA, .int)) {i : Int32} {x : Int32} (hout : ¬ vp_in i n) (hdg : decode cc pc = .ok (.iastore, 1))
    (k : ∀ tx : String, tx = (toString "Index " ++ toString i ++ toString " out of bounds for length " ++ toString n : String) → vx_Note p l e R s m args below meth c H locs cells slots Q (F0 m pc ls rest) "java/lang/ArrayIndexOutOfBoundsException" tx) : W p l e R s m args below meth c H locs cells slots Q (F0 m pc ls (.int x :: .int i :: .ref a :: rest)) := by
  intro T hT X
  obtain ⟨t, st, q⟩ := k _ rfl T hT X
  refine ⟨t, ?_, q⟩
  have h1 := X.iastoreOut hexec (by rw [hT]; exact hP q0 _ ha) ((hK.2 t0 _ ht).1 n (fun j => .int (f j))) (j := i) (by show (i < 0 ∨ (arrV _ _ _).slots.size ≤ _); rw [arrV_size]; exact Classical.byContradiction hout) (g := F0 m pc ls (.int x :: .int i :: .ref a :: rest)) rfl (rest := rest) rfl (by rw [hb]; exact hdg) t
  simp only [arrV_size] at h1
  exact h1 st
theorem vx_baldZ {D : va_G} {cl : List vw_C} {ws : va_W} {tys : List (ClassId × FieldType)} {a : Nat} (hexec : p.tables.exec = Jvm.exec) (hb : c.code = cc) (hK : va_K D cl tys s) (hP : va_P D cl ws H) (q0 t0 : Nat) {cA : ClassId} {n : Nat} {f : Nat → Int32} (ha : ws[q0]? = some (a, .inl (cA, n, .inl f))) (ht : tys[t0]? = some (cA, .byte)) {i : Int32} (hout : ¬ vp_in i n) (hdg : decode cc pc = .ok (.baload, 1))
    (k : ∀ tx : String, tx = (toString "Index " ++ toString i ++ toString " out of bounds for length " ++ toString n : String) → vx_Note p l e R s m args below meth c H locs cells slots Q (F0 m pc ls rest) "java/lang/ArrayIndexOutOfBoundsException" tx) : W p l e R s m args below meth c H locs cells slots Q (F0 m pc ls (.int i :: .ref a :: rest)) := by
  intro T hT X
  obtain ⟨t, st, q⟩ := k _ rfl T hT X
  refine ⟨t, ?_, q⟩
  have h1 := X.baloadOut hexec (by rw [hT]; exact hP q0 _ ha) ((hK.2 t0 _ ht).1 n (fun j => .int (f j))) (j := i) (by show (i < 0 ∨ (arrV _ _ _).slots.size ≤ _); rw [arrV_size]; exact Classical.byContradiction hout) (g := F0 m pc ls (.int i :: .ref a :: rest)) rfl (rest := rest) rfl (by rw [hb]; exact hdg) t
  simp only [arrV_size] at h1
  exact h1 st
theorem vx_bastZ {D : va_G} {cl : List vw_C} {ws : va_W} {tys : List (ClassId × FieldType)} {a : Nat} (hexec : p.tables.exec = Jvm.exec) (hb : c.code = cc) (hK : va_K D cl tys s) (hP : va_P D cl ws H) (q0 t0 : Nat) {cA : ClassId} {n : Nat} {f : Nat → Int32} (ha : ws[q0]? = some (a, .inl (cA, n, .inl f))) (ht : tys[t0]? = some (cA, .byte)) {i : Int32} {x : Int32} (hout : ¬ vp_in i n) (hdg : decode cc pc = .ok (.bastore, 1))
    (k : ∀ tx : String, tx = (toString "Index " ++ toString i ++ toString " out of bounds for length " ++ toString n : String) → vx_Note p l e R s m args below meth c H locs cells slots Q (F0 m pc ls rest) "java/lang/ArrayIndexOutOfBoundsException" tx) : W p l e R s m args below meth c H locs cells slots Q (F0 m pc ls (.int x :: .int i :: .ref a :: rest)) := by
  intro T hT X
  obtain ⟨t, st, q⟩ := k _ rfl T hT X
  refine ⟨t, ?_, q⟩
  have h1 := X.bastoreOut hexec (by rw [hT]; exact hP q0 _ ha) ((hK.2 t0 _ ht).1 n (fun j => .int (f j))) (j := i) (by show (i < 0 ∨ (arrV _ _ _).slots.size ≤ _); rw [arrV_size]; exact Classical.byContradiction hout) (g := F0 m pc ls (.int x :: .int i :: .ref a :: rest)) rfl (rest := rest) rfl (by rw [hb]; exact hdg) t
  simp only [arrV_size] at h1
  exact h1 st
theorem vx_zaldZ {D : va_G} {cl : List vw_C} {ws : va_W} {tys : List (ClassId × FieldType)} {a : Nat} (hexec : p.tables.exec = Jvm.exec) (hb : c.code = cc) (hK : va_K D cl tys s) (hP : va_P D cl ws H) (q0 t0 : Nat) {cA : ClassId} {n : Nat} {f : Nat → Int32} (ha : ws[q0]? = some (a, .inl (cA, n, .inl f))) (ht : tys[t0]? = some (cA, .boolean)) {i : Int32} (hout : ¬ vp_in i n) (hdg : decode cc pc = .ok (.baload, 1))
    (k : ∀ tx : String, tx = (toString "Index " ++ toString i ++ toString " out of bounds for length " ++ toString n : String) → vx_Note p l e R s m args below meth c H locs cells slots Q (F0 m pc ls rest) "java/lang/ArrayIndexOutOfBoundsException" tx) : W p l e R s m args below meth c H locs cells slots Q (F0 m pc ls (.int i :: .ref a :: rest)) := by
  intro T hT X
  obtain ⟨t, st, q⟩ := k _ rfl T hT X
  refine ⟨t, ?_, q⟩
  have h1 := X.baloadOut hexec (by rw [hT]; exact hP q0 _ ha) ((hK.2 t0 _ ht).1 n (fun j => .int (f j))) (j := i) (by show (i < 0 ∨ (arrV _ _ _).slots.size ≤ _); rw [arrV_size]; exact Classical.byContradiction hout) (g := F0 m pc ls (.int i :: .ref a :: rest)) rfl (rest := rest) rfl (by rw [hb]; exact hdg) t
  simp only [arrV_size] at h1
  exact h1 st
theorem vx_zastZ {D : va_G} {cl : List vw_C} {ws : va_W} {tys : List (ClassId × FieldType)} {a : Nat} (hexec : p.tables.exec = Jvm.exec) (hb : c.code = cc) (hK : va_K D cl tys s) (hP : va_P D cl ws H) (q0 t0 : Nat) {cA : ClassId} {n : Nat} {f : Nat → Int32} (ha : ws[q0]? = some (a, .inl (cA, n, .inl f))) (ht : tys[t0]? = some (cA, .boolean)) {i : Int32} {x : Int32} (hout : ¬ vp_in i n) (hdg : decode cc pc = .ok (.bastore, 1))
    (k : ∀ tx : String, tx = (toString "Index " ++ toString i ++ toString " out of bounds for length " ++ toString n : String) → vx_Note p l e R s m args below meth c H locs cells slots Q (F0 m pc ls rest) "java/lang/ArrayIndexOutOfBoundsException" tx) : W p l e R s m args below meth c H locs cells slots Q (F0 m pc ls (.int x :: .int i :: .ref a :: rest)) := by
  intro T hT X
  obtain ⟨t, st, q⟩ := k _ rfl T hT X
  refine ⟨t, ?_, q⟩
  have h1 := X.bastoreOut hexec (by rw [hT]; exact hP q0 _ ha) ((hK.2 t0 _ ht).1 n (fun j => .int (f j))) (j := i) (by show (i < 0 ∨ (arrV _ _ _).slots.size ≤ _); rw [arrV_size]; exact Classical.byContradiction hout) (g := F0 m pc ls (.int x :: .int i :: .ref a :: rest)) rfl (rest := rest) rfl (by rw [hb]; exact hdg) t
  simp only [arrV_size] at h1
  exact h1 st
theorem vx_caldZ {D : va_G} {cl : List vw_C} {ws : va_W} {tys : List (ClassId × FieldType)} {a : Nat} (hexec : p.tables.exec = Jvm.exec) (hb : c.code = cc) (hK : va_K D cl tys s) (hP : va_P D cl ws H) (q0 t0 : Nat) {cA : ClassId} {n : Nat} {f : Nat → Int32} (ha : ws[q0]? = some (a, .inl (cA, n, .inl f))) (ht : tys[t0]? = some (cA, .char)) {i : Int32} (hout : ¬ vp_in i n) (hdg : decode cc pc = .ok (.caload, 1))
    (k : ∀ tx : String, tx = (toString "Index " ++ toString i ++ toString " out of bounds for length " ++ toString n : String) → vx_Note p l e R s m args below meth c H locs cells slots Q (F0 m pc ls rest) "java/lang/ArrayIndexOutOfBoundsException" tx) : W p l e R s m args below meth c H locs cells slots Q (F0 m pc ls (.int i :: .ref a :: rest)) := by
  intro T hT X
  obtain ⟨t, st, q⟩ := k _ rfl T hT X
  refine ⟨t, ?_, q⟩
  have h1 := X.caloadOut hexec (by rw [hT]; exact hP q0 _ ha) ((hK.2 t0 _ ht).1 n (fun j => .int (f j))) (j := i) (by show (i < 0 ∨ (arrV _ _ _).slots.size ≤ _); rw [arrV_size]; exact Classical.byContradiction hout) (g := F0 m pc ls (.int i :: .ref a :: rest)) rfl (rest := rest) rfl (by rw [hb]; exact hdg) t
  simp only [arrV_size] at h1
  exact h1 st
theorem vx_castZ {D : va_G} {cl : List vw_C} {ws : va_W} {tys : List (ClassId × FieldType)} {a : Nat} (hexec : p.tables.exec = Jvm.exec) (hb : c.code = cc) (hK : va_K D cl tys s) (hP : va_P D cl ws H) (q0 t0 : Nat) {cA : ClassId} {n : Nat} {f : Nat → Int32} (ha : ws[q0]? = some (a, .inl (cA, n, .inl f))) (ht : tys[t0]? = some (cA, .char)) {i : Int32} {x : Int32} (hout : ¬ vp_in i n) (hdg : decode cc pc = .ok (.castore, 1))
    (k : ∀ tx : String, tx = (toString "Index " ++ toString i ++ toString " out of bounds for length " ++ toString n : String) → vx_Note p l e R s m args below meth c H locs cells slots Q (F0 m pc ls rest) "java/lang/ArrayIndexOutOfBoundsException" tx) : W p l e R s m args below meth c H locs cells slots Q (F0 m pc ls (.int x :: .int i :: .ref a :: rest)) := by
  intro T hT X
  obtain ⟨t, st, q⟩ := k _ rfl T hT X
  refine ⟨t, ?_, q⟩
  have h1 := X.castoreOut hexec (by rw [hT]; exact hP q0 _ ha) ((hK.2 t0 _ ht).1 n (fun j => .int (f j))) (j := i) (by show (i < 0 ∨ (arrV _ _ _).slots.size ≤ _); rw [arrV_size]; exact Classical.byContradiction hout) (g := F0 m pc ls (.int x :: .int i :: .ref a :: rest)) rfl (rest := rest) rfl (by rw [hb]; exact hdg) t
  simp only [arrV_size] at h1
  exact h1 st
theorem vx_saldZ {D : va_G} {cl : List vw_C} {ws : va_W} {tys : List (ClassId × FieldType)} {a : Nat} (hexec : p.tables.exec = Jvm.exec) (hb : c.code = cc) (hK : va_K D cl tys s) (hP : va_P D cl ws H) (q0 t0 : Nat) {cA : ClassId} {n : Nat} {f : Nat → Int32} (ha : ws[q0]? = some (a, .inl (cA, n, .inl f))) (ht : tys[t0]? = some (cA, .short)) {i : Int32} (hout : ¬ vp_in i n) (hdg : decode cc pc = .ok (.saload, 1))
    (k : ∀ tx : String, tx = (toString "Index " ++ toString i ++ toString " out of bounds for length " ++ toString n : String) → vx_Note p l e R s m args below meth c H locs cells slots Q (F0 m pc ls rest) "java/lang/ArrayIndexOutOfBoundsException" tx) : W p l e R s m args below meth c H locs cells slots Q (F0 m pc ls (.int i :: .ref a :: rest)) := by
  intro T hT X
  obtain ⟨t, st, q⟩ := k _ rfl T hT X
  refine ⟨t, ?_, q⟩
  have h1 := X.saloadOut hexec (by rw [hT]; exact hP q0 _ ha) ((hK.2 t0 _ ht).1 n (fun j => .int (f j))) (j := i) (by show (i < 0 ∨ (arrV _ _ _).slots.size ≤ _); rw [arrV_size]; exact Classical.byContradiction hout) (g := F0 m pc ls (.int i :: .ref a :: rest)) rfl (rest := rest) rfl (by rw [hb]; exact hdg) t
  simp only [arrV_size] at h1
  exact h1 st
theorem vx_sastZ {D : va_G} {cl : List vw_C} {ws : va_W} {tys : List (ClassId × FieldType)} {a : Nat} (hexec : p.tables.exec = Jvm.exec) (hb : c.code = cc) (hK : va_K D cl tys s) (hP : va_P D cl ws H) (q0 t0 : Nat) {cA : ClassId} {n : Nat} {f : Nat → Int32} (ha : ws[q0]? = some (a, .inl (cA, n, .inl f))) (ht : tys[t0]? = some (cA, .short)) {i : Int32} {x : Int32} (hout : ¬ vp_in i n) (hdg : decode cc pc = .ok (.sastore, 1))
    (k : ∀ tx : String, tx = (toString "Index " ++ toString i ++ toString " out of bounds for length " ++ toString n : String) → vx_Note p l e R s m args below meth c H locs cells slots Q (F0 m pc ls rest) "java/lang/ArrayIndexOutOfBoundsException" tx) : W p l e R s m args below meth c H locs cells slots Q (F0 m pc ls (.int x :: .int i :: .ref a :: rest)) := by
  intro T hT X
  obtain ⟨t, st, q⟩ := k _ rfl T hT X
  refine ⟨t, ?_, q⟩
  have h1 := X.sastoreOut hexec (by rw [hT]; exact hP q0 _ ha) ((hK.2 t0 _ ht).1 n (fun j => .int (f j))) (j := i) (by show (i < 0 ∨ (arrV _ _ _).slots.size ≤ _); rw [arrV_size]; exact Classical.byContradiction hout) (g := F0 m pc ls (.int x :: .int i :: .ref a :: rest)) rfl (rest := rest) rfl (by rw [hb]; exact hdg) t
  simp only [arrV_size] at h1
  exact h1 st
theorem vx_laldZ {D : va_G} {cl : List vw_C} {ws : va_W} {tys : List (ClassId × FieldType)} {a : Nat} (hexec : p.tables.exec = Jvm.exec) (hb : c.code = cc) (hK : va_K D cl tys s) (hP : va_P D cl ws H) (q0 t0 : Nat) {cA : ClassId} {n : Nat} {f : Nat → Int64} (ha : ws[q0]? = some (a, .inl (cA, n, .inr (.inl f)))) (ht : tys[t0]? = some (cA, .long)) {i : Int32} (hout : ¬ vp_in i n) (hdg : decode cc pc = .ok (.laload, 1))
    (k : ∀ tx : String, tx = (toString "Index " ++ toString i ++ toString " out of bounds for length " ++ toString n : String) → vx_Note p l e R s m args below meth c H locs cells slots Q (F0 m pc ls rest) "java/lang/ArrayIndexOutOfBoundsException" tx) : W p l e R s m args below meth c H locs cells slots Q (F0 m pc ls (.int i :: .ref a :: rest)) := by
  intro T hT X
  obtain ⟨t, st, q⟩ := k _ rfl T hT X
  refine ⟨t, ?_, q⟩
  have h1 := X.laloadOut hexec (by rw [hT]; exact hP q0 _ ha) ((hK.2 t0 _ ht).1 n (fun j => .long (f j))) (j := i) (by show (i < 0 ∨ (arrV _ _ _).slots.size ≤ _); rw [arrV_size]; exact Classical.byContradiction hout) (g := F0 m pc ls (.int i :: .ref a :: rest)) rfl (rest := rest) rfl (by rw [hb]; exact hdg) t
  simp only [arrV_size] at h1
  exact h1 st
theorem vx_lastZ {D : va_G} {cl : List vw_C} {ws : va_W} {tys : List (ClassId × FieldType)} {a : Nat} (hexec : p.tables.exec = Jvm.exec) (hb : c.code = cc) (hK : va_K D cl tys s) (hP : va_P D cl ws H) (q0 t0 : Nat) {cA : ClassId} {n : Nat} {f : Nat → Int64} (ha : ws[q0]? = some (a, .inl (cA, n, .inr (.inl f)))) (ht : tys[t0]? = some (cA, .long)) {i : Int32} {x : Int64} (hout : ¬ vp_in i n) (hdg : decode cc pc = .ok (.lastore, 1))
    (k : ∀ tx : String, tx = (toString "Index " ++ toString i ++ toString " out of bounds for length " ++ toString n : String) → vx_Note p l e R s m args below meth c H locs cells slots Q (F0 m pc ls rest) "java/lang/ArrayIndexOutOfBoundsException" tx) : W p l e R s m args below meth c H locs cells slots Q (F0 m pc ls (.long x :: .int i :: .ref a :: rest)) := by
  intro T hT X
  obtain ⟨t, st, q⟩ := k _ rfl T hT X
  refine ⟨t, ?_, q⟩
  have h1 := X.lastoreOut hexec (by rw [hT]; exact hP q0 _ ha) ((hK.2 t0 _ ht).1 n (fun j => .long (f j))) (j := i) (by show (i < 0 ∨ (arrV _ _ _).slots.size ≤ _); rw [arrV_size]; exact Classical.byContradiction hout) (g := F0 m pc ls (.long x :: .int i :: .ref a :: rest)) rfl (rest := rest) rfl (by rw [hb]; exact hdg) t
  simp only [arrV_size] at h1
  exact h1 st
theorem vx_faldZ {D : va_G} {cl : List vw_C} {ws : va_W} {tys : List (ClassId × FieldType)} {a : Nat} (hexec : p.tables.exec = Jvm.exec) (hb : c.code = cc) (hK : va_K D cl tys s) (hP : va_P D cl ws H) (q0 t0 : Nat) {cA : ClassId} {n : Nat} {f : Nat → UInt32} (ha : ws[q0]? = some (a, .inl (cA, n, .inr (.inr (.inl f))))) (ht : tys[t0]? = some (cA, .float)) {i : Int32} (hout : ¬ vp_in i n) (hdg : decode cc pc = .ok (.faload, 1))
    (k : ∀ tx : String, tx = (toString "Index " ++ toString i ++ toString " out of bounds for length " ++ toString n : String) → vx_Note p l e R s m args below meth c H locs cells slots Q (F0 m pc ls rest) "java/lang/ArrayIndexOutOfBoundsException" tx) : W p l e R s m args below meth c H locs cells slots Q (F0 m pc ls (.int i :: .ref a :: rest)) := by
  intro T hT X
  obtain ⟨t, st, q⟩ := k _ rfl T hT X
  refine ⟨t, ?_, q⟩
  have h1 := X.faloadOut hexec (by rw [hT]; exact hP q0 _ ha) ((hK.2 t0 _ ht).1 n (fun j => .float (f j))) (j := i) (by show (i < 0 ∨ (arrV _ _ _).slots.size ≤ _); rw [arrV_size]; exact Classical.byContradiction hout) (g := F0 m pc ls (.int i :: .ref a :: rest)) rfl (rest := rest) rfl (by rw [hb]; exact hdg) t
  simp only [arrV_size] at h1
  exact h1 st
theorem vx_fastZ {D : va_G} {cl : List vw_C} {ws : va_W} {tys : List (ClassId × FieldType)} {a : Nat} (hexec : p.tables.exec = Jvm.exec) (hb : c.code = cc) (hK : va_K D cl tys s) (hP : va_P D cl ws H) (q0 t0 : Nat) {cA : ClassId} {n : Nat} {f : Nat → UInt32} (ha : ws[q0]? = some (a, .inl (cA, n, .inr (.inr (.inl f))))) (ht : tys[t0]? = some (cA, .float)) {i : Int32} {x : UInt32} (hout : ¬ vp_in i n) (hdg : decode cc pc = .ok (.fastore, 1))
    (k : ∀ tx : String, tx = (toString "Index " ++ toString i ++ toString " out of bounds for length " ++ toString n : String) → vx_Note p l e R s m args below meth c H locs cells slots Q (F0 m pc ls rest) "java/lang/ArrayIndexOutOfBoundsException" tx) : W p l e R s m args below meth c H locs cells slots Q (F0 m pc ls (.float x :: .int i :: .ref a :: rest)) := by
  intro T hT X
  obtain ⟨t, st, q⟩ := k _ rfl T hT X
  refine ⟨t, ?_, q⟩
  have h1 := X.fastoreOut hexec (by rw [hT]; exact hP q0 _ ha) ((hK.2 t0 _ ht).1 n (fun j => .float (f j))) (j := i) (by show (i < 0 ∨ (arrV _ _ _).slots.size ≤ _); rw [arrV_size]; exact Classical.byContradiction hout) (g := F0 m pc ls (.float x :: .int i :: .ref a :: rest)) rfl (rest := rest) rfl (by rw [hb]; exact hdg) t
  simp only [arrV_size] at h1
  exact h1 st
theorem vx_daldZ {D : va_G} {cl : List vw_C} {ws : va_W} {tys : List (ClassId × FieldType)} {a : Nat} (hexec : p.tables.exec = Jvm.exec) (hb : c.code = cc) (hK : va_K D cl tys s) (hP : va_P D cl ws H) (q0 t0 : Nat) {cA : ClassId} {n : Nat} {f : Nat → UInt64} (ha : ws[q0]? = some (a, .inl (cA, n, .inr (.inr (.inr (.inl f)))))) (ht : tys[t0]? = some (cA, .double)) {i : Int32} (hout : ¬ vp_in i n) (hdg : decode cc pc = .ok (.daload, 1))
    (k : ∀ tx : String, tx = (toString "Index " ++ toString i ++ toString " out of bounds for length " ++ toString n : String) → vx_Note p l e R s m args below meth c H locs cells slots Q (F0 m pc ls rest) "java/lang/ArrayIndexOutOfBoundsException" tx) : W p l e R s m args below meth c H locs cells slots Q (F0 m pc ls (.int i :: .ref a :: rest)) := by
  intro T hT X
  obtain ⟨t, st, q⟩ := k _ rfl T hT X
  refine ⟨t, ?_, q⟩
  have h1 := X.daloadOut hexec (by rw [hT]; exact hP q0 _ ha) ((hK.2 t0 _ ht).1 n (fun j => .double (f j))) (j := i) (by show (i < 0 ∨ (arrV _ _ _).slots.size ≤ _); rw [arrV_size]; exact Classical.byContradiction hout) (g := F0 m pc ls (.int i :: .ref a :: rest)) rfl (rest := rest) rfl (by rw [hb]; exact hdg) t
  simp only [arrV_size] at h1
  exact h1 st
theorem vx_dastZ {D : va_G} {cl : List vw_C} {ws : va_W} {tys : List (ClassId × FieldType)} {a : Nat} (hexec : p.tables.exec = Jvm.exec) (hb : c.code = cc) (hK : va_K D cl tys s) (hP : va_P D cl ws H) (q0 t0 : Nat) {cA : ClassId} {n : Nat} {f : Nat → UInt64} (ha : ws[q0]? = some (a, .inl (cA, n, .inr (.inr (.inr (.inl f)))))) (ht : tys[t0]? = some (cA, .double)) {i : Int32} {x : UInt64} (hout : ¬ vp_in i n) (hdg : decode cc pc = .ok (.dastore, 1))
    (k : ∀ tx : String, tx = (toString "Index " ++ toString i ++ toString " out of bounds for length " ++ toString n : String) → vx_Note p l e R s m args below meth c H locs cells slots Q (F0 m pc ls rest) "java/lang/ArrayIndexOutOfBoundsException" tx) : W p l e R s m args below meth c H locs cells slots Q (F0 m pc ls (.double x :: .int i :: .ref a :: rest)) := by
  intro T hT X
  obtain ⟨t, st, q⟩ := k _ rfl T hT X
  refine ⟨t, ?_, q⟩
  have h1 := X.dastoreOut hexec (by rw [hT]; exact hP q0 _ ha) ((hK.2 t0 _ ht).1 n (fun j => .double (f j))) (j := i) (by show (i < 0 ∨ (arrV _ _ _).slots.size ≤ _); rw [arrV_size]; exact Classical.byContradiction hout) (g := F0 m pc ls (.double x :: .int i :: .ref a :: rest)) rfl (rest := rest) rfl (by rw [hb]; exact hdg) t
  simp only [arrV_size] at h1
  exact h1 st
theorem vx_arraylengthN (hexec : p.tables.exec = Jvm.exec) (hb : c.code = cc) (hdg : decode cc pc = .ok (.arraylength, 1)) (k : vx_NoteN p l e R s m args below meth c H locs cells slots Q (F0 m pc ls rest)) : W p l e R s m args below meth c H locs cells slots Q (F0 m pc ls (.null :: rest)) := by
  intro T hT X
  obtain ⟨t, st, q⟩ := k T hT X
  exact ⟨t, X.arraylengthNull hexec (g := F0 m pc ls (.null :: rest)) rfl (rest := rest) rfl (by rw [hb]; exact hdg) t st, q⟩
theorem vx_ialoadN (hexec : p.tables.exec = Jvm.exec) (hb : c.code = cc) {i : Int32} (hdg : decode cc pc = .ok (.iaload, 1)) (k : vx_NoteN p l e R s m args below meth c H locs cells slots Q (F0 m pc ls rest)) : W p l e R s m args below meth c H locs cells slots Q (F0 m pc ls (.int i :: .null :: rest)) := by
  intro T hT X
  obtain ⟨t, st, q⟩ := k T hT X
  exact ⟨t, X.ialoadNull hexec (g := F0 m pc ls (.int i :: .null :: rest)) rfl (rest := rest) rfl (by rw [hb]; exact hdg) t st, q⟩
theorem vx_laloadN (hexec : p.tables.exec = Jvm.exec) (hb : c.code = cc) {i : Int32} (hdg : decode cc pc = .ok (.laload, 1)) (k : vx_NoteN p l e R s m args below meth c H locs cells slots Q (F0 m pc ls rest)) : W p l e R s m args below meth c H locs cells slots Q (F0 m pc ls (.int i :: .null :: rest)) := by
  intro T hT X
  obtain ⟨t, st, q⟩ := k T hT X
  exact ⟨t, X.laloadNull hexec (g := F0 m pc ls (.int i :: .null :: rest)) rfl (rest := rest) rfl (by rw [hb]; exact hdg) t st, q⟩
theorem vx_faloadN (hexec : p.tables.exec = Jvm.exec) (hb : c.code = cc) {i : Int32} (hdg : decode cc pc = .ok (.faload, 1)) (k : vx_NoteN p l e R s m args below meth c H locs cells slots Q (F0 m pc ls rest)) : W p l e R s m args below meth c H locs cells slots Q (F0 m pc ls (.int i :: .null :: rest)) := by
  intro T hT X
  obtain ⟨t, st, q⟩ := k T hT X
  exact ⟨t, X.faloadNull hexec (g := F0 m pc ls (.int i :: .null :: rest)) rfl (rest := rest) rfl (by rw [hb]; exact hdg) t st, q⟩
theorem vx_daloadN (hexec : p.tables.exec = Jvm.exec) (hb : c.code = cc) {i : Int32} (hdg : decode cc pc = .ok (.daload, 1)) (k : vx_NoteN p l e R s m args below meth c H locs cells slots Q (F0 m pc ls rest)) : W p l e R s m args below meth c H locs cells slots Q (F0 m pc ls (.int i :: .null :: rest)) := by
  intro T hT X
  obtain ⟨t, st, q⟩ := k T hT X
  exact ⟨t, X.daloadNull hexec (g := F0 m pc ls (.int i :: .null :: rest)) rfl (rest := rest) rfl (by rw [hb]; exact hdg) t st, q⟩
theorem vx_aaloadN (hexec : p.tables.exec = Jvm.exec) (hb : c.code = cc) {i : Int32} (hdg : decode cc pc = .ok (.aaload, 1)) (k : vx_NoteN p l e R s m args below meth c H locs cells slots Q (F0 m pc ls rest)) : W p l e R s m args below meth c H locs cells slots Q (F0 m pc ls (.int i :: .null :: rest)) := by
  intro T hT X
  obtain ⟨t, st, q⟩ := k T hT X
  exact ⟨t, X.aaloadNull hexec (g := F0 m pc ls (.int i :: .null :: rest)) rfl (rest := rest) rfl (by rw [hb]; exact hdg) t st, q⟩
theorem vx_baloadN (hexec : p.tables.exec = Jvm.exec) (hb : c.code = cc) {i : Int32} (hdg : decode cc pc = .ok (.baload, 1)) (k : vx_NoteN p l e R s m args below meth c H locs cells slots Q (F0 m pc ls rest)) : W p l e R s m args below meth c H locs cells slots Q (F0 m pc ls (.int i :: .null :: rest)) := by
  intro T hT X
  obtain ⟨t, st, q⟩ := k T hT X
  exact ⟨t, X.baloadNull hexec (g := F0 m pc ls (.int i :: .null :: rest)) rfl (rest := rest) rfl (by rw [hb]; exact hdg) t st, q⟩
theorem vx_caloadN (hexec : p.tables.exec = Jvm.exec) (hb : c.code = cc) {i : Int32} (hdg : decode cc pc = .ok (.caload, 1)) (k : vx_NoteN p l e R s m args below meth c H locs cells slots Q (F0 m pc ls rest)) : W p l e R s m args below meth c H locs cells slots Q (F0 m pc ls (.int i :: .null :: rest)) := by
  intro T hT X
  obtain ⟨t, st, q⟩ := k T hT X
  exact ⟨t, X.caloadNull hexec (g := F0 m pc ls (.int i :: .null :: rest)) rfl (rest := rest) rfl (by rw [hb]; exact hdg) t st, q⟩
theorem vx_saloadN (hexec : p.tables.exec = Jvm.exec) (hb : c.code = cc) {i : Int32} (hdg : decode cc pc = .ok (.saload, 1)) (k : vx_NoteN p l e R s m args below meth c H locs cells slots Q (F0 m pc ls rest)) : W p l e R s m args below meth c H locs cells slots Q (F0 m pc ls (.int i :: .null :: rest)) := by
  intro T hT X
  obtain ⟨t, st, q⟩ := k T hT X
  exact ⟨t, X.saloadNull hexec (g := F0 m pc ls (.int i :: .null :: rest)) rfl (rest := rest) rfl (by rw [hb]; exact hdg) t st, q⟩
theorem vx_iastoreN (hexec : p.tables.exec = Jvm.exec) (hb : c.code = cc) {x : Int32} {i : Int32} (hdg : decode cc pc = .ok (.iastore, 1)) (k : vx_NoteN p l e R s m args below meth c H locs cells slots Q (F0 m pc ls rest)) : W p l e R s m args below meth c H locs cells slots Q (F0 m pc ls (.int x :: .int i :: .null :: rest)) := by
  intro T hT X
  obtain ⟨t, st, q⟩ := k T hT X
  exact ⟨t, X.iastoreNull hexec (g := F0 m pc ls (.int x :: .int i :: .null :: rest)) rfl (rest := rest) rfl (by rw [hb]; exact hdg) t st, q⟩
theorem vx_lastoreN (hexec : p.tables.exec = Jvm.exec) (hb : c.code = cc) {x : Int64} {i : Int32} (hdg : decode cc pc = .ok (.lastore, 1)) (k : vx_NoteN p l e R s m args below meth c H locs cells slots Q (F0 m pc ls rest)) : W p l e R s m args below meth c H locs cells slots Q (F0 m pc ls (.long x :: .int i :: .null :: rest)) := by
  intro T hT X
  obtain ⟨t, st, q⟩ := k T hT X
  exact ⟨t, X.lastoreNull hexec (g := F0 m pc ls (.long x :: .int i :: .null :: rest)) rfl (rest := rest) rfl (by rw [hb]; exact hdg) t st, q⟩
theorem vx_fastoreN (hexec : p.tables.exec = Jvm.exec) (hb : c.code = cc) {x : UInt32} {i : Int32} (hdg : decode cc pc = .ok (.fastore, 1)) (k : vx_NoteN p l e R s m args below meth c H locs cells slots Q (F0 m pc ls rest)) : W p l e R s m args below meth c H locs cells slots Q (F0 m pc ls (.float x :: .int i :: .null :: rest)) := by
  intro T hT X
  obtain ⟨t, st, q⟩ := k T hT X
  exact ⟨t, X.fastoreNull hexec (g := F0 m pc ls (.float x :: .int i :: .null :: rest)) rfl (rest := rest) rfl (by rw [hb]; exact hdg) t st, q⟩
theorem vx_dastoreN (hexec : p.tables.exec = Jvm.exec) (hb : c.code = cc) {x : UInt64} {i : Int32} (hdg : decode cc pc = .ok (.dastore, 1)) (k : vx_NoteN p l e R s m args below meth c H locs cells slots Q (F0 m pc ls rest)) : W p l e R s m args below meth c H locs cells slots Q (F0 m pc ls (.double x :: .int i :: .null :: rest)) := by
  intro T hT X
  obtain ⟨t, st, q⟩ := k T hT X
  exact ⟨t, X.dastoreNull hexec (g := F0 m pc ls (.double x :: .int i :: .null :: rest)) rfl (rest := rest) rfl (by rw [hb]; exact hdg) t st, q⟩
theorem vx_bastoreN (hexec : p.tables.exec = Jvm.exec) (hb : c.code = cc) {x : Int32} {i : Int32} (hdg : decode cc pc = .ok (.bastore, 1)) (k : vx_NoteN p l e R s m args below meth c H locs cells slots Q (F0 m pc ls rest)) : W p l e R s m args below meth c H locs cells slots Q (F0 m pc ls (.int x :: .int i :: .null :: rest)) := by
  intro T hT X
  obtain ⟨t, st, q⟩ := k T hT X
  exact ⟨t, X.bastoreNull hexec (g := F0 m pc ls (.int x :: .int i :: .null :: rest)) rfl (rest := rest) rfl (by rw [hb]; exact hdg) t st, q⟩
theorem vx_castoreN (hexec : p.tables.exec = Jvm.exec) (hb : c.code = cc) {x : Int32} {i : Int32} (hdg : decode cc pc = .ok (.castore, 1)) (k : vx_NoteN p l e R s m args below meth c H locs cells slots Q (F0 m pc ls rest)) : W p l e R s m args below meth c H locs cells slots Q (F0 m pc ls (.int x :: .int i :: .null :: rest)) := by
  intro T hT X
  obtain ⟨t, st, q⟩ := k T hT X
  exact ⟨t, X.castoreNull hexec (g := F0 m pc ls (.int x :: .int i :: .null :: rest)) rfl (rest := rest) rfl (by rw [hb]; exact hdg) t st, q⟩
theorem vx_sastoreN (hexec : p.tables.exec = Jvm.exec) (hb : c.code = cc) {x : Int32} {i : Int32} (hdg : decode cc pc = .ok (.sastore, 1)) (k : vx_NoteN p l e R s m args below meth c H locs cells slots Q (F0 m pc ls rest)) : W p l e R s m args below meth c H locs cells slots Q (F0 m pc ls (.int x :: .int i :: .null :: rest)) := by
  intro T hT X
  obtain ⟨t, st, q⟩ := k T hT X
  exact ⟨t, X.sastoreNull hexec (g := F0 m pc ls (.int x :: .int i :: .null :: rest)) rfl (rest := rest) rfl (by rw [hb]; exact hdg) t st, q⟩
theorem vx_invokeN {own C : String} {index maxL : Nat} {y : MethodName} {bytes : ByteArray} {ret : Option FieldType} (hexec : p.tables.exec = Jvm.exec) (hb : c.code = cc) (hown : s.vm.findClass own = some m.cls) (hlink : (Cond.methodLink own index y).before args s = true) (hinst : (Cond.instanceMethod y).before args s = true) (hcode : (Cond.code y bytes maxL ret).before args s = true) (hsel : (Cond.selects C y y).before args s = true)
    (hx : y.cls ≠ "java/lang/invoke/MethodHandle" ∧ y.cls ≠ "java/lang/invoke/VarHandle") {As : List Value} (hlen : (parseMethodDescriptor y.desc).map (fun d => d.parameters.length) = some As.length) (hdg : decode cc pc = .ok (.invokevirtual index, 3))
    (k : vx_NoteN p l e R s m args below meth c H locs cells slots Q (F0 m pc ls rest)) {st0 : List Value} (hst : st0 = As.reverse ++ .null :: rest) : W p l e R s m args below meth c H locs cells slots Q (F0 m pc ls st0) := by
  intro T hT X
  obtain ⟨r0, r, hn, hrm, hstR, hsigR⟩ := va_Decl.of hinst hcode
  obtain ⟨c2, r2, m2, q1, q2, q3, q4, kP, hkP, hkPi⟩ := Cond.selects_spec hsel
  cases hn.symm.trans q3
  have hl9 : As.length = r.sig.parameters.length := by
    rw [hsigR] at hlen
    exact (Option.some.inj hlen).symm
  obtain ⟨vm', X1, st1⟩ := X.invokevirtualNull hexec hown hlink hn hrm hstR hkP hkPi hx (g := F0 m pc ls st0) rfl (argsL := As) (rest := rest) hl9 hst (by rw [hb]; exact hdg)
  obtain ⟨t, st, q⟩ := k (T.setVm vm') hT X1
  exact ⟨t, st1 t st, q⟩
theorem vx_newarrayZ {atype : ArrayType} (hexec : p.tables.exec = Jvm.exec) (hb : c.code = cc) {n : Int32} (h0 : n < 0) (hdg : decode cc pc = .ok (.newarray atype, 2)) (k : ∀ tx : String, tx = toString n → vx_Note p l e R s m args below meth c H locs cells slots Q (F0 m pc ls rest) "java/lang/NegativeArraySizeException" tx) : W p l e R s m args below meth c H locs cells slots Q (F0 m pc ls (.int n :: rest)) := by
  intro T hT X
  obtain ⟨t, st, q⟩ := k _ rfl T hT X
  exact ⟨t, X.newarrayNegative hexec (g := F0 m pc ls (.int n :: rest)) rfl h0 (rest := rest) rfl (by rw [hb]; exact hdg) t st, q⟩
end
end VXM
/-! ===== END ===== -/
/-! ===== BEGIN an exception as an object: made, kept, thrown later (no traces kept) ===== -/
section VXK
variable {p : Program} {l : Launch} {e : Env} {R : Room} {s : State} {m₀ : MethodId} {args : Array Value} {below : List Frame} {meth : Method} {c : Code} {W : State} {locs : List Loc} {cells slots : Nat}
set_option maxHeartbeats 1000000 in
theorem vx_ctorMadeS (X : Stand p l e R s m₀ args below meth c W locs cells slots) (hexec : p.tables.exec = Jvm.exec) (htr : e.platform.stackTraces = false) {own cls : String} {names : List String} {ic : Nat}
    (hown : s.vm.findClass own = some m₀.cls) (hcls : Bundle.fit cls = true) (hnames : ∀ n ∈ names, Bundle.fit n = true)
    (h : ∀ a ∈ Bundle.ownAtoms own ic cls names, a.before args s = true)
    (hlocs : ∀ x ∈ locs, ∀ cell, s.heap[x.base]? = some cell → cell.vm.isStatics = false)
    {a : Addr} {cX : ClassId} {kX : Class} (hfoundX : s.vm.findClass cls = some cX) (hkX : s.vm.classes[cX]? = some kX) (hcell : W.heap[a]? = some (freshCell cX kX)) (hnew : s.heap.size ≤ a)
    {msg : Value} (hmsg : msg.isRef = true)
    {g : JFrame} (hg : g.method = m₀) (hsize : g.locals.size = c.maxLocals) {rest : List Value} (hstack : g.stack = msg :: .ref a :: .ref a :: rest)
    (hd6 : decode c.code g.pc = .ok (.invokespecial ic, 3))
    (hRframes : names.length + 3 < R.frames) (hRlocals : 2 * g.monitorRoom + ((Value.ref a :: rest).map fun v => v.category).sum + (13 * (names.length + 1) + 42) ≤ R.locals) :
    ∃ (V : State) (ce : Cell) (L : List Loc), Stand p l e R s m₀ args below meth c (V.setCell a ce) (locs ++ L) cells slots ∧ (∀ y ∈ L, y.base = a) ∧ a < V.heap.size ∧ ce.cls = cX ∧ ce.vm = .none ∧
      ∀ target, Steps p.tables e below ((V.setCell a ce).setTop { g with stack := .ref a :: rest, pc := g.pc + 3 }) target → Steps p.tables e below (W.setTop g) target := by
  have howns : e.platform.frameOwnsMonitors = true := by rw [X.admits.platform]
  have hfin : e.platform.finalization = false := by rw [X.admits.platform]
  have hpl : e.platform.magicAccessors = ({} : Platform).magicAccessors := by rw [X.admits.platform]
  have a' : ∀ x, x ∈ Bundle.ownAtoms own ic cls names → x.holds args s none s [] = true := fun x hx => h x hx
  obtain ⟨T, Z0, L, -, Y⟩ := ThrowableC.of_atoms (args := args) howns hfin hpl (fun x hx => h x (by simp [Bundle.ownAtoms, hx]))
  obtain ⟨Z, M, LZ, LM, hnZ⟩ := Init0T.ofS_atoms (args := args) hpl L Y (fun x hx => h x (by simp [Bundle.ownAtoms, hx]))
  obtain ⟨P1, Ps, hlen, L1, hL, hP1m, hlink1, hlink⟩ := Bundle.chainS (args := args) hpl hnZ names cls hcls hnames (fun x hx => h x (by simp [Bundle.ownAtoms, hx]))
  have hfound : s.vm.findClass cls = some P1.m.cls := findClass_of_methodNamed hP1m
  cases Option.some.inj (hfoundX.symm.trans hfound)
  obtain ⟨c1, kX', hc1, hk, hord, -, -, hn6⟩ := Cond.instantiable_spec (a' (.instantiable cls 6) (by simp [Bundle.ownAtoms]))
  cases Option.some.inj (hc1.symm.trans hfound)
  cases Option.some.inj (hkX.symm.trans hk)
  have hsel0 : selectMethod e.platform s.vm P1.m.cls T.fill0 = .method T.fill0 := by
    obtain ⟨c2, r2, m2, q1, q2, q3, q4, -⟩ := Cond.selects_spec (a' (.selects cls Bundle.tFill0 Bundle.tFill0) (by simp [Bundle.ownAtoms]))
    cases Option.some.inj (q1.symm.trans hfound)
    cases Option.some.inj (q2.symm.trans (State.methodFound?_of_named Y.fill0 (by decide)))
    cases Option.some.inj (q3.symm.trans Y.fill0)
    rw [Launch.admits_selectMethod X.admits]; exact q4
  have hselF : selectMethod e.platform s.vm P1.m.cls T.fill = .method T.fill := by
    obtain ⟨c2, r2, m2, q1, q2, q3, q4, -⟩ := Cond.selects_spec (a' (.selects cls Bundle.tFill Bundle.tFill) (by simp [Bundle.ownAtoms]))
    cases Option.some.inj (q1.symm.trans hfound)
    cases Option.some.inj (q2.symm.trans (State.methodFound?_of_named Y.fill (by decide)))
    cases Option.some.inj (q3.symm.trans Y.fill)
    rw [Launch.admits_selectMethod X.admits]; exact q4
  obtain ⟨cellS0, hcS0, hiss⟩ := Y.statics
  obtain ⟨u0, hu0⟩ := Cond.staticRefV Y.unassigned L.unassignedStatic L.statics hcS0 hiss (a' (.isRef (.static Bundle.tN "UNASSIGNED_STACK" Bundle.steD)) (by simp [Bundle.ownAtoms]))
  obtain ⟨sen, hsen⟩ := Cond.staticRefV Y.sentinel L.sentinelStatic L.statics hcS0 hiss (a' (.isRef (.static Bundle.tN "SUPPRESSED_SENTINEL" Bundle.listD)) (by simp [Bundle.ownAtoms]))
  obtain ⟨ci198, i198, fB, hk198, hg198, ha198, hsB, -, hnB, htB, hffB⟩ := Cond.ownField (t := .object "java/lang/Object") Y.found L.cls (by decide +kernel) (a' (.fieldLink Bundle.tN 198 Bundle.tN "backtrace" "Ljava/lang/Object;") (by simp [Bundle.ownAtoms])) (a' (.lays Bundle.tN Bundle.tN "backtrace" "Ljava/lang/Object;") (by simp [Bundle.ownAtoms])) e.platform hpl
  obtain ⟨cellS, hcS', heS, -, hkeep⟩ := X.same.2.2.2.2.2 T.aS cellS0 hcS0
  have hcellS : W.heap[T.aS]? = some cellS := hcS'
  have hout' : ∀ i, (⟨T.aS, i⟩ : Loc) ∉ locs := fun i hmem => by
    have := hlocs _ hmem cellS0 hcS0
    rw [hiss] at this; cases this
  have hknownS : cellS.vm ≠ .unknown := by
    rw [heS]; intro hu
    rw [show cellS0.vm = .unknown from hu] at hiss
    cases hiss
  have hneS : T.aS ≠ a := Nat.ne_of_lt (Nat.lt_of_lt_of_le (Array.getElem?_eq_some_iff.mp hcS0).1 hnew)
  obtain ⟨iM, hffM⟩ := Y.msg
  obtain ⟨tyC, dC, hdC, hdnC⟩ := Cond.laysAt hfound hk Y.cause (a' (.lays cls Bundle.tN "cause" "Ljava/lang/Throwable;") (by simp [Bundle.ownAtoms]))
  obtain ⟨tyS, dS, hdS, hdnS⟩ := Cond.laysAt hfound hk Y.stack (a' (.lays cls Bundle.tN "stackTrace" Bundle.steD) (by simp [Bundle.ownAtoms]))
  obtain ⟨tyP, dP, hdP, hdnP⟩ := Cond.laysAt hfound hk Y.supp (a' (.lays cls Bundle.tN "suppressedExceptions" Bundle.listD) (by simp [Bundle.ownAtoms]))
  obtain ⟨tyM, dM, hdM, hdnM⟩ := Cond.laysAt hfound hk hffM (a' (.lays cls Bundle.tN "detailMessage" "Ljava/lang/String;") (by simp [Bundle.ownAtoms]))
  obtain ⟨tyB, dB, hdB, hdnB⟩ := Cond.laysAt hfound hk hffB (a' (.lays cls Bundle.tN "backtrace" "Ljava/lang/Object;") (by simp [Bundle.ownAtoms]))
  have bC := Cond.laysApart hdB hdC hdnB hdnC (by rw [hnB, Y.causeName]; decide)
  have bS := Cond.laysApart hdB hdS hdnB hdnS (by rw [hnB, Y.stackName]; decide)
  have bP := Cond.laysApart hdB hdP hdnB hdnP (by rw [hnB, Y.suppName]; decide)
  have hskip : SkipFacts T e.platform s (fun u => u) u0 ((preparedCellV T.toThrowableT (freshCell P1.m.cls kX) a u0 sen).withEntry W.cur) :=
    ⟨{ ci198 := ci198, i198 := i198, fBack := fB }, ⟨hk198, hg198, ha198, hsB⟩, by
      have := fresh_default (c := P1.m.cls) tyB
      rw [htB] at this
      simpa [preparedCellV, Cell.setSlot, Cell.withEntry, Array.getElem?_setIfInBounds, bC, bS, bP, bC.symm, bS.symm, bP.symm, defaultValue] using this, fun _ _ => rfl⟩
  obtain ⟨tm, methC, cdC, kC, vm₁, hnC, -, -, -, -, -, -, -, hW₁, st1⟩ := Steps.initColdS (tb := p.tables) (e := e) (below := below) (s := s) (U := W) X.here hexec X.warmed hpl hown (t := Bundle.initS cls) rfl rfl (Bundle.fit_spec hcls).2
    (a' (.methodLink own ic (Bundle.initS cls)) (by simp [Bundle.ownAtoms])) (h (.instanceMethod (Bundle.initS cls)) (by cases names <;> simp [Bundle.ownAtoms, Bundle.chainSAtoms, Bundle.passSAtoms])) (bytes := Bundle.six) (maxL := 2) (h (.code (Bundle.initS cls) Bundle.six 2 none) (by cases names <;> simp [Bundle.ownAtoms, Bundle.chainSAtoms, Bundle.passSAtoms]))
    (f := g) hg (a := a) (msg := msg) (rest := .ref a :: rest) hstack hd6
  cases Option.some.inj (hnC.symm.trans hP1m)
  have X₁ := X.noted hW₁
  obtain ⟨vm₂, X₂, st2⟩ := X₁.ctorMessageOffV hexec (g := { g with stack := .ref a :: rest }) hg hsize T L Z LZ M LM (P1 :: Ps)
    (fun P hP => by rcases List.mem_cons.mp hP with rfl | hP; exact L1; exact hL P hP) ⟨hlink1, hlink⟩ (u0 := u0) (sen := sen) (self := a) hmsg (cell := freshCell P1.m.cls kX) (cellS := cellS)
    hcell (fun _ => by simp) (by simp) rfl rfl hsel0 hselF hcellS hneS hknownS (by rw [hkeep _ (hout' _)]; exact hu0) (by rw [hkeep _ (hout' _)]; exact hsen)
    (Takes.of_laid hk hord tyC (by rw [Y.causeType]; rfl)) (Takes.of_laid hk hord tyS (by rw [Y.stackType]; exact fits_refV_array _ u0)) (Takes.of_laid hk hord tyP (by rw [Y.suppType]; exact fits_refV_object _ sen))
    (Takes.of_laid hk hord tyM (by rw [Y.msgType]; exact fits_refV_object _ ⟨msg, hmsg⟩)) Y.objLocals hskip htr [] hd6
    (by simp only [List.length_cons, hlen]; omega) (by simp only [List.length_cons, hlen]; exact hRlocals)
  have hlt : a < ((W.setVm vm₁).setVm vm₂).heap.size := (Array.getElem?_eq_some_iff.mp hcell).1
  refine ⟨(W.setVm vm₁).setVm vm₂, _, _, X₂, fun y hy => ?_, hlt, rfl, rfl, fun target hwalk => st1 _ (fun acts => ?_)⟩
  · simp only [List.mem_cons, List.not_mem_nil, or_false] at hy
    rcases hy with rfl | rfl | rfl | rfl | rfl <;> rfl
  · rw [doInvoke_state]
    exact st2 _ hwalk
set_option maxHeartbeats 1000000 in
theorem vx_ctorMade0 (X : Stand p l e R s m₀ args below meth c W locs cells slots) (hexec : p.tables.exec = Jvm.exec) (htr : e.platform.stackTraces = false) {own cls : String} {names : List String} {ic : Nat}
    (hown : s.vm.findClass own = some m₀.cls) (hcls : Bundle.fit cls = true) (hnames : ∀ n ∈ names, Bundle.fit n = true)
    (h : ∀ a ∈ Bundle.ownAtoms0 own ic cls names, a.before args s = true)
    (hlocs : ∀ x ∈ locs, ∀ cell, s.heap[x.base]? = some cell → cell.vm.isStatics = false)
    {a : Addr} {cX : ClassId} {kX : Class} (hfoundX : s.vm.findClass cls = some cX) (hkX : s.vm.classes[cX]? = some kX) (hcell : W.heap[a]? = some (freshCell cX kX)) (hnew : s.heap.size ≤ a)
    {g : JFrame} (hg : g.method = m₀) (hsize : g.locals.size = c.maxLocals) {rest : List Value} (hstack : g.stack = .ref a :: .ref a :: rest)
    (hd6 : decode c.code g.pc = .ok (.invokespecial ic, 3))
    (hRframes : names.length + 3 < R.frames) (hRlocals : 2 * g.monitorRoom + ((Value.ref a :: rest).map fun v => v.category).sum + (13 * (names.length + 1) + 41) ≤ R.locals) :
    ∃ (V : State) (ce : Cell) (L : List Loc), Stand p l e R s m₀ args below meth c (V.setCell a ce) (locs ++ L) cells slots ∧ (∀ y ∈ L, y.base = a) ∧ a < V.heap.size ∧ ce.cls = cX ∧ ce.vm = .none ∧
      ∀ target, Steps p.tables e below ((V.setCell a ce).setTop { g with stack := .ref a :: rest, pc := g.pc + 3 }) target → Steps p.tables e below (W.setTop g) target := by
  have howns : e.platform.frameOwnsMonitors = true := by rw [X.admits.platform]
  have hfin : e.platform.finalization = false := by rw [X.admits.platform]
  have hpl : e.platform.magicAccessors = ({} : Platform).magicAccessors := by rw [X.admits.platform]
  have a' : ∀ x, x ∈ Bundle.ownAtoms0 own ic cls names → x.holds args s none s [] = true := fun x hx => h x hx
  obtain ⟨T, Z, L, LZ, Y⟩ := ThrowableC.of_atoms (args := args) howns hfin hpl (fun x hx => h x (by simp [Bundle.ownAtoms0, hx]))
  obtain ⟨P1, Ps, hlen, L1, hL, hP1m, hlink1, hlink⟩ := Bundle.chain0 (args := args) hpl Y.init0 names cls hcls hnames (fun x hx => h x (by simp [Bundle.ownAtoms0, hx]))
  have hfound : s.vm.findClass cls = some P1.m.cls := findClass_of_methodNamed hP1m
  cases Option.some.inj (hfoundX.symm.trans hfound)
  obtain ⟨c1, kX', hc1, hk, hord, -, -, hn6⟩ := Cond.instantiable_spec (a' (.instantiable cls 6) (by simp [Bundle.ownAtoms0]))
  cases Option.some.inj (hc1.symm.trans hfound)
  cases Option.some.inj (hkX.symm.trans hk)
  have hsel0 : selectMethod e.platform s.vm P1.m.cls T.fill0 = .method T.fill0 := by
    obtain ⟨c2, r2, m2, q1, q2, q3, q4, -⟩ := Cond.selects_spec (a' (.selects cls Bundle.tFill0 Bundle.tFill0) (by simp [Bundle.ownAtoms0]))
    cases Option.some.inj (q1.symm.trans hfound)
    cases Option.some.inj (q2.symm.trans (State.methodFound?_of_named Y.fill0 (by decide)))
    cases Option.some.inj (q3.symm.trans Y.fill0)
    rw [Launch.admits_selectMethod X.admits]; exact q4
  have hselF : selectMethod e.platform s.vm P1.m.cls T.fill = .method T.fill := by
    obtain ⟨c2, r2, m2, q1, q2, q3, q4, -⟩ := Cond.selects_spec (a' (.selects cls Bundle.tFill Bundle.tFill) (by simp [Bundle.ownAtoms0]))
    cases Option.some.inj (q1.symm.trans hfound)
    cases Option.some.inj (q2.symm.trans (State.methodFound?_of_named Y.fill (by decide)))
    cases Option.some.inj (q3.symm.trans Y.fill)
    rw [Launch.admits_selectMethod X.admits]; exact q4
  obtain ⟨cellS0, hcS0, hiss⟩ := Y.statics
  obtain ⟨u0, hu0⟩ := Cond.staticRefV Y.unassigned L.unassignedStatic L.statics hcS0 hiss (a' (.isRef (.static Bundle.tN "UNASSIGNED_STACK" Bundle.steD)) (by simp [Bundle.ownAtoms0]))
  obtain ⟨sen, hsen⟩ := Cond.staticRefV Y.sentinel L.sentinelStatic L.statics hcS0 hiss (a' (.isRef (.static Bundle.tN "SUPPRESSED_SENTINEL" Bundle.listD)) (by simp [Bundle.ownAtoms0]))
  obtain ⟨ci198, i198, fB, hk198, hg198, ha198, hsB, -, hnB, htB, hffB⟩ := Cond.ownField (t := .object "java/lang/Object") Y.found L.cls (by decide +kernel) (a' (.fieldLink Bundle.tN 198 Bundle.tN "backtrace" "Ljava/lang/Object;") (by simp [Bundle.ownAtoms0])) (a' (.lays Bundle.tN Bundle.tN "backtrace" "Ljava/lang/Object;") (by simp [Bundle.ownAtoms0])) e.platform hpl
  obtain ⟨cellS, hcS', heS, -, hkeep⟩ := X.same.2.2.2.2.2 T.aS cellS0 hcS0
  have hcellS : W.heap[T.aS]? = some cellS := hcS'
  have hout' : ∀ i, (⟨T.aS, i⟩ : Loc) ∉ locs := fun i hmem => by
    have := hlocs _ hmem cellS0 hcS0
    rw [hiss] at this; cases this
  have hknownS : cellS.vm ≠ .unknown := by
    rw [heS]; intro hu
    rw [show cellS0.vm = .unknown from hu] at hiss
    cases hiss
  have hneS : T.aS ≠ a := Nat.ne_of_lt (Nat.lt_of_lt_of_le (Array.getElem?_eq_some_iff.mp hcS0).1 hnew)
  obtain ⟨iM, hffM⟩ := Y.msg
  obtain ⟨tyC, dC, hdC, hdnC⟩ := Cond.laysAt hfound hk Y.cause (a' (.lays cls Bundle.tN "cause" "Ljava/lang/Throwable;") (by simp [Bundle.ownAtoms0]))
  obtain ⟨tyS, dS, hdS, hdnS⟩ := Cond.laysAt hfound hk Y.stack (a' (.lays cls Bundle.tN "stackTrace" Bundle.steD) (by simp [Bundle.ownAtoms0]))
  obtain ⟨tyP, dP, hdP, hdnP⟩ := Cond.laysAt hfound hk Y.supp (a' (.lays cls Bundle.tN "suppressedExceptions" Bundle.listD) (by simp [Bundle.ownAtoms0]))
  obtain ⟨tyM, dM, hdM, hdnM⟩ := Cond.laysAt hfound hk hffM (a' (.lays cls Bundle.tN "detailMessage" "Ljava/lang/String;") (by simp [Bundle.ownAtoms0]))
  obtain ⟨tyB, dB, hdB, hdnB⟩ := Cond.laysAt hfound hk hffB (a' (.lays cls Bundle.tN "backtrace" "Ljava/lang/Object;") (by simp [Bundle.ownAtoms0]))
  have bC := Cond.laysApart hdB hdC hdnB hdnC (by rw [hnB, Y.causeName]; decide)
  have bS := Cond.laysApart hdB hdS hdnB hdnS (by rw [hnB, Y.stackName]; decide)
  have bP := Cond.laysApart hdB hdP hdnB hdnP (by rw [hnB, Y.suppName]; decide)
  have hskip : SkipFacts T e.platform s (fun u => u) u0 ((preparedCellV T.toThrowableT (freshCell P1.m.cls kX) a u0 sen).withEntry W.cur) :=
    ⟨{ ci198 := ci198, i198 := i198, fBack := fB }, ⟨hk198, hg198, ha198, hsB⟩, by
      have := fresh_default (c := P1.m.cls) tyB
      rw [htB] at this
      simpa [preparedCellV, Cell.setSlot, Cell.withEntry, Array.getElem?_setIfInBounds, bC, bS, bP, bC.symm, bS.symm, bP.symm, defaultValue] using this, fun _ _ => rfl⟩
  obtain ⟨tm, methC, cdC, kC, vm₁, hnC, -, -, -, -, -, -, -, hW₁, st1⟩ := Steps.initCold (tb := p.tables) (e := e) (below := below) (s := s) (U := W) X.here hexec X.warmed hpl hown (t := Bundle.init0 cls) rfl rfl (Bundle.fit_spec hcls).2
    (a' (.methodLink own ic (Bundle.init0 cls)) (by simp [Bundle.ownAtoms0])) (h (.instanceMethod (Bundle.init0 cls)) (by cases names <;> simp [Bundle.ownAtoms0, Bundle.chain0Atoms, Bundle.passAtoms])) (bytes := Bundle.five) (maxL := 1) (h (.code (Bundle.init0 cls) Bundle.five 1 none) (by cases names <;> simp [Bundle.ownAtoms0, Bundle.chain0Atoms, Bundle.passAtoms]))
    (f := g) hg (a := a) (rest := .ref a :: rest) hstack hd6
  cases Option.some.inj (hnC.symm.trans hP1m)
  have X₁ := X.noted hW₁
  obtain ⟨vm₂, X₂, st2⟩ := X₁.ctorPlainOffV hexec (g := { g with stack := .ref a :: rest }) hg hsize T L Z LZ (P1 :: Ps)
    (fun P hP => by rcases List.mem_cons.mp hP with rfl | hP; exact L1; exact hL P hP) ⟨hlink1, hlink⟩ (u0 := u0) (sen := sen) (self := a) (cell := freshCell P1.m.cls kX) (cellS := cellS)
    hcell (fun _ => by simp) (by simp) rfl rfl hsel0 hselF hcellS hneS hknownS (by rw [hkeep _ (hout' _)]; exact hu0) (by rw [hkeep _ (hout' _)]; exact hsen)
    (Takes.of_laid hk hord tyC (by rw [Y.causeType]; rfl)) (Takes.of_laid hk hord tyS (by rw [Y.stackType]; exact fits_refV_array _ u0)) (Takes.of_laid hk hord tyP (by rw [Y.suppType]; exact fits_refV_object _ sen)) Y.objLocals hskip htr [] hd6
    (by simp only [List.length_cons, hlen]; omega) (by simp only [List.length_cons, hlen]; exact hRlocals)
  have hlt : a < ((W.setVm vm₁).setVm vm₂).heap.size := (Array.getElem?_eq_some_iff.mp hcell).1
  refine ⟨(W.setVm vm₁).setVm vm₂, _, _, X₂, fun y hy => ?_, hlt, rfl, rfl, fun target hwalk => st1 _ (fun acts => ?_)⟩
  · simp only [List.mem_cons, List.not_mem_nil, or_false] at hy
    rcases hy with rfl | rfl | rfl | rfl <;> rfl
  · rw [doInvoke_state]
    exact st2 _ hwalk
end VXK
section VXK2
variable {p : Program} {l : Launch} {e : Env} {R : Room} {s : State} {m : MethodId} {args : Array Value} {below : List Frame} {meth : Method} {c : Code} {H : Heap} {locs : List Loc} {cells slots : Nat} {Q : State → Prop}
variable {ls : Array Slot} {rest : List Value} {D : va_G} {cl : List vw_C} {tys : List (ClassId × FieldType)} {ws : va_W}
/-- 'new E("text")' that isn't thrown at once: the object goes on the stack -/
theorem vx_makeS {cc : ByteArray} {pc : Nat} (hexec : p.tables.exec = Jvm.exec) (hb : c.code = cc) (hl : l.stackTraces = false) {own cls text : String} {names : List String} {ik is ic sa ci : Nat} {A : Nat → Prop} {T0 : u_T}
    (hown : s.vm.findClass own = some m.cls) (hcls : Bundle.fit cls = true) (hnames : ∀ n ∈ names, Bundle.fit n = true)
    (hk : (Cond.classLink own ik cls).before args s = true) (hini : (Cond.initialized cls).before args s = true) (hstr : vk_R own is text sa s) (hat : ∀ w ∈ vx_atS own ic cls names, w.before args s = true)
    (hgood : ∀ w ∈ Cond.classLink own ik cls :: Cond.initialized cls :: vx_atS own ic cls names, vx_ot w = true)
    (hU : vx_Zq Bundle.tN "UNASSIGNED_STACK" Bundle.steD A s s.heap) (hN : vx_Zq Bundle.tN "SUPPRESSED_SENTINEL" Bundle.listD A s s.heap) (hS : va_S A s.heap H locs) (hsize : ls.size = c.maxLocals)
    (d0 : decode cc pc = .ok (.new ik, 3)) (d3 : decode cc (pc + 3) = .ok (.dup, 1)) (d4 : decode cc (pc + 4) = .ok (.ldc is, 2)) (d6 : decode cc (pc + 6) = .ok (.invokespecial ic, 3))
    (hK : va_K D cl tys s) (hP : va_P D cl ws H) (hD : va_D A ws) (hA : ∀ q, s.heap.size ≤ q → A q) (hc : cl[ci]? = some (cls, T0, 0))
    (hRframes : names.length + 3 < R.frames) (hRlocals : (rest.map fun v => v.category).sum + (13 * (names.length + 1) + 43) ≤ R.locals) (hRcells : cells + 1 ≤ R.cells) (hRslots : slots + 6 ≤ R.slots)
    (kk : ∀ (q : Nat) (H1 : Heap), va_P D cl (ws ++ [(q, .inr (ci, []))]) H1 → va_D A (ws ++ [(q, .inr (ci, []))]) → va_S A s.heap H1 locs → W p l e R s m args below meth c H1 locs (cells + 1) (slots + 6) Q (F0 m (pc + 9) ls (.ref q :: rest))) :
    W p l e R s m args below meth c H locs cells slots Q (F0 m pc ls rest) := by
  intro T hT X
  subst hT
  have htr : e.platform.stackTraces = false := (show e.platform.stackTraces = l.stackTraces by rw [X.admits.platform]).trans hl
  have Y := vx_rebase X (R' := { frames := R.frames, locals := R.locals, cells := 1, slots := 6 }) (Nat.le_refl _) (Nat.le_refl _) hRcells hRslots
  obtain ⟨s', hA'⟩ : ∃ z, z = (T.setVm s.vm).setFrames (.invoking m args :: below) := ⟨_, rfl⟩
  rw [← hA'] at Y
  have hvm : s'.vm = s.vm := by rw [hA']; rfl
  have hhp : s'.heap = T.heap := by rw [hA']; rfl
  have hW0 : s.WarmedH s'.vm := by rw [hvm]; exact State.WarmedH.refl s
  have hat' : ∀ w ∈ vx_atS own ic cls names, w.before args s' = true := fun w hw => vx_ot_at hW0 hvm.symm (hgood w (List.mem_cons_of_mem _ (List.mem_cons_of_mem _ hw))) (hat w hw)
  have hk' : (Cond.classLink own ik cls).before args s' = true := vx_ot_at hW0 hvm.symm (hgood _ List.mem_cons_self) hk
  have hini' : (Cond.initialized cls).before args s' = true := vx_ot_at hW0 hvm.symm (hgood _ (List.mem_cons_of_mem _ List.mem_cons_self)) hini
  have hU' : vx_Zq Bundle.tN "UNASSIGNED_STACK" Bundle.steD A s' s'.heap := by rw [hhp]; exact vx_Zq.moved hW0.alike (hU.kept hS.2.1)
  have hN' : vx_Zq Bundle.tN "SUPPRESSED_SENTINEL" Bundle.listD A s' s'.heap := by rw [hhp]; exact vx_Zq.moved hW0.alike (hN.kept hS.2.1)
  have h : ∀ w ∈ Bundle.ownAtoms own ic cls names, w.before args s' = true := vx_own hat' (vx_isRefq hU'.1) (vx_isRefq hN'.1) hU'.2.word hN'.2.word
  have hown' : s'.vm.findClass own = some m.cls := by rw [hvm]; exact hown
  have hins : (Cond.instantiable cls 6).before args s' = true := h _ (by simp [Bundle.ownAtoms])
  obtain ⟨vm₁, cX, kX, hfX, hkX, -, -, X₁, st1⟩ := Y.newCold hexec (own := own) (C := cls) (index := ik) (n := 6) hown' hk' hins hini'
    (g := F0 m pc ls rest) rfl (by rw [hb]; exact d0) (Nat.le_refl _) (Nat.le_refl _)
  generalize hT1 : (T.setVm vm₁).pushCell { cls := cX, slots := kX.instanceTypes.map defaultValue, vm := .none } = T1 at X₁ st1
  have hcat : (Value.ref T.heap.size).category = 1 := rfl
  have hcellA : T1.heap[T.heap.size]? = some (freshCell cX kX) := by rw [← hT1]; exact State.heap_pushCell_size _ _
  have d3' : decode c.code (pc + 3) = .ok (.dup, 1) := by rw [hb]; exact d3
  have d4' : decode c.code (pc + 4) = .ok (.ldc is, 2) := by rw [hb]; exact d4
  have hstr' : vk_R own is text sa s' := vk_R.warm hW0 hstr
  obtain ⟨V, ce, L, Z, hL, hlt, hcl9, hvm9, st⟩ := vx_ctorMadeS X₁ hexec htr (own := own) (cls := cls) (names := names) (ic := ic) hown' hcls hnames h (fun x hx => nomatch hx) hfX hkX hcellA (by rw [hhp]; exact Nat.le_refl _) (msg := .ref sa) rfl
    (g := { method := m, pc := pc + 6, locals := ls, stack := .ref sa :: .ref T.heap.size :: .ref T.heap.size :: rest, locked := none }) rfl hsize (rest := rest) rfl
    (by rw [hb]; exact d6) hRframes (by simp only [List.map_cons, List.sum_cons, hcat]; omega)
  have Z0 := Stand.forget (locs := []) Z (fun y hy => by rw [hL y hy, hhp]; exact Nat.le_refl _)
  obtain ⟨f1, f2⟩ := vx_frame Z0.same
  rw [hhp] at f1 f2
  have hcid : ce.cls = D.1 ci := by
    rw [hcl9]
    have h1 := (hK.1 ci _ hc).2.1
    rw [hvm] at hfX
    exact Option.some.inj (hfX.symm.trans h1)
  have hh : (V.setCell T.heap.size ce).heap[T.heap.size]? = some ce := heapAt_setCell_self (s := V) ce hlt
  subst hA'
  have X5 := vx_back9 X Y Z0
  have X6 : Stand p l e R s m args below meth c (V.setCell T.heap.size ce) locs (cells + 1) (slots + 6) := { X5 with same := X5.same.mono (by omega) (by omega) }
  have hk9 : ∀ (k : Nat) (x : Nat × va_E), ws[k]? = some x → (V.setCell T.heap.size ce).heap[x.1]? = T.heap[x.1]? := fun k x hx => f2 x.1 ((hP k x hx).lt) (fun z hz => nomatch hz)
  obtain ⟨t, a1, b1⟩ := kk T.heap.size (V.setCell T.heap.size ce).heap ((hP.kept hk9).app (fun k x hx => by
      have hz : k < 1 := (List.getElem?_eq_some_iff.mp hx).1
      rw [show k = 0 by omega] at hx
      cases hx
      exact ⟨_, hc, ce, hh, hcid, hvm9, fun k hk => absurd hk (Nat.not_lt_zero k)⟩)) (hD.push hP rfl (hA _ hS.1)) ⟨Nat.le_trans hS.1 f1, fun q h1 h2 => (f2 q (Nat.lt_of_lt_of_le h1 hS.1) (fun z hz => nomatch hz)).trans (hS.2.1 q h1 h2), hS.2.2⟩ _ rfl X6
  refine ⟨t, st1 _ ?_, b1⟩
  show Steps p.tables e below (T1.setTop { method := m, pc := pc + 3, locals := ls, stack := .ref T.heap.size :: rest, locked := none }) _
  jvm_step X₁.here [X₁.here.top, hexec, d3', Value.category]
  exact X₁.ldcString hexec (own := own) (text := text) (index := is) (a := sa) hown' hstr'.1 hstr'.2
    (g := { method := m, pc := pc + 4, locals := ls, stack := .ref T.heap.size :: .ref T.heap.size :: rest, locked := none }) rfl d4' _ (st _ a1)
/-- 'new E()' that isn't thrown at once: the object goes on the stack -/
theorem vx_make0 {cc : ByteArray} {pc : Nat} (hexec : p.tables.exec = Jvm.exec) (hb : c.code = cc) (hl : l.stackTraces = false) {own cls : String} {names : List String} {ik ic ci : Nat} {A : Nat → Prop} {T0 : u_T}
    (hown : s.vm.findClass own = some m.cls) (hcls : Bundle.fit cls = true) (hnames : ∀ n ∈ names, Bundle.fit n = true)
    (hk : (Cond.classLink own ik cls).before args s = true) (hini : (Cond.initialized cls).before args s = true) (hat : ∀ w ∈ vx_at0 own ic cls names, w.before args s = true)
    (hgood : ∀ w ∈ Cond.classLink own ik cls :: Cond.initialized cls :: vx_at0 own ic cls names, vx_ot w = true)
    (hU : vx_Zq Bundle.tN "UNASSIGNED_STACK" Bundle.steD A s s.heap) (hN : vx_Zq Bundle.tN "SUPPRESSED_SENTINEL" Bundle.listD A s s.heap) (hS : va_S A s.heap H locs) (hsize : ls.size = c.maxLocals)
    (d0 : decode cc pc = .ok (.new ik, 3)) (d3 : decode cc (pc + 3) = .ok (.dup, 1)) (d4 : decode cc (pc + 4) = .ok (.invokespecial ic, 3))
    (hK : va_K D cl tys s) (hP : va_P D cl ws H) (hD : va_D A ws) (hA : ∀ q, s.heap.size ≤ q → A q) (hc : cl[ci]? = some (cls, T0, 0))
    (hRframes : names.length + 3 < R.frames) (hRlocals : (rest.map fun v => v.category).sum + (13 * (names.length + 1) + 42) ≤ R.locals) (hRcells : cells + 1 ≤ R.cells) (hRslots : slots + 6 ≤ R.slots)
    (kk : ∀ (q : Nat) (H1 : Heap), va_P D cl (ws ++ [(q, .inr (ci, []))]) H1 → va_D A (ws ++ [(q, .inr (ci, []))]) → va_S A s.heap H1 locs → W p l e R s m args below meth c H1 locs (cells + 1) (slots + 6) Q (F0 m (pc + 7) ls (.ref q :: rest))) :
    W p l e R s m args below meth c H locs cells slots Q (F0 m pc ls rest) := by
  intro T hT X
  subst hT
  have htr : e.platform.stackTraces = false := (show e.platform.stackTraces = l.stackTraces by rw [X.admits.platform]).trans hl
  have Y := vx_rebase X (R' := { frames := R.frames, locals := R.locals, cells := 1, slots := 6 }) (Nat.le_refl _) (Nat.le_refl _) hRcells hRslots
  obtain ⟨s', hA'⟩ : ∃ z, z = (T.setVm s.vm).setFrames (.invoking m args :: below) := ⟨_, rfl⟩
  rw [← hA'] at Y
  have hvm : s'.vm = s.vm := by rw [hA']; rfl
  have hhp : s'.heap = T.heap := by rw [hA']; rfl
  have hW0 : s.WarmedH s'.vm := by rw [hvm]; exact State.WarmedH.refl s
  have hat' : ∀ w ∈ vx_at0 own ic cls names, w.before args s' = true := fun w hw => vx_ot_at hW0 hvm.symm (hgood w (List.mem_cons_of_mem _ (List.mem_cons_of_mem _ hw))) (hat w hw)
  have hk' : (Cond.classLink own ik cls).before args s' = true := vx_ot_at hW0 hvm.symm (hgood _ List.mem_cons_self) hk
  have hini' : (Cond.initialized cls).before args s' = true := vx_ot_at hW0 hvm.symm (hgood _ (List.mem_cons_of_mem _ List.mem_cons_self)) hini
  have hU' : vx_Zq Bundle.tN "UNASSIGNED_STACK" Bundle.steD A s' s'.heap := by rw [hhp]; exact vx_Zq.moved hW0.alike (hU.kept hS.2.1)
  have hN' : vx_Zq Bundle.tN "SUPPRESSED_SENTINEL" Bundle.listD A s' s'.heap := by rw [hhp]; exact vx_Zq.moved hW0.alike (hN.kept hS.2.1)
  have h : ∀ w ∈ Bundle.ownAtoms0 own ic cls names, w.before args s' = true := vx_own hat' (vx_isRefq hU'.1) (vx_isRefq hN'.1) hU'.2.word hN'.2.word
  have hown' : s'.vm.findClass own = some m.cls := by rw [hvm]; exact hown
  have hins : (Cond.instantiable cls 6).before args s' = true := h _ (by simp [Bundle.ownAtoms0])
  obtain ⟨vm₁, cX, kX, hfX, hkX, -, -, X₁, st1⟩ := Y.newCold hexec (own := own) (C := cls) (index := ik) (n := 6) hown' hk' hins hini'
    (g := F0 m pc ls rest) rfl (by rw [hb]; exact d0) (Nat.le_refl _) (Nat.le_refl _)
  generalize hT1 : (T.setVm vm₁).pushCell { cls := cX, slots := kX.instanceTypes.map defaultValue, vm := .none } = T1 at X₁ st1
  have hcat : (Value.ref T.heap.size).category = 1 := rfl
  have hcellA : T1.heap[T.heap.size]? = some (freshCell cX kX) := by rw [← hT1]; exact State.heap_pushCell_size _ _
  have d3' : decode c.code (pc + 3) = .ok (.dup, 1) := by rw [hb]; exact d3
  obtain ⟨V, ce, L, Z, hL, hlt, hcl9, hvm9, st⟩ := vx_ctorMade0 X₁ hexec htr (own := own) (cls := cls) (names := names) (ic := ic) hown' hcls hnames h (fun x hx => nomatch hx) hfX hkX hcellA (by rw [hhp]; exact Nat.le_refl _)
    (g := { method := m, pc := pc + 4, locals := ls, stack := .ref T.heap.size :: .ref T.heap.size :: rest, locked := none }) rfl hsize (rest := rest) rfl
    (by rw [hb]; exact d4) hRframes (by simp only [List.map_cons, List.sum_cons, hcat]; omega)
  have Z0 := Stand.forget (locs := []) Z (fun y hy => by rw [hL y hy, hhp]; exact Nat.le_refl _)
  obtain ⟨f1, f2⟩ := vx_frame Z0.same
  rw [hhp] at f1 f2
  have hcid : ce.cls = D.1 ci := by
    rw [hcl9]
    have h1 := (hK.1 ci _ hc).2.1
    rw [hvm] at hfX
    exact Option.some.inj (hfX.symm.trans h1)
  have hh : (V.setCell T.heap.size ce).heap[T.heap.size]? = some ce := heapAt_setCell_self (s := V) ce hlt
  subst hA'
  have X5 := vx_back9 X Y Z0
  have X6 : Stand p l e R s m args below meth c (V.setCell T.heap.size ce) locs (cells + 1) (slots + 6) := { X5 with same := X5.same.mono (by omega) (by omega) }
  have hk9 : ∀ (k : Nat) (x : Nat × va_E), ws[k]? = some x → (V.setCell T.heap.size ce).heap[x.1]? = T.heap[x.1]? := fun k x hx => f2 x.1 ((hP k x hx).lt) (fun z hz => nomatch hz)
  obtain ⟨t, a1, b1⟩ := kk T.heap.size (V.setCell T.heap.size ce).heap ((hP.kept hk9).app (fun k x hx => by
      have hz : k < 1 := (List.getElem?_eq_some_iff.mp hx).1
      rw [show k = 0 by omega] at hx
      cases hx
      exact ⟨_, hc, ce, hh, hcid, hvm9, fun k hk => absurd hk (Nat.not_lt_zero k)⟩)) (hD.push hP rfl (hA _ hS.1)) ⟨Nat.le_trans hS.1 f1, fun q h1 h2 => (f2 q (Nat.lt_of_lt_of_le h1 hS.1) (fun z hz => nomatch hz)).trans (hS.2.1 q h1 h2), hS.2.2⟩ _ rfl X6
  refine ⟨t, st1 _ ?_, b1⟩
  show Steps p.tables e below (T1.setTop { method := m, pc := pc + 3, locals := ls, stack := .ref T.heap.size :: rest, locked := none }) _
  jvm_step X₁.here [X₁.here.top, hexec, d3', Value.category]
  exact st _ a1
/-- 'throw x' of an object that was made before -/
theorem vx_athrow {cc : ByteArray} {pc : Nat} (hexec : p.tables.exec = Jvm.exec) (hb : c.code = cc) {q : Addr} (hdg : decode cc pc = .ok (.athrow, 1)) (k : vx_W p l e R s m args below meth c H locs cells slots Q (F0 m pc ls rest) q) : W p l e R s m args below meth c H locs cells slots Q (F0 m pc ls (.ref q :: rest)) := by
  intro T hT X
  obtain ⟨t, st, hq⟩ := k T hT X
  refine ⟨t, ?_, hq⟩
  have hdg' : decode c.code pc = .ok (.athrow, 1) := by rw [hb]; exact hdg
  jvm_step X.here [X.here.top, hexec, hdg', athrow.wp_sem]
  exact st
end VXK2
/-! ===== END ===== -/
/-! ===== BEGIN a constructor that throws (launches without stack traces) ===== -/
section VXIA
variable {p : Program} {l : Launch} {e : Env} {R : Room} {s : State} {m : MethodId} {args : Array Value} {below : List Frame} {meth : Method} {c : Code} {T : State} {locs : List Loc} {cells slots : Nat}
theorem vx_callI (X : Stand p l e R s m args below meth c T locs cells slots) (hexec : p.tables.exec = Jvm.exec) {own : String} {index : Nat} {y : MethodName} {bytes : ByteArray} {maxL : Nat}
    (hown : s.vm.findClass own = some m.cls) (hy1 : y.name = "<init>") (hlink : (Cond.methodLink own index y).before args s = true) (hinst : (Cond.instanceMethod y).before args s = true)
    (hcode : (Cond.code y bytes maxL none).before args s = true) (hy : y.cls ≠ "java/lang/invoke/MethodHandle" ∧ y.cls ≠ "java/lang/invoke/VarHandle")
    {W9 : Nat} {Pre : Pt → Array Value → Prop} {Post : Pt → Array Value → Option Value → Pt → Prop} {PostX : Pt → Array Value → Addr → Pt → Prop} (hK : vx_Back l R p e below s args y 3 W9 Pre Post PostX)
    {g : JFrame} (hg : g.method = m) (hsize : g.locals.size = c.maxLocals) {a : Addr} {argsL rest : List Value} (hlen : ∀ sig, parseMethodDescriptor y.desc = some sig → argsL.length = sig.parameters.length)
    (hstack : g.stack = argsL.reverse ++ .ref a :: rest) (hW : 2 * g.monitorRoom + (rest.map fun v => v.category).sum ≤ W9) (hdg : decode c.code g.pc = .ok (.invokespecial index, 3))
    (hpre : ∀ vm₁, s.WarmedH vm₁ → Pre ⟨T.setVm vm₁, locs, cells, slots⟩ (Value.ref a :: argsL).toArray) :
    (∃ (v : Option Value) (vm₁ : Vm) (B : Pt), s.WarmedH vm₁ ∧ Stand p l e R s m args below meth c B.U B.locs B.cells B.slots ∧ Post ⟨T.setVm vm₁, locs, cells, slots⟩ (Value.ref a :: argsL).toArray v B ∧
      ∀ target, Steps p.tables e below (B.U.setTop { g with pc := g.pc + 3, stack := v.toList ++ rest }) target → Steps p.tables e below (T.setTop g) target) ∨
    (∃ (q : Addr) (vm₁ : Vm) (B : Pt), s.WarmedH vm₁ ∧ Stand p l e R s m args below meth c B.U B.locs B.cells B.slots ∧ PostX ⟨T.setVm vm₁, locs, cells, slots⟩ (Value.ref a :: argsL).toArray q B ∧
      Steps p.tables e below (T.setTop g) ((B.U.setTop { g with stack := rest }).pushFrame (.throwing q))) := by
  subst hg
  have hpl : e.platform.magicAccessors = ({} : Platform).magicAccessors := by rw [X.admits.platform]
  obtain ⟨mk, methM, cM, kP, vm₁, hnamed, hmethM, hcodeM, -, hlocalsM, -, hkP, -, hW₁, hstep₁⟩ := Steps.initColdArgs (e := e) X.here hexec X.warmed hpl hown hy1 hy hlink hinst hcode (f := g) rfl hlen hstack hdg
  have X₁ := X.noted hW₁
  rcases hK g.method meth c ⟨T.setVm vm₁, locs, cells, slots⟩ { g with stack := rest } (.invokespecial index) mk (Value.ref a :: argsL).toArray X₁ rfl hsize hdg hW (X₁.named hnamed) (hpre vm₁ X₁.warmed) with ⟨v, B, X', hpost, hsteps⟩ | ⟨q, B, X', hpost, hsteps⟩
  · exact Or.inl ⟨v, vm₁, B, X₁.warmed, X', hpost, fun target h => hstep₁ _ fun acts => by rw [doInvoke_state]; exact hsteps.trans h⟩
  · exact Or.inr ⟨q, vm₁, B, X₁.warmed, X', hpost, hstep₁ _ fun acts => by rw [doInvoke_state]; exact hsteps⟩
end VXIA
section VXIB
variable {p : Program} {l : Launch} {e : Env} {R : Room} {s : State} {m : MethodId} {args : Array Value} {below : List Frame} {meth : Method} {c : Code} {H : Heap} {locs : List Loc} {cells slots : Nat}
variable {y : MethodName} {bytes cc : ByteArray} {maxL nL mc ms n index : Nat} {ret : Option FieldType} {ws : List Cond} {rm : Room} {Pc : Array Value → State → Prop} {Qc : Array Value → State → Outcome → State → Prop} {XC : String → State → State → Prop} {free : Addr → Prop} {Ts : List Cond} {own C : String} {b : Addr} {As rest : List Value} {g : JFrame}
theorem vx_runI (S : CallFix p m c cc nL s args Ts own) (hM : vx_Met l y ws rm Pc Qc XC mc ms free) (cw : CallB R s args own index y bytes maxL none ws rm mc ms n ∧ y.name = "<init>" ∧ (Cond.instanceMethod y).before args s = true) (hp : PreS s H Pc (.ref b :: As))
    (hg : g.method = m) (hn : As.length = n) (hsize : g.locals.size = nL) (hstack : g.stack = As.reverse ++ .ref b :: rest) (hW : 2 * g.monitorRoom + (rest.map fun v => v.category).sum ≤ 8) (hdg : decode cc g.pc = .ok (.invokespecial index, 3)) (hf : cells + mc ≤ R.cells ∧ slots + ms ≤ R.slots) :
    vx_Run p l e R s m args below meth c H locs cells slots mc ms g rest (Qc (Value.ref b :: As).toArray) XC free := by
  have hK : vx_Back l R p e below s args y 3 8 (PreOf R mc ms Pc) (PostOf Qc mc ms free) (vx_Post XC mc ms free) := vx_callBack cw.1 hM hp.1
  obtain ⟨⟨-, -, -, -, -, -, hcode, -, hy, hlen, hl⟩, hy1, hin⟩ := cw
  obtain ⟨hx, hb, hml, ho, -⟩ := S
  have hPc := hp.2
  intro T hT X
  rcases vx_callI X hx (bytes := bytes) (maxL := maxL) ho hy1 hl hin hcode hy hK hg (hsize.trans hml.symm) (a := b) (argsL := As) (rest := rest) (fun sig h => hn.trans (hlen sig h)) hstack hW (by rw [hb]; exact hdg)
    (fun vm₁ hW₁ => ⟨hf.1, hf.2, hPc (T.setVm vm₁) hT hW₁⟩) with ⟨v, vm₁, ⟨U', l2, c2, s2⟩, hW₁, X', ⟨g', mk, t, L, e1, e2, hq, h1, hL, h2, h3⟩, st⟩ | ⟨q, vm₁, ⟨U', l2, c2, s2⟩, hW₁, X', ⟨g', mk, t, L, E, ce, e1, e2, hq, hce, hcv, hcl, h1, hL, h2, h3⟩, st⟩
  · dsimp only [Pt.U, Pt.locs, Pt.cells, Pt.slots] at X' e1 e2 h1 h2 h3 st
    subst h1; subst h2; subst h3
    exact Or.inl ⟨v, (T.setVm vm₁).calling g' mk (Value.ref b :: As).toArray, t, U', L, hT, X', hL, e1, e2, hq, st⟩
  · dsimp only [Pt.U, Pt.locs, Pt.cells, Pt.slots] at X' e1 e2 h1 h2 h3 st hcl
    subst h1; subst h2; subst h3
    exact Or.inr ⟨q, (T.setVm vm₁).calling g' mk (Value.ref b :: As).toArray, t, U', L, E, ce, hT, X', hL, e1, e2, hq, hce, hcv, vx_cls hW₁ hcl, st⟩
end VXIB
/-! ===== END ===== -/
/-! ===== BEGIN a private constructor of a nest mate that throws ===== -/
section VXIC
variable {p : Program} {l : Launch} {e : Env} {R : Room} {s : State} {m : MethodId} {args : Array Value} {below : List Frame} {meth : Method} {c : Code} {T : State} {locs : List Loc} {cells slots : Nat}
theorem vx_callIN (X : Stand p l e R s m args below meth c T locs cells slots) (hexec : p.tables.exec = Jvm.exec) {own : String} {index : Nat} {host : String} {y : MethodName} {bytes : ByteArray} {maxL : Nat}
    (hown : s.vm.findClass own = some m.cls) (hy1 : y.name = "<init>") (hlink : (Cond.methodLinkNest own index y host).before args s = true) (hinst : (Cond.instanceMethod y).before args s = true)
    (hcode : (Cond.code y bytes maxL none).before args s = true) (hy : y.cls ≠ "java/lang/invoke/MethodHandle" ∧ y.cls ≠ "java/lang/invoke/VarHandle")
    {W9 : Nat} {Pre : Pt → Array Value → Prop} {Post : Pt → Array Value → Option Value → Pt → Prop} {PostX : Pt → Array Value → Addr → Pt → Prop} (hK : vx_Back l R p e below s args y 3 W9 Pre Post PostX)
    {g : JFrame} (hg : g.method = m) (hsize : g.locals.size = c.maxLocals) {a : Addr} {argsL rest : List Value} (hlen : ∀ sig, parseMethodDescriptor y.desc = some sig → argsL.length = sig.parameters.length)
    (hstack : g.stack = argsL.reverse ++ .ref a :: rest) (hW : 2 * g.monitorRoom + (rest.map fun v => v.category).sum ≤ W9) (hdg : decode c.code g.pc = .ok (.invokespecial index, 3))
    (hpre : ∀ vm₁, s.WarmedH vm₁ → Pre ⟨T.setVm vm₁, locs, cells, slots⟩ (Value.ref a :: argsL).toArray) :
    (∃ (v : Option Value) (vm₁ : Vm) (B : Pt), s.WarmedH vm₁ ∧ Stand p l e R s m args below meth c B.U B.locs B.cells B.slots ∧ Post ⟨T.setVm vm₁, locs, cells, slots⟩ (Value.ref a :: argsL).toArray v B ∧
      ∀ target, Steps p.tables e below (B.U.setTop { g with pc := g.pc + 3, stack := v.toList ++ rest }) target → Steps p.tables e below (T.setTop g) target) ∨
    (∃ (q : Addr) (vm₁ : Vm) (B : Pt), s.WarmedH vm₁ ∧ Stand p l e R s m args below meth c B.U B.locs B.cells B.slots ∧ PostX ⟨T.setVm vm₁, locs, cells, slots⟩ (Value.ref a :: argsL).toArray q B ∧
      Steps p.tables e below (T.setTop g) ((B.U.setTop { g with stack := rest }).pushFrame (.throwing q))) := by
  subst hg
  have hpl : e.platform.magicAccessors = ({} : Platform).magicAccessors := by rw [X.admits.platform]
  obtain ⟨mk, methM, cM, kP, vm₁, hnamed, hmethM, hcodeM, -, hlocalsM, -, hkP, -, hW₁, hstep₁⟩ := Steps.initColdArgsNest (e := e) X.here hexec X.warmed hpl hown hy1 hy hlink hinst hcode (f := g) rfl hlen hstack hdg
  have X₁ := X.noted hW₁
  rcases hK g.method meth c ⟨T.setVm vm₁, locs, cells, slots⟩ { g with stack := rest } (.invokespecial index) mk (Value.ref a :: argsL).toArray X₁ rfl hsize hdg hW (X₁.named hnamed) (hpre vm₁ X₁.warmed) with ⟨v, B, X', hpost, hsteps⟩ | ⟨q, B, X', hpost, hsteps⟩
  · exact Or.inl ⟨v, vm₁, B, X₁.warmed, X', hpost, fun target h => hstep₁ _ fun acts => by rw [doInvoke_state]; exact hsteps.trans h⟩
  · exact Or.inr ⟨q, vm₁, B, X₁.warmed, X', hpost, hstep₁ _ fun acts => by rw [doInvoke_state]; exact hsteps⟩
end VXIC
section VXID
variable {p : Program} {l : Launch} {e : Env} {R : Room} {s : State} {m : MethodId} {args : Array Value} {below : List Frame} {meth : Method} {c : Code} {H : Heap} {locs : List Loc} {cells slots : Nat}
theorem vx_runIN {y : MethodName} {bytes cc : ByteArray} {maxL nL mc ms n index : Nat} {ws : List Cond} {rm : Room} {Pc : Array Value → State → Prop} {Qc : Array Value → State → Outcome → State → Prop} {XC : String → State → State → Prop} {free : Addr → Prop} {Ts : List Cond} {own host : String} {b : Addr} {As rest : List Value} {g : JFrame}
    (S : CallFix p m c cc nL s args Ts own) (hM : vx_Met l y ws rm Pc Qc XC mc ms free) (cw : va_CN R s args own index y host bytes maxL none ws rm mc ms n ∧ y.name = "<init>" ∧ (Cond.instanceMethod y).before args s = true) (hp : PreS s H Pc (.ref b :: As))
    (hg : g.method = m) (hn : As.length = n) (hsize : g.locals.size = nL) (hstack : g.stack = As.reverse ++ .ref b :: rest) (hW : 2 * g.monitorRoom + (rest.map fun v => v.category).sum ≤ 8) (hdg : decode cc g.pc = .ok (.invokespecial index, 3)) (hf : cells + mc ≤ R.cells ∧ slots + ms ≤ R.slots) :
    vx_Run p l e R s m args below meth c H locs cells slots mc ms g rest (Qc (Value.ref b :: As).toArray) XC free := by
  obtain ⟨⟨⟨hrc, hrs, hfr, hlo, hws, hcw⟩, hcode, hini, hy, hlen, hl⟩, hx1, hx2⟩ := cw
  have hK : vx_Back l R p e below s args y 3 8 (PreOf R mc ms Pc) (PostOf Qc mc ms free) (vx_Post XC mc ms free) := vx_back (bytes := bytes) (maxL := maxL) (ret := none) hM hp.1 hrc hrs hfr hlo hws hcw (fun a' U hW => word_at hW (Or.inl (by first | rfl | simp [Cond.onTables, Cond.keeps, Cond.steady])) hini)
  obtain ⟨hx, hb, hml, ho, -⟩ := S
  have hPc := hp.2
  intro T hT X
  rcases vx_callIN X hx (bytes := bytes) (maxL := maxL) ho hx1 hl hx2 hcode hy hK hg (hsize.trans hml.symm) (a := b) (argsL := As) (rest := rest) (fun sig h => hn.trans (hlen sig h)) hstack hW (by rw [hb]; exact hdg)
    (fun vm₁ hW₁ => ⟨hf.1, hf.2, hPc (T.setVm vm₁) hT hW₁⟩) with ⟨v, vm₁, ⟨U', l2, c2, s2⟩, hW₁, X', ⟨g', mk, t, L, e1, e2, hq, h1, hL, h2, h3⟩, st⟩ | ⟨q, vm₁, ⟨U', l2, c2, s2⟩, hW₁, X', ⟨g', mk, t, L, E, ce, e1, e2, hq, hce, hcv, hcl, h1, hL, h2, h3⟩, st⟩
  · dsimp only [Pt.U, Pt.locs, Pt.cells, Pt.slots] at X' e1 e2 h1 h2 h3 st
    subst h1; subst h2; subst h3
    exact Or.inl ⟨v, (T.setVm vm₁).calling g' mk (Value.ref b :: As).toArray, t, U', L, hT, X', hL, e1, e2, hq, st⟩
  · dsimp only [Pt.U, Pt.locs, Pt.cells, Pt.slots] at X' e1 e2 h1 h2 h3 st hcl
    subst h1; subst h2; subst h3
    exact Or.inr ⟨q, (T.setVm vm₁).calling g' mk (Value.ref b :: As).toArray, t, U', L, E, ce, hT, X', hL, e1, e2, hq, hce, hcv, vx_cls hW₁ hcl, st⟩
end VXID
/-! ===== END ===== -/
/-! ===== BEGIN a method of a class above, found by the receiver, that may throw (follows va_callVU, va_runU of this kit) ===== -/
section
variable {p : Program} {l : Launch} {e : Env} {R : Room} {s : State} {m : MethodId} {args : Array Value} {below : List Frame} {meth : Method} {c : Code} {H : Heap} {locs : List Loc} {cells slots : Nat}
theorem vx_callVU {T : State} {locs : List Loc} {cells slots : Nat} (X : Stand p l e R s m args below meth c T locs cells slots) (hexec : p.tables.exec = Jvm.exec) {own C owner : String} {index : Nat} {x y : MethodName} {bytes : ByteArray} {maxL : Nat} {ret : Option FieldType}
    (hown : s.vm.findClass own = some m.cls) (hlink : (Cond.methodLink own index x).before args s = true) (hsame : (Cond.sameMethod x.cls owner x.name x.desc).before args s = true)
    (hd0 : va_Decl s ⟨owner, x.name, x.desc⟩) (howner : owner ≠ "java/lang/invoke/MethodHandle" ∧ owner ≠ "java/lang/invoke/VarHandle")
    (hsel : (Cond.selects C x y).before args s = true) (hinst : (Cond.instanceMethod y).before args s = true) (hcode : (Cond.code y bytes maxL ret).before args s = true)
    {W : Nat} {Pre : Pt → Array Value → Prop} {Post : Pt → Array Value → Option Value → Pt → Prop} {PostX : Pt → Array Value → Addr → Pt → Prop} (hK : vx_Back l R p e below s args y 3 W Pre Post PostX)
    {b : Addr} {cellB : Cell} (hcell : T.heap[b]? = some cellB) (hobj : cellB.vm.isStatics = false) (hcls : s.vm.findClass C = some cellB.cls)
    {g : JFrame} (hg : g.method = m) (hsize : g.locals.size = c.maxLocals) {argsL rest : List Value} (hlen : ∀ sig, parseMethodDescriptor x.desc = some sig → argsL.length = sig.parameters.length)
    (hstack : g.stack = argsL.reverse ++ .ref b :: rest) (hW : 2 * g.monitorRoom + (rest.map fun v => v.category).sum ≤ W) (hdg : decode c.code g.pc = .ok (.invokevirtual index, 3))
    (hpre : ∀ vm₁, s.WarmedH vm₁ → Pre ⟨T.setVm vm₁, locs, cells, slots⟩ (Value.ref b :: argsL).toArray) :
    (∃ (v : Option Value) (vm₁ : Vm) (B : Pt), s.WarmedH vm₁ ∧ Stand p l e R s m args below meth c B.U B.locs B.cells B.slots ∧ Post ⟨T.setVm vm₁, locs, cells, slots⟩ (Value.ref b :: argsL).toArray v B ∧
      ∀ target, Steps p.tables e below (B.U.setTop { g with pc := g.pc + 3, stack := v.toList ++ rest }) target → Steps p.tables e below (T.setTop g) target) ∨
    (∃ (q : Addr) (vm₁ : Vm) (B : Pt), s.WarmedH vm₁ ∧ Stand p l e R s m args below meth c B.U B.locs B.cells B.slots ∧ PostX ⟨T.setVm vm₁, locs, cells, slots⟩ (Value.ref b :: argsL).toArray q B ∧
      Steps p.tables e below (T.setTop g) ((B.U.setTop { g with stack := rest }).pushFrame (.throwing q))) := by
  obtain ⟨r0, r, hn, hrm, hstR, hsigR⟩ := hd0
  obtain ⟨cn, ck, r1, hcn, hck, hni, hf, hn1⟩ := Cond.sameMethod_found hsame
  cases hn.symm.trans hn1
  obtain ⟨mk, methM, hnamed, hmethM, -, habM⟩ := Cond.instanceMethod_spec hinst
  obtain ⟨c2, r2, m2, q1, q2, q3, q4, kP, hkP, hkPi⟩ := Cond.selects_spec hsel
  cases hcls.symm.trans q1
  cases hf.symm.trans q2
  cases hnamed.symm.trans q3
  have hselP : selectMethod e.platform s.vm cellB.cls r0 = .method mk := by rw [Launch.admits_selectMethod X.admits]; exact q4
  obtain ⟨vm₁, X₁, hstep₁⟩ := X.invokevirtualUp hexec hown hlink hsame howner hn hrm hstR (a := b) (cell := cellB) hcell
    (fun z h => by rw [h] at hobj; cases hobj) hselP hmethM habM hkP hkPi (g := g) hg (argsL := argsL) (rest := rest) (hlen _ hsigR) hstack hdg
  rcases hK m meth c ⟨T.setVm vm₁, locs, cells, slots⟩ { g with stack := rest } (.invokevirtual index) mk (Value.ref b :: argsL).toArray X₁ hg hsize hdg hW (X₁.named hnamed) (hpre vm₁ X₁.warmed) with ⟨v, B, X', hpost, hsteps⟩ | ⟨q, B, X', hpost, hsteps⟩
  · exact Or.inl ⟨v, vm₁, B, X₁.warmed, X', hpost, fun target h => hstep₁ _ fun acts => by rw [doInvoke_state]; exact hsteps.trans h⟩
  · exact Or.inr ⟨q, vm₁, B, X₁.warmed, X', hpost, hstep₁ _ fun acts => by rw [doInvoke_state]; exact hsteps⟩
theorem vx_runU {x y : MethodName} {bytes cc : ByteArray} {maxL nL mc ms n index : Nat} {ret : Option FieldType} {ws : List Cond} {rm : Room} {Pc : Array Value → State → Prop} {Qc : Array Value → State → Outcome → State → Prop} {XC : String → State → State → Prop} {free : Addr → Prop} {Ts : List Cond} {own C owner : String} {b : Addr} {As rest : List Value} {g : JFrame}
    (S : CallFix p m c cc nL s args Ts own) (hM : vx_Met l y ws rm Pc Qc XC mc ms free) (cw : va_CU R s args own C owner index x y bytes maxL ret ws rm mc ms n) (hp : PreV s H C b Pc As)
    (hg : g.method = m) (hn : As.length = n) (hsize : g.locals.size = nL) (hstack : g.stack = As.reverse ++ .ref b :: rest) (hW : 2 * g.monitorRoom + (rest.map fun v => v.category).sum ≤ 8) (hdg : decode cc g.pc = .ok (.invokevirtual index, 3)) (hf : cells + mc ≤ R.cells ∧ slots + ms ≤ R.slots) :
    vx_Run p l e R s m args below meth c H locs cells slots mc ms g rest (Qc (Value.ref b :: As).toArray) XC free := by
  obtain ⟨hrc, hrs, hfr, hlo, hws, hcw⟩ := cw.back
  have hini := cw.init
  have hK : vx_Back l R p e below s args y 3 8 (PreOf R mc ms Pc) (PostOf Qc mc ms free) (vx_Post XC mc ms free) := vx_back (bytes := bytes) (maxL := maxL) (ret := ret) hM hp.1 hrc hrs hfr hlo hws hcw (fun a' U hW => word_at hW (Or.inl (by first | rfl | simp [Cond.onTables, Cond.keeps, Cond.steady])) hini)
  obtain ⟨hx, hb, hml, ho, -⟩ := S
  obtain ⟨-, ⟨cellB, hcB, hoB, hclB⟩, hPc⟩ := hp
  intro T hT X
  rcases vx_callVU X hx (C := C) (owner := owner) (bytes := bytes) (maxL := maxL) (ret := ret) ho cw.link cw.same cw.decl cw.notMH cw.sel cw.inst cw.code hK (by rw [hT]; exact hcB) hoB hclB hg (hsize.trans hml.symm) (argsL := As) (rest := rest) (fun sig h => hn.trans (cw.len sig h)) hstack hW (by rw [hb]; exact hdg)
    (fun vm₁ hW₁ => ⟨hf.1, hf.2, hPc (T.setVm vm₁) hT hW₁⟩) with ⟨v, vm₁, ⟨U', l2, c2, s2⟩, hW₁, X', ⟨g', mk, t, L, e1, e2, hq, h1, hL, h2, h3⟩, st⟩ | ⟨q, vm₁, ⟨U', l2, c2, s2⟩, hW₁, X', ⟨g', mk, t, L, E, ce, e1, e2, hq, hce, hcv, hcl, h1, hL, h2, h3⟩, st⟩
  · dsimp only [Pt.U, Pt.locs, Pt.cells, Pt.slots] at X' e1 e2 h1 h2 h3 st
    subst h1; subst h2; subst h3
    exact Or.inl ⟨v, (T.setVm vm₁).calling g' mk (Value.ref b :: As).toArray, t, U', L, hT, X', hL, e1, e2, hq, st⟩
  · dsimp only [Pt.U, Pt.locs, Pt.cells, Pt.slots] at X' e1 e2 h1 h2 h3 st hcl
    subst h1; subst h2; subst h3
    exact Or.inr ⟨q, (T.setVm vm₁).calling g' mk (Value.ref b :: As).toArray, t, U', L, E, ce, hT, X', hL, e1, e2, hq, hce, hcv, vx_cls hW₁ hcl, st⟩
end
/-! ===== END ===== -/
/-! ===== BEGIN super.m(..) that may throw (follows va_callSU, va_runSU) ===== -/
section
variable {p : Program} {l : Launch} {e : Env} {R : Room} {s : State} {m : MethodId} {args : Array Value} {below : List Frame} {meth : Method} {c : Code} {H : Heap} {locs : List Loc} {cells slots : Nat}
theorem vx_callSU {T : State} {locs : List Loc} {cells slots : Nat} (X : Stand p l e R s m args below meth c T locs cells slots) (hexec : p.tables.exec = Jvm.exec) {own : String} {index : Nat} {y : MethodName} {bytes : ByteArray} {maxL : Nat} {ret : Option FieldType}
    (hown : s.vm.findClass own = some m.cls) (hlink : (Cond.methodLink own index y).before args s = true) (hsame : (Cond.sameMethod y.cls y.cls y.name y.desc).before args s = true) (hsup : (Cond.superclass own y.cls).before args s = true)
    (hinst : (Cond.instanceMethod y).before args s = true) (hcode : (Cond.code y bytes maxL ret).before args s = true) (hno : y.name ≠ "<init>")
    {W : Nat} {Pre : Pt → Array Value → Prop} {Post : Pt → Array Value → Option Value → Pt → Prop} {PostX : Pt → Array Value → Addr → Pt → Prop} (hK : vx_Back l R p e below s args y 3 W Pre Post PostX)
    {b : Addr} {cellB : Cell} {kB : Class} (hcell : T.heap[b]? = some cellB) (hobj : cellB.vm.isStatics = false) (hkB : s.vm.classes[cellB.cls]? = some kB)
    {g : JFrame} (hg : g.method = m) (hsize : g.locals.size = c.maxLocals) {argsL rest : List Value} (hlen : ∀ sig, parseMethodDescriptor y.desc = some sig → argsL.length = sig.parameters.length)
    (hstack : g.stack = argsL.reverse ++ .ref b :: rest) (hW : 2 * g.monitorRoom + (rest.map fun v => v.category).sum ≤ W) (hdg : decode c.code g.pc = .ok (.invokespecial index, 3))
    (hpre : ∀ vm₁, s.WarmedH vm₁ → Pre ⟨T.setVm vm₁, locs, cells, slots⟩ (Value.ref b :: argsL).toArray) :
    (∃ (v : Option Value) (vm₁ : Vm) (B : Pt), s.WarmedH vm₁ ∧ Stand p l e R s m args below meth c B.U B.locs B.cells B.slots ∧ Post ⟨T.setVm vm₁, locs, cells, slots⟩ (Value.ref b :: argsL).toArray v B ∧
      ∀ target, Steps p.tables e below (B.U.setTop { g with pc := g.pc + 3, stack := v.toList ++ rest }) target → Steps p.tables e below (T.setTop g) target) ∨
    (∃ (q : Addr) (vm₁ : Vm) (B : Pt), s.WarmedH vm₁ ∧ Stand p l e R s m args below meth c B.U B.locs B.cells B.slots ∧ PostX ⟨T.setVm vm₁, locs, cells, slots⟩ (Value.ref b :: argsL).toArray q B ∧
      Steps p.tables e below (T.setTop g) ((B.U.setTop { g with stack := rest }).pushFrame (.throwing q))) := by
  obtain ⟨mk, methM, hnamed, hmethM, hstM, habM⟩ := Cond.instanceMethod_spec hinst
  obtain ⟨methM', cM, hmethM', -, -, -, -, -, -, hsigM⟩ := Cond.code_spec hnamed hcode
  cases hmethM.symm.trans hmethM'
  obtain ⟨ps, dk, kp, hps, hdk, hkp, hsuper, -, -, hnid⟩ := Cond.superclass_spec hown hsup
  have hn : s.methodNamed? ⟨y.cls, y.name, y.desc⟩ = some mk := hnamed
  have hpm : ps = mk.cls := Option.some.inj (hps.symm.trans (findClass_of_methodNamed hnamed))
  have hsub : s.vm.isSubclass ps mk.cls = true := by rw [hpm]; simp [Vm.isSubclass, Vm.isSubclassAux]
  obtain ⟨vm₁, X₁, hstep₁⟩ := X.invokespecialUp hexec hown hlink hsame hn hmethM hstM habM hno hdk hnid hps hsuper hsub (a := b) (cell := cellB) hcell
    (fun z h => by rw [h] at hobj; cases hobj) hkB (g := g) hg (argsL := argsL) (rest := rest) (hlen _ hsigM) hstack hdg
  rcases hK m meth c ⟨T.setVm vm₁, locs, cells, slots⟩ { g with stack := rest } (.invokespecial index) mk (Value.ref b :: argsL).toArray X₁ hg hsize hdg hW (X₁.named hnamed) (hpre vm₁ X₁.warmed) with ⟨v, B, X', hpost, hsteps⟩ | ⟨q, B, X', hpost, hsteps⟩
  · exact Or.inl ⟨v, vm₁, B, X₁.warmed, X', hpost, fun target h => hstep₁ _ (by rw [doInvoke_state]; exact hsteps.trans h)⟩
  · exact Or.inr ⟨q, vm₁, B, X₁.warmed, X', hpost, hstep₁ _ (by rw [doInvoke_state]; exact hsteps)⟩
theorem vx_runSU {y : MethodName} {bytes cc : ByteArray} {maxL nL mc ms n index : Nat} {ret : Option FieldType} {ws : List Cond} {rm : Room} {Pc : Array Value → State → Prop} {Qc : Array Value → State → Outcome → State → Prop} {XC : String → State → State → Prop} {free : Addr → Prop} {Ts : List Cond} {own C : String} {cC : ClassId} {b : Addr} {As rest : List Value} {g : JFrame}
    (hat : ClassAt s C cC) (S : CallFix p m c cc nL s args Ts own) (hM : vx_Met l y ws rm Pc Qc XC mc ms free) (cw : va_CS R s args own index y bytes maxL ret ws rm mc ms n) (hp : PreV s H C b Pc As)
    (hg : g.method = m) (hn : As.length = n) (hsize : g.locals.size = nL) (hstack : g.stack = As.reverse ++ .ref b :: rest) (hW : 2 * g.monitorRoom + (rest.map fun v => v.category).sum ≤ 8) (hdg : decode cc g.pc = .ok (.invokespecial index, 3)) (hf : cells + mc ≤ R.cells ∧ slots + ms ≤ R.slots) :
    vx_Run p l e R s m args below meth c H locs cells slots mc ms g rest (Qc (Value.ref b :: As).toArray) XC free := by
  obtain ⟨⟨hrc, hrs, hfr, hlo, hws, hcw⟩, hl1, hl2, hl3, hl4, hini, hcode, hno, hlen⟩ := cw
  have hK : vx_Back l R p e below s args y 3 8 (PreOf R mc ms Pc) (PostOf Qc mc ms free) (vx_Post XC mc ms free) := vx_back (bytes := bytes) (maxL := maxL) (ret := ret) hM hp.1 hrc hrs hfr hlo hws hcw (fun a' U hW => word_at hW (Or.inl (by first | rfl | simp [Cond.onTables, Cond.keeps, Cond.steady])) hini)
  obtain ⟨hx, hb, hml, ho, -⟩ := S
  obtain ⟨-, ⟨cellB, hcB, hoB, hclB⟩, hPc⟩ := hp
  obtain ⟨hfc, kB, hkB, -⟩ := hat
  cases hfc.symm.trans hclB
  intro T hT X
  rcases vx_callSU X hx (bytes := bytes) (maxL := maxL) (ret := ret) ho hl1 hl2 hl3 hl4 hcode hno hK (by rw [hT]; exact hcB) hoB hkB hg (hsize.trans hml.symm) (argsL := As) (rest := rest) (fun sig h => hn.trans (hlen sig h)) hstack hW (by rw [hb]; exact hdg)
    (fun vm₁ hW₁ => ⟨hf.1, hf.2, hPc (T.setVm vm₁) hT hW₁⟩) with ⟨v, vm₁, ⟨U', l2, c2, s2⟩, hW₁, X', ⟨g', mk, t, L, e1, e2, hq, h1, hL, h2, h3⟩, st⟩ | ⟨q, vm₁, ⟨U', l2, c2, s2⟩, hW₁, X', ⟨g', mk, t, L, E, ce, e1, e2, hq, hce, hcv, hcl, h1, hL, h2, h3⟩, st⟩
  · dsimp only [Pt.U, Pt.locs, Pt.cells, Pt.slots] at X' e1 e2 h1 h2 h3 st
    subst h1; subst h2; subst h3
    exact Or.inl ⟨v, (T.setVm vm₁).calling g' mk (Value.ref b :: As).toArray, t, U', L, hT, X', hL, e1, e2, hq, st⟩
  · dsimp only [Pt.U, Pt.locs, Pt.cells, Pt.slots] at X' e1 e2 h1 h2 h3 st hcl
    subst h1; subst h2; subst h3
    exact Or.inr ⟨q, (T.setVm vm₁).calling g' mk (Value.ref b :: As).toArray, t, U', L, E, ce, hT, X', hL, e1, e2, hq, hce, hcv, vx_cls hW₁ hcl, st⟩
end
/-! ===== END ===== -/
/-! ===== BEGIN a private method of a nest mate that may throw (follows va_callVN, va_callSN, va_runVN, va_runSN) ===== -/
section
variable {p : Program} {l : Launch} {e : Env} {R : Room} {s : State} {m : MethodId} {args : Array Value} {below : List Frame} {meth : Method} {c : Code} {H : Heap} {locs : List Loc} {cells slots : Nat}
variable {T : State}
theorem vx_callVN (X : Stand p l e R s m args below meth c T locs cells slots) (hexec : p.tables.exec = Jvm.exec) {own C : String} {index : Nat} {host : String} {y : MethodName} {bytes : ByteArray} {maxL : Nat} {ret : Option FieldType}
    (hown : s.vm.findClass own = some m.cls) (hlink : (Cond.methodLinkNest own index y host).before args s = true) (hinst : (Cond.instanceMethod y).before args s = true) (hsel : (Cond.selects C y y).before args s = true)
    (hcode : (Cond.code y bytes maxL ret).before args s = true) (hy : y.cls ≠ "java/lang/invoke/MethodHandle" ∧ y.cls ≠ "java/lang/invoke/VarHandle")
    {W : Nat} {Pre : Pt → Array Value → Prop} {Post : Pt → Array Value → Option Value → Pt → Prop} {PostX : Pt → Array Value → Addr → Pt → Prop} (hK : vx_Back l R p e below s args y 3 W Pre Post PostX)
    {b : Addr} {cellB : Cell} (hcell : T.heap[b]? = some cellB) (hobj : cellB.vm.isStatics = false) (hcls : s.vm.findClass C = some cellB.cls)
    {g : JFrame} (hg : g.method = m) (hsize : g.locals.size = c.maxLocals) {argsL rest : List Value} (hlen : ∀ sig, parseMethodDescriptor y.desc = some sig → argsL.length = sig.parameters.length)
    (hstack : g.stack = argsL.reverse ++ .ref b :: rest) (hW : 2 * g.monitorRoom + (rest.map fun v => v.category).sum ≤ W) (hdg : decode c.code g.pc = .ok (.invokevirtual index, 3))
    (hpre : ∀ vm₁, s.WarmedH vm₁ → Pre ⟨T.setVm vm₁, locs, cells, slots⟩ (Value.ref b :: argsL).toArray) :
    (∃ (v : Option Value) (vm₁ : Vm) (B : Pt), s.WarmedH vm₁ ∧ Stand p l e R s m args below meth c B.U B.locs B.cells B.slots ∧ Post ⟨T.setVm vm₁, locs, cells, slots⟩ (Value.ref b :: argsL).toArray v B ∧
      ∀ target, Steps p.tables e below (B.U.setTop { g with pc := g.pc + 3, stack := v.toList ++ rest }) target → Steps p.tables e below (T.setTop g) target) ∨
    (∃ (q : Addr) (vm₁ : Vm) (B : Pt), s.WarmedH vm₁ ∧ Stand p l e R s m args below meth c B.U B.locs B.cells B.slots ∧ PostX ⟨T.setVm vm₁, locs, cells, slots⟩ (Value.ref b :: argsL).toArray q B ∧
      Steps p.tables e below (T.setTop g) ((B.U.setTop { g with stack := rest }).pushFrame (.throwing q))) := by
  obtain ⟨mk, methM, hnamed, hmethM, hstM, habM⟩ := Cond.instanceMethod_spec hinst
  obtain ⟨methM', cM, hmethM', -, -, -, -, -, -, hsigM⟩ := Cond.code_spec hnamed hcode
  cases hmethM.symm.trans hmethM'
  obtain ⟨c2, r2, m2, q1, q2, q3, q4, kP, hkP, hkPi⟩ := Cond.selects_spec hsel
  cases hcls.symm.trans q1
  cases (State.methodFound?_of_named hnamed hy).symm.trans q2
  cases hnamed.symm.trans q3
  have hselP : selectMethod e.platform s.vm cellB.cls mk = .method mk := by rw [Launch.admits_selectMethod X.admits]; exact q4
  obtain ⟨vm₁, X₁, hstep₁⟩ := X.invokevirtualNest hexec hown hlink hnamed hmethM hstM hkP hkPi hy (a := b) (cell := cellB) hcell
    (fun z h => by rw [h] at hobj; cases hobj) hselP hmethM habM hkP hkPi (g := g) hg (argsL := argsL) (rest := rest) (hlen _ hsigM) hstack hdg
  rcases hK m meth c ⟨T.setVm vm₁, locs, cells, slots⟩ { g with stack := rest } (.invokevirtual index) mk (Value.ref b :: argsL).toArray X₁ hg hsize hdg hW (X₁.named hnamed) (hpre vm₁ X₁.warmed) with ⟨v, B, X', hpost, hsteps⟩ | ⟨q, B, X', hpost, hsteps⟩
  · exact Or.inl ⟨v, vm₁, B, X₁.warmed, X', hpost, fun target h => hstep₁ _ fun acts => by rw [doInvoke_state]; exact hsteps.trans h⟩
  · exact Or.inr ⟨q, vm₁, B, X₁.warmed, X', hpost, hstep₁ _ fun acts => by rw [doInvoke_state]; exact hsteps⟩
theorem vx_callSN (X : Stand p l e R s m args below meth c T locs cells slots) (hexec : p.tables.exec = Jvm.exec) {own : String} {index : Nat} {host : String} {y : MethodName} {bytes : ByteArray} {maxL : Nat} {ret : Option FieldType}
    (hown : s.vm.findClass own = some m.cls) (hlink : (Cond.methodLinkNest own index y host).before args s = true) (hstat : (Cond.static y).before args s = true) (hinit : (Cond.initialized y.cls).before args s = true)
    (hcode : (Cond.code y bytes maxL ret).before args s = true) (hy : y.cls ≠ "java/lang/invoke/MethodHandle" ∧ y.cls ≠ "java/lang/invoke/VarHandle")
    {W : Nat} {Pre : Pt → Array Value → Prop} {Post : Pt → Array Value → Option Value → Pt → Prop} {PostX : Pt → Array Value → Addr → Pt → Prop} (hK : vx_Back l R p e below s args y 3 W Pre Post PostX)
    {g : JFrame} (hg : g.method = m) (hsize : g.locals.size = c.maxLocals) {argsL rest : List Value} (hlen : ∀ sig, parseMethodDescriptor y.desc = some sig → argsL.length = sig.parameters.length)
    (hstack : g.stack = argsL.reverse ++ rest) (hW : 2 * g.monitorRoom + (rest.map fun v => v.category).sum ≤ W) (hdg : decode c.code g.pc = .ok (.invokestatic index, 3))
    (hpre : ∀ vm₁, s.WarmedH vm₁ → Pre ⟨T.setVm vm₁, locs, cells, slots⟩ argsL.toArray) :
    (∃ (v : Option Value) (vm₁ : Vm) (B : Pt), s.WarmedH vm₁ ∧ Stand p l e R s m args below meth c B.U B.locs B.cells B.slots ∧ Post ⟨T.setVm vm₁, locs, cells, slots⟩ argsL.toArray v B ∧
      ∀ target, Steps p.tables e below (B.U.setTop { g with pc := g.pc + 3, stack := v.toList ++ rest }) target → Steps p.tables e below (T.setTop g) target) ∨
    (∃ (q : Addr) (vm₁ : Vm) (B : Pt), s.WarmedH vm₁ ∧ Stand p l e R s m args below meth c B.U B.locs B.cells B.slots ∧ PostX ⟨T.setVm vm₁, locs, cells, slots⟩ argsL.toArray q B ∧
      Steps p.tables e below (T.setTop g) ((B.U.setTop { g with stack := rest }).pushFrame (.throwing q))) := by
  obtain ⟨mk, hnamed⟩ := Cond.code_named hcode
  obtain ⟨methM, cM, hmethM, -, -, -, -, -, -, hsigM⟩ := Cond.code_spec hnamed hcode
  have hstatic : methM.isStatic = true := Cond.static_spec hnamed hmethM hstat
  obtain ⟨kP, hkP, -⟩ := className_of_methodNamed hnamed
  have hinitP : kP.init = .initialized := Cond.initialized_spec (findClass_of_methodNamed hnamed) hkP hinit
  obtain ⟨vm₁, X₁, hstep₁⟩ := X.invokestaticNest hexec hown hlink hnamed hmethM hstatic hkP hinitP hy (g := g) hg (argsL := argsL) (rest := rest) (hlen _ hsigM) hstack hdg
  rcases hK m meth c ⟨T.setVm vm₁, locs, cells, slots⟩ { g with stack := rest } (.invokestatic index) mk argsL.toArray X₁ hg hsize hdg hW (X₁.named hnamed) (hpre vm₁ X₁.warmed) with ⟨v, B, X', hpost, hsteps⟩ | ⟨q, B, X', hpost, hsteps⟩
  · exact Or.inl ⟨v, vm₁, B, X₁.warmed, X', hpost, fun target h => hstep₁ _ fun acts => by rw [doInvoke_state]; exact hsteps.trans h⟩
  · exact Or.inr ⟨q, vm₁, B, X₁.warmed, X', hpost, hstep₁ _ fun acts => by rw [doInvoke_state]; exact hsteps⟩
theorem vx_runVN {y : MethodName} {bytes cc : ByteArray} {maxL nL mc ms n index : Nat} {ret : Option FieldType} {ws : List Cond} {rm : Room} {Pc : Array Value → State → Prop} {Qc : Array Value → State → Outcome → State → Prop} {XC : String → State → State → Prop} {free : Addr → Prop} {Ts : List Cond} {own C host : String} {b : Addr} {As rest : List Value} {g : JFrame}
    (S : CallFix p m c cc nL s args Ts own) (hM : vx_Met l y ws rm Pc Qc XC mc ms free) (cw : va_CN R s args own index y host bytes maxL ret ws rm mc ms n ∧ (Cond.instanceMethod y).before args s = true ∧ (Cond.selects C y y).before args s = true) (hp : PreV s H C b Pc As)
    (hg : g.method = m) (hn : As.length = n) (hsize : g.locals.size = nL) (hstack : g.stack = As.reverse ++ .ref b :: rest) (hW : 2 * g.monitorRoom + (rest.map fun v => v.category).sum ≤ 8) (hdg : decode cc g.pc = .ok (.invokevirtual index, 3)) (hf : cells + mc ≤ R.cells ∧ slots + ms ≤ R.slots) :
    vx_Run p l e R s m args below meth c H locs cells slots mc ms g rest (Qc (Value.ref b :: As).toArray) XC free := by
  obtain ⟨⟨⟨hrc, hrs, hfr, hlo, hws, hcw⟩, hcode, hini, hy, hlen, hl⟩, hx1, hx2⟩ := cw
  have hK : vx_Back l R p e below s args y 3 8 (PreOf R mc ms Pc) (PostOf Qc mc ms free) (vx_Post XC mc ms free) := vx_back (bytes := bytes) (maxL := maxL) (ret := ret) hM hp.1 hrc hrs hfr hlo hws hcw (fun a' U hW => word_at hW (Or.inl (by first | rfl | simp [Cond.onTables, Cond.keeps, Cond.steady])) hini)
  obtain ⟨hx, hb, hml, ho, -⟩ := S
  obtain ⟨-, ⟨cellB, hcB, hoB, hclB⟩, hPc⟩ := hp
  intro T hT X
  rcases vx_callVN X hx (C := C) (bytes := bytes) (maxL := maxL) (ret := ret) ho hl hx1 hx2 hcode hy hK (by rw [hT]; exact hcB) hoB hclB hg (hsize.trans hml.symm) (argsL := As) (rest := rest) (fun sig h => hn.trans (hlen sig h)) hstack hW (by rw [hb]; exact hdg)
    (fun vm₁ hW₁ => ⟨hf.1, hf.2, hPc (T.setVm vm₁) hT hW₁⟩) with ⟨v, vm₁, ⟨U', l2, c2, s2⟩, hW₁, X', ⟨g', mk, t, L, e1, e2, hq, h1, hL, h2, h3⟩, st⟩ | ⟨q, vm₁, ⟨U', l2, c2, s2⟩, hW₁, X', ⟨g', mk, t, L, E, ce, e1, e2, hq, hce, hcv, hcl, h1, hL, h2, h3⟩, st⟩
  · dsimp only [Pt.U, Pt.locs, Pt.cells, Pt.slots] at X' e1 e2 h1 h2 h3 st
    subst h1; subst h2; subst h3
    exact Or.inl ⟨v, (T.setVm vm₁).calling g' mk (Value.ref b :: As).toArray, t, U', L, hT, X', hL, e1, e2, hq, st⟩
  · dsimp only [Pt.U, Pt.locs, Pt.cells, Pt.slots] at X' e1 e2 h1 h2 h3 st hcl
    subst h1; subst h2; subst h3
    exact Or.inr ⟨q, (T.setVm vm₁).calling g' mk (Value.ref b :: As).toArray, t, U', L, E, ce, hT, X', hL, e1, e2, hq, hce, hcv, vx_cls hW₁ hcl, st⟩
theorem vx_runSN {y : MethodName} {bytes cc : ByteArray} {maxL nL mc ms n index : Nat} {ret : Option FieldType} {ws : List Cond} {rm : Room} {Pc : Array Value → State → Prop} {Qc : Array Value → State → Outcome → State → Prop} {XC : String → State → State → Prop} {free : Addr → Prop} {Ts : List Cond} {own host : String} {As rest : List Value} {g : JFrame}
    (S : CallFix p m c cc nL s args Ts own) (hM : vx_Met l y ws rm Pc Qc XC mc ms free) (cw : va_CN R s args own index y host bytes maxL ret ws rm mc ms n ∧ (Cond.static y).before args s = true ∧ True) (hp : PreS s H Pc As)
    (hg : g.method = m) (hn : As.length = n) (hsize : g.locals.size = nL) (hstack : g.stack = As.reverse ++ rest) (hW : 2 * g.monitorRoom + (rest.map fun v => v.category).sum ≤ 8) (hdg : decode cc g.pc = .ok (.invokestatic index, 3)) (hf : cells + mc ≤ R.cells ∧ slots + ms ≤ R.slots) :
    vx_Run p l e R s m args below meth c H locs cells slots mc ms g rest (Qc As.toArray) XC free := by
  obtain ⟨⟨⟨hrc, hrs, hfr, hlo, hws, hcw⟩, hcode, hini, hy, hlen, hl⟩, hx1, hx2⟩ := cw
  have hK : vx_Back l R p e below s args y 3 8 (PreOf R mc ms Pc) (PostOf Qc mc ms free) (vx_Post XC mc ms free) := vx_back (bytes := bytes) (maxL := maxL) (ret := ret) hM hp.1 hrc hrs hfr hlo hws hcw (fun a' U hW => word_at hW (Or.inl (by first | rfl | simp [Cond.onTables, Cond.keeps, Cond.steady])) hini)
  obtain ⟨hx, hb, hml, ho, -⟩ := S
  have hPc := hp.2
  intro T hT X
  rcases vx_callSN X hx (bytes := bytes) (maxL := maxL) (ret := ret) ho hl hx1 hini hcode hy hK hg (hsize.trans hml.symm) (argsL := As) (rest := rest) (fun sig h => hn.trans (hlen sig h)) hstack hW (by rw [hb]; exact hdg)
    (fun vm₁ hW₁ => ⟨hf.1, hf.2, hPc (T.setVm vm₁) hT hW₁⟩) with ⟨v, vm₁, ⟨U', l2, c2, s2⟩, hW₁, X', ⟨g', mk, t, L, e1, e2, hq, h1, hL, h2, h3⟩, st⟩ | ⟨q, vm₁, ⟨U', l2, c2, s2⟩, hW₁, X', ⟨g', mk, t, L, E, ce, e1, e2, hq, hce, hcv, hcl, h1, hL, h2, h3⟩, st⟩
  · dsimp only [Pt.U, Pt.locs, Pt.cells, Pt.slots] at X' e1 e2 h1 h2 h3 st
    subst h1; subst h2; subst h3
    exact Or.inl ⟨v, (T.setVm vm₁).calling g' mk As.toArray, t, U', L, hT, X', hL, e1, e2, hq, st⟩
  · dsimp only [Pt.U, Pt.locs, Pt.cells, Pt.slots] at X' e1 e2 h1 h2 h3 st hcl
    subst h1; subst h2; subst h3
    exact Or.inr ⟨q, (T.setVm vm₁).calling g' mk As.toArray, t, U', L, E, ce, hT, X', hL, e1, e2, hq, hce, hcv, vx_cls hW₁ hcl, st⟩
end
/-! ===== END ===== -/
/-! ===== BEGIN calls by an interface of methods that may throw (vx_callIF, vx_runF follow va_callIF, va_runF of this kit) ===== -/
section
variable {p : Program} {l : Launch} {e : Env} {R : Room} {s : State} {m : MethodId} {args : Array Value} {below : List Frame} {meth : Method} {c : Code} {H : Heap} {locs : List Loc} {cells slots : Nat} {Q : State → Prop}
variable {mc ms : Nat} {free : Addr → Prop} {A0 A1 : Nat → Prop} {H0 : Heap} {a : Array Value} {pc : Nat} {ls : Array Slot} {st0 rest : List Value}
def vx_Run5 (p : Program) (l : Launch) (e : Env) (R : Room) (s : State) (m : MethodId) (args : Array Value) (below : List Frame) (meth : Method) (c : Code) (H : Heap) (locs : List Loc) (cells slots mc ms : Nat) (g : JFrame) (rest : List Value) (Qa : State → Outcome → State → Prop) (XC : String → State → State → Prop) (free : Addr → Prop) : Prop :=
  ∀ T : State, T.heap = H → Stand p l e R s m args below meth c T locs cells slots →
    (∃ (v : Option Value) (st₀ t T' : State) (L : List Loc), st₀.heap = H ∧ Stand p l e R s m args below meth c T' (locs ++ L) (cells + mc) (slots + ms) ∧ (∀ q ∈ L, free q.base) ∧ T'.heap = t.heap ∧ T'.vm = t.vm ∧ Qa st₀ (.returned v) t ∧
      Goes p e below T g T' { g with pc := g.pc + 5, stack := v.toList ++ rest }) ∨
    (∃ (q : Addr) (st₀ t T' : State) (L : List Loc) (E : String) (ce : Cell), st₀.heap = H ∧ Stand p l e R s m args below meth c T' (locs ++ L) (cells + mc) (slots + ms) ∧ (∀ z ∈ L, free z.base) ∧ T'.heap = t.heap ∧ T'.vm = t.vm ∧ XC E st₀ t ∧ t.heap[q]? = some ce ∧ ce.vm = .none ∧ s.vm.findClass E = some ce.cls ∧
      Steps p.tables e below (T.setTop g) ((T'.setTop { g with stack := rest }).pushFrame (.throwing q)))
theorem vx_callIF {T : State} (X : Stand p l e R s m args below meth c T locs cells slots) (hexec : p.tables.exec = Jvm.exec) {own C : String} {index count : Nat} {x y : MethodName} {bytes : ByteArray} {maxL : Nat} {ret : Option FieldType}
    (hown : s.vm.findClass own = some m.cls) (hlink : (Cond.methodLink own index x).before args s = true) (hdecl : (Cond.declares x).before args s = true) (hface : (Cond.interfaceMethod x.cls x.cls x.name x.desc).before args s = true)
    (hsel : (Cond.selects C x y).before args s = true) (hinst : (Cond.instanceMethod y).before args s = true) (hpub : (Cond.publicMethod y).before args s = true) (hunh : (Cond.unhidden C x.name x.desc).before args s = true)
    (hcast : (Cond.castable C x.cls).before args s = true) (hcode : (Cond.code y bytes maxL ret).before args s = true) (hx : x.cls ≠ "java/lang/invoke/MethodHandle" ∧ x.cls ≠ "java/lang/invoke/VarHandle")
    {W9 : Nat} {Pre : Pt → Array Value → Prop} {Post : Pt → Array Value → Option Value → Pt → Prop} {PostX : Pt → Array Value → Addr → Pt → Prop} (hK : vx_Back l R p e below s args y 5 W9 Pre Post PostX)
    {b : Addr} {cellB : Cell} {kB : Class} (hcell : T.heap[b]? = some cellB) (hobj : cellB.vm.isStatics = false) (hcls : s.vm.findClass C = some cellB.cls) (hkB : s.vm.classes[cellB.cls]? = some kB)
    {g : JFrame} (hg : g.method = m) (hsize : g.locals.size = c.maxLocals) {argsL rest : List Value} (hlen : ∀ sig, parseMethodDescriptor x.desc = some sig → argsL.length = sig.parameters.length)
    (hstack : g.stack = argsL.reverse ++ .ref b :: rest) (hW : 2 * g.monitorRoom + (rest.map fun v => v.category).sum ≤ W9) (hdg : decode c.code g.pc = .ok (.invokeinterface index count, 5))
    (hpre : ∀ vm₁, s.WarmedH vm₁ → Pre ⟨T.setVm vm₁, locs, cells, slots⟩ (Value.ref b :: argsL).toArray) :
    (∃ (v : Option Value) (vm₁ : Vm) (B : Pt), s.WarmedH vm₁ ∧ Stand p l e R s m args below meth c B.U B.locs B.cells B.slots ∧ Post ⟨T.setVm vm₁, locs, cells, slots⟩ (Value.ref b :: argsL).toArray v B ∧
      ∀ target, Steps p.tables e below (B.U.setTop { g with pc := g.pc + 5, stack := v.toList ++ rest }) target → Steps p.tables e below (T.setTop g) target) ∨
    (∃ (q : Addr) (vm₁ : Vm) (B : Pt), s.WarmedH vm₁ ∧ Stand p l e R s m args below meth c B.U B.locs B.cells B.slots ∧ PostX ⟨T.setVm vm₁, locs, cells, slots⟩ (Value.ref b :: argsL).toArray q B ∧
      Steps p.tables e below (T.setTop g) ((B.U.setTop { g with stack := rest }).pushFrame (.throwing q))) := by
  obtain ⟨r0, r, hn, hrm, hstR, hsigR⟩ := Cond.declares_spec hdecl
  obtain ⟨cL, kL, r1, hcL, hkL, hiL, hfoundL, hn1⟩ := Cond.interfaceMethod_spec hface
  cases hn.symm.trans hn1
  have hr0cls : r0.cls = cL := Option.some.inj ((findClass_of_methodNamed hn).symm.trans hcL)
  obtain ⟨hnameR, hdescR⟩ := name_of_methodNamed hn hrm
  obtain ⟨mk, methM, hnamed, hmethM, -, habM⟩ := Cond.instanceMethod_spec hinst
  obtain ⟨c2, r2, m2, q1, q2, q3, q4, -⟩ := Cond.selects_spec hsel
  cases hcls.symm.trans q1
  cases hfoundL.symm.trans q2
  cases hnamed.symm.trans q3
  have hselP : selectMethod e.platform s.vm cellB.cls r0 = .method mk := by rw [Launch.admits_selectMethod X.admits]; exact q4
  have hpubM : hasFlag methM.accessFlags Acc.public_ = true := Cond.publicMethod_spec hnamed hmethM hpub
  have hway : ((cellB.cls :: s.vm.superclasses cellB.cls).any fun k => (declaredIn s.vm r.name r.desc k).any fun (_, z) => z.isPrivate || z.isStatic) = false := by
    rw [hnameR, hdescR]; exact Cond.unhidden_spec hcls hunh
  obtain ⟨c3, t3, w1, w2, w3⟩ := Cond.castable_spec hcast
  cases hcls.symm.trans w1
  cases hcL.symm.trans w2
  obtain ⟨vm₁, X₁, hstep₁⟩ := X.invokeinterface hexec hown hlink hn hrm hstR (by rw [hr0cls]; exact hkL) hiL hx (a := b) (cell := cellB) (kcell := kB) hcell
    (fun z h => by rw [h] at hobj; cases hobj) hkB (by rw [hr0cls]; exact w3) hselP hmethM hway hpubM habM (g := g) hg (argsL := argsL) (rest := rest) (hlen _ hsigR) hstack hdg
  rcases hK m meth c ⟨T.setVm vm₁, locs, cells, slots⟩ { g with stack := rest } (.invokeinterface index count) mk (Value.ref b :: argsL).toArray X₁ hg hsize hdg hW (X₁.named hnamed) (hpre vm₁ X₁.warmed) with ⟨v, B, X', hpost, hsteps⟩ | ⟨q, B, X', hpost, hsteps⟩
  · exact Or.inl ⟨v, vm₁, B, X₁.warmed, X', hpost, fun target h => hstep₁ _ fun acts => by rw [doInvoke_state]; exact hsteps.trans h⟩
  · exact Or.inr ⟨q, vm₁, B, X₁.warmed, X', hpost, hstep₁ _ fun acts => by rw [doInvoke_state]; exact hsteps⟩
theorem vx_runF {x y : MethodName} {bytes cc : ByteArray} {maxL nL mc ms n index count : Nat} {ret : Option FieldType} {ws : List Cond} {rm : Room} {Pc : Array Value → State → Prop} {Qc : Array Value → State → Outcome → State → Prop} {XC : String → State → State → Prop} {free : Addr → Prop} {Ts : List Cond} {own C : String} {cC : ClassId} {b : Addr} {As rest : List Value} {g : JFrame}
    (hat : ClassAt s C cC) (S : CallFix p m c cc nL s args Ts own) (hM : vx_Met l y ws rm Pc Qc XC mc ms free) (cw : va_CI R s args own C index x y bytes maxL ret ws rm mc ms n) (hp : PreV s H C b Pc As)
    (hg : g.method = m) (hn : As.length = n) (hsize : g.locals.size = nL) (hstack : g.stack = As.reverse ++ .ref b :: rest) (hW : 2 * g.monitorRoom + (rest.map fun v => v.category).sum ≤ 8) (hdg : decode cc g.pc = .ok (.invokeinterface index count, 5)) (hf : cells + mc ≤ R.cells ∧ slots + ms ≤ R.slots) :
    vx_Run5 p l e R s m args below meth c H locs cells slots mc ms g rest (Qc (Value.ref b :: As).toArray) XC free := by
  obtain ⟨hrc, hrs, hfr, hlo, hws, hcw⟩ := cw.back
  have hini := cw.init
  have hK : vx_Back l R p e below s args y 5 8 (PreOf R mc ms Pc) (PostOf Qc mc ms free) (vx_Post XC mc ms free) := vx_back (bytes := bytes) (maxL := maxL) (ret := ret) hM hp.1 hrc hrs hfr hlo hws hcw (fun a' U hW => word_at hW (Or.inl (by first | rfl | simp [Cond.onTables, Cond.keeps, Cond.steady])) hini)
  obtain ⟨hx, hb, hml, ho, -⟩ := S
  obtain ⟨-, ⟨cellB, hcB, hoB, hclB⟩, hPc⟩ := hp
  obtain ⟨hfc, kB, hkB, -⟩ := hat
  cases hfc.symm.trans hclB
  intro T hT X
  rcases vx_callIF X hx (C := C) (bytes := bytes) (maxL := maxL) (ret := ret) ho cw.link cw.decl cw.face cw.sel cw.inst cw.pub cw.unh cw.cast cw.code cw.notMH hK (by rw [hT]; exact hcB) hoB hclB hkB hg (hsize.trans hml.symm) (argsL := As) (rest := rest) (fun sig h => hn.trans (cw.len sig h)) hstack hW (by rw [hb]; exact hdg)
    (fun vm₁ hW₁ => ⟨hf.1, hf.2, hPc (T.setVm vm₁) hT hW₁⟩) with ⟨v, vm₁, ⟨U', l2, c2, s2⟩, hW₁, X', ⟨g', mk, t, L, e1, e2, hq, h1, hL, h2, h3⟩, st⟩ | ⟨q, vm₁, ⟨U', l2, c2, s2⟩, hW₁, X', ⟨g', mk, t, L, E, ce, e1, e2, hq, hce, hcv, hcl, h1, hL, h2, h3⟩, st⟩
  · dsimp only [Pt.U, Pt.locs, Pt.cells, Pt.slots] at X' e1 e2 h1 h2 h3 st
    subst h1; subst h2; subst h3
    exact Or.inl ⟨v, (T.setVm vm₁).calling g' mk (Value.ref b :: As).toArray, t, U', L, hT, X', hL, e1, e2, hq, st⟩
  · dsimp only [Pt.U, Pt.locs, Pt.cells, Pt.slots] at X' e1 e2 h1 h2 h3 st hcl
    subst h1; subst h2; subst h3
    exact Or.inr ⟨q, (T.setVm vm₁).calling g' mk (Value.ref b :: As).toArray, t, U', L, E, ce, hT, X', hL, e1, e2, hq, hce, hcv, vx_cls hW₁ hcl, st⟩
theorem vx_callFv {S SX : Type} {post : S → Prop} {px : SX → Prop} {B : S → State → Prop} {BX : String → SX → State → Prop} {AX : Nat → Prop} (hr : vx_Run5 p l e R s m args below meth c H locs cells slots mc ms (F0 m pc ls st0) rest (va_Qv post B A1 a) (vx_X px BX AX) free) (hS : va_S A0 H0 H locs) (hA : ∀ q, q < H.size → A1 q → A0 q) (hf : ∀ q, free q → A0 q) (hAX : ∀ q, q < H.size → AX q → A0 q)
    (kx : ∀ (E : String) (ce : Cell) (q9 : Addr) (u : SX) (t : State) (H1 : Heap) (locs1 : List Loc), t.heap = H1 → s.vm.Alike t.vm → px u → BX E u t → H.size ≤ H1.size → (∀ q : Nat, q < H.size → ¬ AX q → H1[q]? = H[q]?) → va_S A0 H0 H1 locs1 → H1[q9]? = some ce → ce.vm = .none → s.vm.findClass E = some ce.cls → vx_W p l e R s m args below meth c H1 locs1 (cells + mc) (slots + ms) Q (F0 m pc ls rest) q9)
    (kk : ∀ (u : S) (t : State) (H1 : Heap) (locs1 : List Loc), t.heap = H1 → s.vm.Alike t.vm → post u → B u t → H.size ≤ H1.size → (∀ q : Nat, q < H.size → ¬ A1 q → H1[q]? = H[q]?) → va_S A0 H0 H1 locs1 → W p l e R s m args below meth c H1 locs1 (cells + mc) (slots + ms) Q (F0 m (pc + 5) ls (rest))) : W p l e R s m args below meth c H locs cells slots Q (F0 m pc ls st0) := by
  intro T hT X
  rcases hr T hT X with ⟨v, st₀, t, T', L, h0, X', hL, e1, e2, ⟨⟨u, hv, hp, hb⟩, hF⟩, st⟩ | ⟨q, st₀, t, T', L, E, ce, h0, X', hL, e1, e2, ⟨u, hp, hb, hF⟩, hce, hcv, hcl, st⟩
  · cases hv
    obtain ⟨k1, k2, k3⟩ := vx_keep h0 e1 hS hA hf hL hF
    obtain ⟨t2, a1, b1⟩ := kk u t T'.heap (locs ++ L) e1.symm (by rw [← e2]; exact X'.warmed.alike) hp hb k1 k2 k3 T' rfl X'
    exact ⟨t2, st t2 a1, b1⟩
  · obtain ⟨k1, k2, k3⟩ := vx_keep h0 e1 hS hAX hf hL hF
    obtain ⟨t2, a1, b1⟩ := kx E ce q u t T'.heap (locs ++ L) e1.symm (by rw [← e2]; exact X'.warmed.alike) hp hb k1 k2 k3 (by rw [e1]; exact hce) hcv hcl T' rfl X'
    exact ⟨t2, st.trans a1, b1⟩
theorem vx_callFi {S SX : Type} {post : Int32 → S → Prop} {px : SX → Prop} {B : S → State → Prop} {BX : String → SX → State → Prop} {AX : Nat → Prop} (hr : vx_Run5 p l e R s m args below meth c H locs cells slots mc ms (F0 m pc ls st0) rest (va_Qi post B A1 a) (vx_X px BX AX) free) (hS : va_S A0 H0 H locs) (hA : ∀ q, q < H.size → A1 q → A0 q) (hf : ∀ q, free q → A0 q) (hAX : ∀ q, q < H.size → AX q → A0 q)
    (kx : ∀ (E : String) (ce : Cell) (q9 : Addr) (u : SX) (t : State) (H1 : Heap) (locs1 : List Loc), t.heap = H1 → s.vm.Alike t.vm → px u → BX E u t → H.size ≤ H1.size → (∀ q : Nat, q < H.size → ¬ AX q → H1[q]? = H[q]?) → va_S A0 H0 H1 locs1 → H1[q9]? = some ce → ce.vm = .none → s.vm.findClass E = some ce.cls → vx_W p l e R s m args below meth c H1 locs1 (cells + mc) (slots + ms) Q (F0 m pc ls rest) q9)
    (kk : ∀ (r : Int32) (u : S) (t : State) (H1 : Heap) (locs1 : List Loc), t.heap = H1 → s.vm.Alike t.vm → post r u → B u t → H.size ≤ H1.size → (∀ q : Nat, q < H.size → ¬ A1 q → H1[q]? = H[q]?) → va_S A0 H0 H1 locs1 → W p l e R s m args below meth c H1 locs1 (cells + mc) (slots + ms) Q (F0 m (pc + 5) ls (.int r :: rest))) : W p l e R s m args below meth c H locs cells slots Q (F0 m pc ls st0) := by
  intro T hT X
  rcases hr T hT X with ⟨v, st₀, t, T', L, h0, X', hL, e1, e2, ⟨⟨r, u, hv, hp, hb⟩, hF⟩, st⟩ | ⟨q, st₀, t, T', L, E, ce, h0, X', hL, e1, e2, ⟨u, hp, hb, hF⟩, hce, hcv, hcl, st⟩
  · cases hv
    obtain ⟨k1, k2, k3⟩ := vx_keep h0 e1 hS hA hf hL hF
    obtain ⟨t2, a1, b1⟩ := kk r u t T'.heap (locs ++ L) e1.symm (by rw [← e2]; exact X'.warmed.alike) hp hb k1 k2 k3 T' rfl X'
    exact ⟨t2, st t2 a1, b1⟩
  · obtain ⟨k1, k2, k3⟩ := vx_keep h0 e1 hS hAX hf hL hF
    obtain ⟨t2, a1, b1⟩ := kx E ce q u t T'.heap (locs ++ L) e1.symm (by rw [← e2]; exact X'.warmed.alike) hp hb k1 k2 k3 (by rw [e1]; exact hce) hcv hcl T' rfl X'
    exact ⟨t2, st.trans a1, b1⟩
theorem vx_callFl {S SX : Type} {post : Int64 → S → Prop} {px : SX → Prop} {B : S → State → Prop} {BX : String → SX → State → Prop} {AX : Nat → Prop} (hr : vx_Run5 p l e R s m args below meth c H locs cells slots mc ms (F0 m pc ls st0) rest (va_Ql post B A1 a) (vx_X px BX AX) free) (hS : va_S A0 H0 H locs) (hA : ∀ q, q < H.size → A1 q → A0 q) (hf : ∀ q, free q → A0 q) (hAX : ∀ q, q < H.size → AX q → A0 q)
    (kx : ∀ (E : String) (ce : Cell) (q9 : Addr) (u : SX) (t : State) (H1 : Heap) (locs1 : List Loc), t.heap = H1 → s.vm.Alike t.vm → px u → BX E u t → H.size ≤ H1.size → (∀ q : Nat, q < H.size → ¬ AX q → H1[q]? = H[q]?) → va_S A0 H0 H1 locs1 → H1[q9]? = some ce → ce.vm = .none → s.vm.findClass E = some ce.cls → vx_W p l e R s m args below meth c H1 locs1 (cells + mc) (slots + ms) Q (F0 m pc ls rest) q9)
    (kk : ∀ (r : Int64) (u : S) (t : State) (H1 : Heap) (locs1 : List Loc), t.heap = H1 → s.vm.Alike t.vm → post r u → B u t → H.size ≤ H1.size → (∀ q : Nat, q < H.size → ¬ A1 q → H1[q]? = H[q]?) → va_S A0 H0 H1 locs1 → W p l e R s m args below meth c H1 locs1 (cells + mc) (slots + ms) Q (F0 m (pc + 5) ls (.long r :: rest))) : W p l e R s m args below meth c H locs cells slots Q (F0 m pc ls st0) := by
  intro T hT X
  rcases hr T hT X with ⟨v, st₀, t, T', L, h0, X', hL, e1, e2, ⟨⟨r, u, hv, hp, hb⟩, hF⟩, st⟩ | ⟨q, st₀, t, T', L, E, ce, h0, X', hL, e1, e2, ⟨u, hp, hb, hF⟩, hce, hcv, hcl, st⟩
  · cases hv
    obtain ⟨k1, k2, k3⟩ := vx_keep h0 e1 hS hA hf hL hF
    obtain ⟨t2, a1, b1⟩ := kk r u t T'.heap (locs ++ L) e1.symm (by rw [← e2]; exact X'.warmed.alike) hp hb k1 k2 k3 T' rfl X'
    exact ⟨t2, st t2 a1, b1⟩
  · obtain ⟨k1, k2, k3⟩ := vx_keep h0 e1 hS hAX hf hL hF
    obtain ⟨t2, a1, b1⟩ := kx E ce q u t T'.heap (locs ++ L) e1.symm (by rw [← e2]; exact X'.warmed.alike) hp hb k1 k2 k3 (by rw [e1]; exact hce) hcv hcl T' rfl X'
    exact ⟨t2, st.trans a1, b1⟩
theorem vx_callFf {S SX : Type} {post : UInt32 → S → Prop} {px : SX → Prop} {B : S → State → Prop} {BX : String → SX → State → Prop} {AX : Nat → Prop} (hr : vx_Run5 p l e R s m args below meth c H locs cells slots mc ms (F0 m pc ls st0) rest (va_Qf post B A1 a) (vx_X px BX AX) free) (hS : va_S A0 H0 H locs) (hA : ∀ q, q < H.size → A1 q → A0 q) (hf : ∀ q, free q → A0 q) (hAX : ∀ q, q < H.size → AX q → A0 q)
    (kx : ∀ (E : String) (ce : Cell) (q9 : Addr) (u : SX) (t : State) (H1 : Heap) (locs1 : List Loc), t.heap = H1 → s.vm.Alike t.vm → px u → BX E u t → H.size ≤ H1.size → (∀ q : Nat, q < H.size → ¬ AX q → H1[q]? = H[q]?) → va_S A0 H0 H1 locs1 → H1[q9]? = some ce → ce.vm = .none → s.vm.findClass E = some ce.cls → vx_W p l e R s m args below meth c H1 locs1 (cells + mc) (slots + ms) Q (F0 m pc ls rest) q9)
    (kk : ∀ (r : UInt32) (u : S) (t : State) (H1 : Heap) (locs1 : List Loc), t.heap = H1 → s.vm.Alike t.vm → post r u → B u t → H.size ≤ H1.size → (∀ q : Nat, q < H.size → ¬ A1 q → H1[q]? = H[q]?) → va_S A0 H0 H1 locs1 → W p l e R s m args below meth c H1 locs1 (cells + mc) (slots + ms) Q (F0 m (pc + 5) ls (.float r :: rest))) : W p l e R s m args below meth c H locs cells slots Q (F0 m pc ls st0) := by
  intro T hT X
  rcases hr T hT X with ⟨v, st₀, t, T', L, h0, X', hL, e1, e2, ⟨⟨r, u, hv, hp, hb⟩, hF⟩, st⟩ | ⟨q, st₀, t, T', L, E, ce, h0, X', hL, e1, e2, ⟨u, hp, hb, hF⟩, hce, hcv, hcl, st⟩
  · cases hv
    obtain ⟨k1, k2, k3⟩ := vx_keep h0 e1 hS hA hf hL hF
    obtain ⟨t2, a1, b1⟩ := kk r u t T'.heap (locs ++ L) e1.symm (by rw [← e2]; exact X'.warmed.alike) hp hb k1 k2 k3 T' rfl X'
    exact ⟨t2, st t2 a1, b1⟩
  · obtain ⟨k1, k2, k3⟩ := vx_keep h0 e1 hS hAX hf hL hF
    obtain ⟨t2, a1, b1⟩ := kx E ce q u t T'.heap (locs ++ L) e1.symm (by rw [← e2]; exact X'.warmed.alike) hp hb k1 k2 k3 (by rw [e1]; exact hce) hcv hcl T' rfl X'
    exact ⟨t2, st.trans a1, b1⟩
theorem vx_callFd {S SX : Type} {post : UInt64 → S → Prop} {px : SX → Prop} {B : S → State → Prop} {BX : String → SX → State → Prop} {AX : Nat → Prop} (hr : vx_Run5 p l e R s m args below meth c H locs cells slots mc ms (F0 m pc ls st0) rest (va_Qd post B A1 a) (vx_X px BX AX) free) (hS : va_S A0 H0 H locs) (hA : ∀ q, q < H.size → A1 q → A0 q) (hf : ∀ q, free q → A0 q) (hAX : ∀ q, q < H.size → AX q → A0 q)
    (kx : ∀ (E : String) (ce : Cell) (q9 : Addr) (u : SX) (t : State) (H1 : Heap) (locs1 : List Loc), t.heap = H1 → s.vm.Alike t.vm → px u → BX E u t → H.size ≤ H1.size → (∀ q : Nat, q < H.size → ¬ AX q → H1[q]? = H[q]?) → va_S A0 H0 H1 locs1 → H1[q9]? = some ce → ce.vm = .none → s.vm.findClass E = some ce.cls → vx_W p l e R s m args below meth c H1 locs1 (cells + mc) (slots + ms) Q (F0 m pc ls rest) q9)
    (kk : ∀ (r : UInt64) (u : S) (t : State) (H1 : Heap) (locs1 : List Loc), t.heap = H1 → s.vm.Alike t.vm → post r u → B u t → H.size ≤ H1.size → (∀ q : Nat, q < H.size → ¬ A1 q → H1[q]? = H[q]?) → va_S A0 H0 H1 locs1 → W p l e R s m args below meth c H1 locs1 (cells + mc) (slots + ms) Q (F0 m (pc + 5) ls (.double r :: rest))) : W p l e R s m args below meth c H locs cells slots Q (F0 m pc ls st0) := by
  intro T hT X
  rcases hr T hT X with ⟨v, st₀, t, T', L, h0, X', hL, e1, e2, ⟨⟨r, u, hv, hp, hb⟩, hF⟩, st⟩ | ⟨q, st₀, t, T', L, E, ce, h0, X', hL, e1, e2, ⟨u, hp, hb, hF⟩, hce, hcv, hcl, st⟩
  · cases hv
    obtain ⟨k1, k2, k3⟩ := vx_keep h0 e1 hS hA hf hL hF
    obtain ⟨t2, a1, b1⟩ := kk r u t T'.heap (locs ++ L) e1.symm (by rw [← e2]; exact X'.warmed.alike) hp hb k1 k2 k3 T' rfl X'
    exact ⟨t2, st t2 a1, b1⟩
  · obtain ⟨k1, k2, k3⟩ := vx_keep h0 e1 hS hAX hf hL hF
    obtain ⟨t2, a1, b1⟩ := kx E ce q u t T'.heap (locs ++ L) e1.symm (by rw [← e2]; exact X'.warmed.alike) hp hb k1 k2 k3 (by rw [e1]; exact hce) hcv hcl T' rfl X'
    exact ⟨t2, st.trans a1, b1⟩
end
/-! ===== END ===== -/
/-! ===== BEGIN by an interface, a method with a table of its own that may throw (follows va_callIFW, va_runFW) ===== -/
section
variable {p : Program} {l : Launch} {e : Env} {R : Room} {s : State} {m : MethodId} {args : Array Value} {below : List Frame} {meth : Method} {c : Code} {H : Heap} {locs : List Loc} {cells slots : Nat}
theorem vx_callIFW {T : State} (X : Stand p l e R s m args below meth c T locs cells slots) (hexec : p.tables.exec = Jvm.exec) {own C : String} {index count : Nat} {x y : MethodName} {bytes : ByteArray} {maxL : Nat} {ret : Option FieldType} {hh : List (Nat × Nat × Nat × Nat)}
    (hown : s.vm.findClass own = some m.cls) (hlink : (Cond.methodLink own index x).before args s = true) (hdecl : (Cond.declares x).before args s = true) (hface : (Cond.interfaceMethod x.cls x.cls x.name x.desc).before args s = true)
    (hsel : (Cond.selects C x y).before args s = true) (hinst : (Cond.instanceMethod y).before args s = true) (hpub : (Cond.publicMethod y).before args s = true) (hunh : (Cond.unhidden C x.name x.desc).before args s = true)
    (hcast : (Cond.castable C x.cls).before args s = true) (hcode : (Cond.codeWith y bytes maxL ret hh).before args s = true) (hx : x.cls ≠ "java/lang/invoke/MethodHandle" ∧ x.cls ≠ "java/lang/invoke/VarHandle")
    {W : Nat} {Pre : Pt → Array Value → Prop} {Post : Pt → Array Value → Option Value → Pt → Prop} {PostX : Pt → Array Value → Addr → Pt → Prop} (hK : vx_Back l R p e below s args y 5 W Pre Post PostX)
    {b : Addr} {cellB : Cell} {kB : Class} (hcell : T.heap[b]? = some cellB) (hobj : cellB.vm.isStatics = false) (hcls : s.vm.findClass C = some cellB.cls) (hkB : s.vm.classes[cellB.cls]? = some kB)
    {g : JFrame} (hg : g.method = m) (hsize : g.locals.size = c.maxLocals) {argsL rest : List Value} (hlen : ∀ sig, parseMethodDescriptor x.desc = some sig → argsL.length = sig.parameters.length)
    (hstack : g.stack = argsL.reverse ++ .ref b :: rest) (hW : 2 * g.monitorRoom + (rest.map fun v => v.category).sum ≤ W) (hdg : decode c.code g.pc = .ok (.invokeinterface index count, 5))
    (hpre : ∀ vm₁, s.WarmedH vm₁ → Pre ⟨T.setVm vm₁, locs, cells, slots⟩ (Value.ref b :: argsL).toArray) :
    (∃ (v : Option Value) (vm₁ : Vm) (B : Pt), s.WarmedH vm₁ ∧ Stand p l e R s m args below meth c B.U B.locs B.cells B.slots ∧ Post ⟨T.setVm vm₁, locs, cells, slots⟩ (Value.ref b :: argsL).toArray v B ∧
      ∀ target, Steps p.tables e below (B.U.setTop { g with pc := g.pc + 5, stack := v.toList ++ rest }) target → Steps p.tables e below (T.setTop g) target) ∨
    (∃ (q : Addr) (vm₁ : Vm) (B : Pt), s.WarmedH vm₁ ∧ Stand p l e R s m args below meth c B.U B.locs B.cells B.slots ∧ PostX ⟨T.setVm vm₁, locs, cells, slots⟩ (Value.ref b :: argsL).toArray q B ∧
      Steps p.tables e below (T.setTop g) ((B.U.setTop { g with stack := rest }).pushFrame (.throwing q))) := by
  obtain ⟨r0, r, hn, hrm, hstR, hsigR⟩ := Cond.declares_spec hdecl
  obtain ⟨cL, kL, r1, hcL, hkL, hiL, hfoundL, hn1⟩ := Cond.interfaceMethod_spec hface
  cases hn.symm.trans hn1
  have hr0cls : r0.cls = cL := Option.some.inj ((findClass_of_methodNamed hn).symm.trans hcL)
  obtain ⟨hnameR, hdescR⟩ := name_of_methodNamed hn hrm
  obtain ⟨mk, methM, hnamed, hmethM, -, habM⟩ := Cond.instanceMethod_spec hinst
  obtain ⟨c2, r2, m2, q1, q2, q3, q4, -⟩ := Cond.selects_spec hsel
  cases hcls.symm.trans q1
  cases hfoundL.symm.trans q2
  cases hnamed.symm.trans q3
  have hselP : selectMethod e.platform s.vm cellB.cls r0 = .method mk := by rw [Launch.admits_selectMethod X.admits]; exact q4
  have hpubM : hasFlag methM.accessFlags Acc.public_ = true := Cond.publicMethod_spec hnamed hmethM hpub
  have hway : ((cellB.cls :: s.vm.superclasses cellB.cls).any fun k => (declaredIn s.vm r.name r.desc k).any fun (_, z) => z.isPrivate || z.isStatic) = false := by
    rw [hnameR, hdescR]; exact Cond.unhidden_spec hcls hunh
  obtain ⟨c3, t3, w1, w2, w3⟩ := Cond.castable_spec hcast
  cases hcls.symm.trans w1
  cases hcL.symm.trans w2
  obtain ⟨vm₁, X₁, hstep₁⟩ := X.invokeinterface hexec hown hlink hn hrm hstR (by rw [hr0cls]; exact hkL) hiL hx (a := b) (cell := cellB) (kcell := kB) hcell
    (fun z h => by rw [h] at hobj; cases hobj) hkB (by rw [hr0cls]; exact w3) hselP hmethM hway hpubM habM (g := g) hg (argsL := argsL) (rest := rest) (hlen _ hsigR) hstack hdg
  rcases hK m meth c ⟨T.setVm vm₁, locs, cells, slots⟩ { g with stack := rest } (.invokeinterface index count) mk (Value.ref b :: argsL).toArray X₁ hg hsize hdg hW (X₁.named hnamed) (hpre vm₁ X₁.warmed) with ⟨v, B, X', hpost, hsteps⟩ | ⟨q, B, X', hpost, hsteps⟩
  · exact Or.inl ⟨v, vm₁, B, X₁.warmed, X', hpost, fun target h => hstep₁ _ fun acts => by rw [doInvoke_state]; exact hsteps.trans h⟩
  · exact Or.inr ⟨q, vm₁, B, X₁.warmed, X', hpost, hstep₁ _ fun acts => by rw [doInvoke_state]; exact hsteps⟩
theorem vx_runFW {x y : MethodName} {bytes cc : ByteArray} {maxL nL mc ms n index count : Nat} {ret : Option FieldType} {hh : List (Nat × Nat × Nat × Nat)} {ws : List Cond} {rm : Room} {Pc : Array Value → State → Prop} {Qc : Array Value → State → Outcome → State → Prop} {XC : String → State → State → Prop} {free : Addr → Prop} {Ts : List Cond} {own C : String} {cC : ClassId} {b : Addr} {As rest : List Value} {g : JFrame}
    (hat : ClassAt s C cC) (S : CallFix p m c cc nL s args Ts own) (hM : vx_Met l y ws rm Pc Qc XC mc ms free) (cw : va_CIW R s args own C index x y bytes maxL ret hh ws rm mc ms n) (hp : PreV s H C b Pc As)
    (hg : g.method = m) (hn : As.length = n) (hsize : g.locals.size = nL) (hstack : g.stack = As.reverse ++ .ref b :: rest) (hW : 2 * g.monitorRoom + (rest.map fun v => v.category).sum ≤ 8) (hdg : decode cc g.pc = .ok (.invokeinterface index count, 5)) (hf : cells + mc ≤ R.cells ∧ slots + ms ≤ R.slots) :
    vx_Run5 p l e R s m args below meth c H locs cells slots mc ms g rest (Qc (Value.ref b :: As).toArray) XC free := by
  obtain ⟨hrc, hrs, hfr, hlo, hws, hcw⟩ := cw.back
  have hini := cw.init
  have hK : vx_Back l R p e below s args y 5 8 (PreOf R mc ms Pc) (PostOf Qc mc ms free) (vx_Post XC mc ms free) := vx_backW (hh := hh) (bytes := bytes) (maxL := maxL) (ret := ret) hM hp.1 hrc hrs hfr hlo hws hcw (fun a' U hW => word_at hW (Or.inl (by first | rfl | simp [Cond.onTables, Cond.keeps, Cond.steady])) hini)
  obtain ⟨hx, hb, hml, ho, -⟩ := S
  obtain ⟨-, ⟨cellB, hcB, hoB, hclB⟩, hPc⟩ := hp
  obtain ⟨hfc, kB, hkB, -⟩ := hat
  cases hfc.symm.trans hclB
  intro T hT X
  rcases vx_callIFW X hx (C := C) (hh := hh) (bytes := bytes) (maxL := maxL) (ret := ret) ho cw.link cw.decl cw.face cw.sel cw.inst cw.pub cw.unh cw.cast cw.code cw.notMH hK (by rw [hT]; exact hcB) hoB hclB hkB hg (hsize.trans hml.symm) (argsL := As) (rest := rest) (fun sig h => hn.trans (cw.len sig h)) hstack hW (by rw [hb]; exact hdg)
    (fun vm₁ hW₁ => ⟨hf.1, hf.2, hPc (T.setVm vm₁) hT hW₁⟩) with ⟨v, vm₁, ⟨U', l2, c2, s2⟩, hW₁, X', ⟨g', mk, t, L, e1, e2, hq, h1, hL, h2, h3⟩, st⟩ | ⟨q, vm₁, ⟨U', l2, c2, s2⟩, hW₁, X', ⟨g', mk, t, L, E, ce, e1, e2, hq, hce, hcv, hcl, h1, hL, h2, h3⟩, st⟩
  · dsimp only [Pt.U, Pt.locs, Pt.cells, Pt.slots] at X' e1 e2 h1 h2 h3 st
    subst h1; subst h2; subst h3
    exact Or.inl ⟨v, (T.setVm vm₁).calling g' mk (Value.ref b :: As).toArray, t, U', L, hT, X', hL, e1, e2, hq, st⟩
  · dsimp only [Pt.U, Pt.locs, Pt.cells, Pt.slots] at X' e1 e2 h1 h2 h3 st hcl
    subst h1; subst h2; subst h3
    exact Or.inr ⟨q, (T.setVm vm₁).calling g' mk (Value.ref b :: As).toArray, t, U', L, E, ce, hT, X', hL, e1, e2, hq, hce, hcv, vx_cls hW₁ hcl, st⟩
end
/-! ===== END ===== -/
/-! ===== BEGIN .. of methods that hand back an object of the pool ===== -/
section
variable {p : Program} {l : Launch} {e : Env} {R : Room} {s : State} {m : MethodId} {args : Array Value} {below : List Frame} {meth : Method} {c : Code} {H : Heap} {locs : List Loc} {cells slots : Nat} {Q : State → Prop}
variable {mc ms : Nat} {free : Addr → Prop} {A0 A1 : Nat → Prop} {H0 : Heap} {a : Array Value} {pc : Nat} {ls : Array Slot} {st0 rest : List Value}
theorem vx_callq {S SX : Type} {post : Option Nat → S → Prop} {px : SX → Prop} {B : S → State → Prop} {BX : String → SX → State → Prop} {AX : Nat → Prop} (hr : vx_Run p l e R s m args below meth c H locs cells slots mc ms (F0 m pc ls st0) rest (va_Qq post B A1 a) (vx_X px BX AX) free) (hS : va_S A0 H0 H locs) (hA : ∀ q, q < H.size → A1 q → A0 q) (hf : ∀ q, free q → A0 q) (hAX : ∀ q, q < H.size → AX q → A0 q)
    (kx : ∀ (E : String) (ce : Cell) (q9 : Addr) (u : SX) (t : State) (H1 : Heap) (locs1 : List Loc), t.heap = H1 → s.vm.Alike t.vm → px u → BX E u t → H.size ≤ H1.size → (∀ q : Nat, q < H.size → ¬ AX q → H1[q]? = H[q]?) → va_S A0 H0 H1 locs1 → H1[q9]? = some ce → ce.vm = .none → s.vm.findClass E = some ce.cls → vx_W p l e R s m args below meth c H1 locs1 (cells + mc) (slots + ms) Q (F0 m pc ls rest) q9)
    (kk : ∀ (r : Option Nat) (u : S) (t : State) (H1 : Heap) (locs1 : List Loc), t.heap = H1 → s.vm.Alike t.vm → post r u → B u t → H.size ≤ H1.size → (∀ q : Nat, q < H.size → ¬ A1 q → H1[q]? = H[q]?) → va_S A0 H0 H1 locs1 → W p l e R s m args below meth c H1 locs1 (cells + mc) (slots + ms) Q (F0 m (pc + 3) ls (va_rf r :: rest))) : W p l e R s m args below meth c H locs cells slots Q (F0 m pc ls st0) := by
  intro T hT X
  rcases hr T hT X with ⟨v, st₀, t, T', L, h0, X', hL, e1, e2, ⟨⟨r, u, hv, hp, hb⟩, hF⟩, st⟩ | ⟨q, st₀, t, T', L, E, ce, h0, X', hL, e1, e2, ⟨u, hp, hb, hF⟩, hce, hcv, hcl, st⟩
  · cases hv
    obtain ⟨k1, k2, k3⟩ := vx_keep h0 e1 hS hA hf hL hF
    obtain ⟨t2, a1, b1⟩ := kk r u t T'.heap (locs ++ L) e1.symm (by rw [← e2]; exact X'.warmed.alike) hp hb k1 k2 k3 T' rfl X'
    exact ⟨t2, st t2 a1, b1⟩
  · obtain ⟨k1, k2, k3⟩ := vx_keep h0 e1 hS hAX hf hL hF
    obtain ⟨t2, a1, b1⟩ := kx E ce q u t T'.heap (locs ++ L) e1.symm (by rw [← e2]; exact X'.warmed.alike) hp hb k1 k2 k3 (by rw [e1]; exact hce) hcv hcl T' rfl X'
    exact ⟨t2, st.trans a1, b1⟩
end
/-! ===== END ===== -/
/-! ===== BEGIN .. a constant ===== -/
section
variable {p : Program} {l : Launch} {e : Env} {R : Room} {s : State} {m : MethodId} {args : Array Value} {below : List Frame} {meth : Method} {c : Code} {H : Heap} {locs : List Loc} {cells slots : Nat} {Q : State → Prop}
variable {mc ms : Nat} {free : Addr → Prop} {A0 A1 : Nat → Prop} {H0 : Heap} {a : Array Value} {pc : Nat} {ls : Array Slot} {st0 rest : List Value}
theorem vx_calle {ad : Nat → Nat} {S SX : Type} {post : Option Nat → S → Prop} {px : SX → Prop} {B : S → State → Prop} {BX : String → SX → State → Prop} {AX : Nat → Prop} (hr : vx_Run p l e R s m args below meth c H locs cells slots mc ms (F0 m pc ls st0) rest (va_Qe ad post B A1 a) (vx_X px BX AX) free) (hS : va_S A0 H0 H locs) (hA : ∀ q, q < H.size → A1 q → A0 q) (hf : ∀ q, free q → A0 q) (hAX : ∀ q, q < H.size → AX q → A0 q)
    (kx : ∀ (E : String) (ce : Cell) (q9 : Addr) (u : SX) (t : State) (H1 : Heap) (locs1 : List Loc), t.heap = H1 → s.vm.Alike t.vm → px u → BX E u t → H.size ≤ H1.size → (∀ q : Nat, q < H.size → ¬ AX q → H1[q]? = H[q]?) → va_S A0 H0 H1 locs1 → H1[q9]? = some ce → ce.vm = .none → s.vm.findClass E = some ce.cls → vx_W p l e R s m args below meth c H1 locs1 (cells + mc) (slots + ms) Q (F0 m pc ls rest) q9)
    (kk : ∀ (r : Option Nat) (u : S) (t : State) (H1 : Heap) (locs1 : List Loc), t.heap = H1 → s.vm.Alike t.vm → post r u → B u t → H.size ≤ H1.size → (∀ q : Nat, q < H.size → ¬ A1 q → H1[q]? = H[q]?) → va_S A0 H0 H1 locs1 → W p l e R s m args below meth c H1 locs1 (cells + mc) (slots + ms) Q (F0 m (pc + 3) ls (va_re ad r :: rest))) : W p l e R s m args below meth c H locs cells slots Q (F0 m pc ls st0) := by
  intro T hT X
  rcases hr T hT X with ⟨v, st₀, t, T', L, h0, X', hL, e1, e2, ⟨⟨r, u, hv, hp, hb⟩, hF⟩, st⟩ | ⟨q, st₀, t, T', L, E, ce, h0, X', hL, e1, e2, ⟨u, hp, hb, hF⟩, hce, hcv, hcl, st⟩
  · cases hv
    obtain ⟨k1, k2, k3⟩ := vx_keep h0 e1 hS hA hf hL hF
    obtain ⟨t2, a1, b1⟩ := kk r u t T'.heap (locs ++ L) e1.symm (by rw [← e2]; exact X'.warmed.alike) hp hb k1 k2 k3 T' rfl X'
    exact ⟨t2, st t2 a1, b1⟩
  · obtain ⟨k1, k2, k3⟩ := vx_keep h0 e1 hS hAX hf hL hF
    obtain ⟨t2, a1, b1⟩ := kx E ce q u t T'.heap (locs ++ L) e1.symm (by rw [← e2]; exact X'.warmed.alike) hp hb k1 k2 k3 (by rw [e1]; exact hce) hcv hcl T' rfl X'
    exact ⟨t2, st.trans a1, b1⟩
end
/-! ===== END ===== -/
/-! ===== BEGIN .. by an interface, an object ===== -/
section
variable {p : Program} {l : Launch} {e : Env} {R : Room} {s : State} {m : MethodId} {args : Array Value} {below : List Frame} {meth : Method} {c : Code} {H : Heap} {locs : List Loc} {cells slots : Nat} {Q : State → Prop}
variable {mc ms : Nat} {free : Addr → Prop} {A0 A1 : Nat → Prop} {H0 : Heap} {a : Array Value} {pc : Nat} {ls : Array Slot} {st0 rest : List Value}
theorem vx_callFq {S SX : Type} {post : Option Nat → S → Prop} {px : SX → Prop} {B : S → State → Prop} {BX : String → SX → State → Prop} {AX : Nat → Prop} (hr : vx_Run5 p l e R s m args below meth c H locs cells slots mc ms (F0 m pc ls st0) rest (va_Qq post B A1 a) (vx_X px BX AX) free) (hS : va_S A0 H0 H locs) (hA : ∀ q, q < H.size → A1 q → A0 q) (hf : ∀ q, free q → A0 q) (hAX : ∀ q, q < H.size → AX q → A0 q)
    (kx : ∀ (E : String) (ce : Cell) (q9 : Addr) (u : SX) (t : State) (H1 : Heap) (locs1 : List Loc), t.heap = H1 → s.vm.Alike t.vm → px u → BX E u t → H.size ≤ H1.size → (∀ q : Nat, q < H.size → ¬ AX q → H1[q]? = H[q]?) → va_S A0 H0 H1 locs1 → H1[q9]? = some ce → ce.vm = .none → s.vm.findClass E = some ce.cls → vx_W p l e R s m args below meth c H1 locs1 (cells + mc) (slots + ms) Q (F0 m pc ls rest) q9)
    (kk : ∀ (r : Option Nat) (u : S) (t : State) (H1 : Heap) (locs1 : List Loc), t.heap = H1 → s.vm.Alike t.vm → post r u → B u t → H.size ≤ H1.size → (∀ q : Nat, q < H.size → ¬ A1 q → H1[q]? = H[q]?) → va_S A0 H0 H1 locs1 → W p l e R s m args below meth c H1 locs1 (cells + mc) (slots + ms) Q (F0 m (pc + 5) ls (va_rf r :: rest))) : W p l e R s m args below meth c H locs cells slots Q (F0 m pc ls st0) := by
  intro T hT X
  rcases hr T hT X with ⟨v, st₀, t, T', L, h0, X', hL, e1, e2, ⟨⟨r, u, hv, hp, hb⟩, hF⟩, st⟩ | ⟨q, st₀, t, T', L, E, ce, h0, X', hL, e1, e2, ⟨u, hp, hb, hF⟩, hce, hcv, hcl, st⟩
  · cases hv
    obtain ⟨k1, k2, k3⟩ := vx_keep h0 e1 hS hA hf hL hF
    obtain ⟨t2, a1, b1⟩ := kk r u t T'.heap (locs ++ L) e1.symm (by rw [← e2]; exact X'.warmed.alike) hp hb k1 k2 k3 T' rfl X'
    exact ⟨t2, st t2 a1, b1⟩
  · obtain ⟨k1, k2, k3⟩ := vx_keep h0 e1 hS hAX hf hL hF
    obtain ⟨t2, a1, b1⟩ := kx E ce q u t T'.heap (locs ++ L) e1.symm (by rw [← e2]; exact X'.warmed.alike) hp hb k1 k2 k3 (by rw [e1]; exact hce) hcv hcl T' rfl X'
    exact ⟨t2, st.trans a1, b1⟩
end
/-! ===== END ===== -/
/-! ===== BEGIN .. by an interface, a constant ===== -/
section
variable {p : Program} {l : Launch} {e : Env} {R : Room} {s : State} {m : MethodId} {args : Array Value} {below : List Frame} {meth : Method} {c : Code} {H : Heap} {locs : List Loc} {cells slots : Nat} {Q : State → Prop}
variable {mc ms : Nat} {free : Addr → Prop} {A0 A1 : Nat → Prop} {H0 : Heap} {a : Array Value} {pc : Nat} {ls : Array Slot} {st0 rest : List Value}
theorem vx_callFe {ad : Nat → Nat} {S SX : Type} {post : Option Nat → S → Prop} {px : SX → Prop} {B : S → State → Prop} {BX : String → SX → State → Prop} {AX : Nat → Prop} (hr : vx_Run5 p l e R s m args below meth c H locs cells slots mc ms (F0 m pc ls st0) rest (va_Qe ad post B A1 a) (vx_X px BX AX) free) (hS : va_S A0 H0 H locs) (hA : ∀ q, q < H.size → A1 q → A0 q) (hf : ∀ q, free q → A0 q) (hAX : ∀ q, q < H.size → AX q → A0 q)
    (kx : ∀ (E : String) (ce : Cell) (q9 : Addr) (u : SX) (t : State) (H1 : Heap) (locs1 : List Loc), t.heap = H1 → s.vm.Alike t.vm → px u → BX E u t → H.size ≤ H1.size → (∀ q : Nat, q < H.size → ¬ AX q → H1[q]? = H[q]?) → va_S A0 H0 H1 locs1 → H1[q9]? = some ce → ce.vm = .none → s.vm.findClass E = some ce.cls → vx_W p l e R s m args below meth c H1 locs1 (cells + mc) (slots + ms) Q (F0 m pc ls rest) q9)
    (kk : ∀ (r : Option Nat) (u : S) (t : State) (H1 : Heap) (locs1 : List Loc), t.heap = H1 → s.vm.Alike t.vm → post r u → B u t → H.size ≤ H1.size → (∀ q : Nat, q < H.size → ¬ A1 q → H1[q]? = H[q]?) → va_S A0 H0 H1 locs1 → W p l e R s m args below meth c H1 locs1 (cells + mc) (slots + ms) Q (F0 m (pc + 5) ls (va_re ad r :: rest))) : W p l e R s m args below meth c H locs cells slots Q (F0 m pc ls st0) := by
  intro T hT X
  rcases hr T hT X with ⟨v, st₀, t, T', L, h0, X', hL, e1, e2, ⟨⟨r, u, hv, hp, hb⟩, hF⟩, st⟩ | ⟨q, st₀, t, T', L, E, ce, h0, X', hL, e1, e2, ⟨u, hp, hb, hF⟩, hce, hcv, hcl, st⟩
  · cases hv
    obtain ⟨k1, k2, k3⟩ := vx_keep h0 e1 hS hA hf hL hF
    obtain ⟨t2, a1, b1⟩ := kk r u t T'.heap (locs ++ L) e1.symm (by rw [← e2]; exact X'.warmed.alike) hp hb k1 k2 k3 T' rfl X'
    exact ⟨t2, st t2 a1, b1⟩
  · obtain ⟨k1, k2, k3⟩ := vx_keep h0 e1 hS hAX hf hL hF
    obtain ⟨t2, a1, b1⟩ := kx E ce q u t T'.heap (locs ++ L) e1.symm (by rw [← e2]; exact X'.warmed.alike) hp hb k1 k2 k3 (by rw [e1]; exact hce) hcv hcl T' rfl X'
    exact ⟨t2, st.trans a1, b1⟩
end
/-! ===== END ===== -/
/-! ===== BEGIN what the machine throws by itself: null at a field, at athrow ===== -/
section VXM2
variable {p : Program} {l : Launch} {e : Env} {R : Room} {s : State} {m : MethodId} {args : Array Value} {below : List Frame} {meth : Method} {c : Code} {H : Heap} {locs : List Loc} {cells slots : Nat}
variable {Q : State → Prop} {cc : ByteArray} {pc : Nat} {ls : Array Slot} {rest : List Value}
theorem vx_getfN {D cl tys} {own ref C : String} {T : u_T} {N ci index : Nat} {Ts : List Cond} (hexec : p.tables.exec = Jvm.exec) (hb : c.code = cc) (hts : ∀ w ∈ Ts, w.before args s = true) (hin : ∀ w ∈ u_ws C T N, w ∈ Ts) (hown : s.vm.findClass own = some m.cls) (hK : va_K D cl tys s) (hc : cl[ci]? = some (C, T, N)) (k : Nat) (hk : k < N) (hlink : (Cond.fieldLink own index ref (T k).2.1 (T k).2.2.1).before args s = true) (hsame : ∀ x, s.fieldFound? (T k).1 (T k).2.1 (T k).2.2.1 = some x → s.fieldFound? ref (T k).2.1 (T k).2.2.1 = some x) (hdg : decode cc pc = .ok (.getfield index, 3)) (kk : vx_NoteN p l e R s m args below meth c H locs cells slots Q (F0 m pc ls rest)) : W p l e R s m args below meth c H locs cells slots Q (F0 m pc ls (.null :: rest)) := by
  obtain ⟨hS, hfc, kC, hkC, -⟩ := hK.1 ci _ hc
  obtain ⟨cf, kf, fi, f, hi, -⟩ := hS k hk
  intro U hU X
  obtain ⟨vm', X1, st1⟩ := X.getfieldNull hexec hown hlink (hsame _ hi) (u_facts hfc hkC (u_lays hts hin hk) hi).1 (g := F0 m pc ls (.null :: rest)) rfl (rest := rest) rfl (by rw [hb]; exact hdg)
  obtain ⟨t, st, q⟩ := kk (U.setVm vm') hU X1
  exact ⟨t, st1 t st, q⟩
theorem vx_getfNN {D cl tys} {own ref C host : String} {T : u_T} {N ci index : Nat} {Ts : List Cond} (hexec : p.tables.exec = Jvm.exec) (hb : c.code = cc) (hts : ∀ w ∈ Ts, w.before args s = true) (hin : ∀ w ∈ u_ws C T N, w ∈ Ts) (hown : s.vm.findClass own = some m.cls) (hK : va_K D cl tys s) (hc : cl[ci]? = some (C, T, N)) (k : Nat) (hk : k < N) (hlink : (Cond.fieldLinkNest own index ref (T k).2.1 (T k).2.2.1 host).before args s = true) (hsame : ∀ x, s.fieldFound? (T k).1 (T k).2.1 (T k).2.2.1 = some x → s.fieldFound? ref (T k).2.1 (T k).2.2.1 = some x) (hdg : decode cc pc = .ok (.getfield index, 3)) (kk : vx_NoteN p l e R s m args below meth c H locs cells slots Q (F0 m pc ls rest)) : W p l e R s m args below meth c H locs cells slots Q (F0 m pc ls (.null :: rest)) := by
  obtain ⟨hS, hfc, kC, hkC, -⟩ := hK.1 ci _ hc
  obtain ⟨cf, kf, fi, f, hi, -⟩ := hS k hk
  intro U hU X
  obtain ⟨vm', X1, st1⟩ := X.getfieldNullNest hexec hown hlink (hsame _ hi) (u_facts hfc hkC (u_lays hts hin hk) hi).1 (g := F0 m pc ls (.null :: rest)) rfl (rest := rest) rfl (by rw [hb]; exact hdg)
  obtain ⟨t, st, q⟩ := kk (U.setVm vm') hU X1
  exact ⟨t, st1 t st, q⟩
theorem vx_putfN {D cl tys} {own ref C : String} {T : u_T} {N ci index : Nat} {Ts : List Cond} (hexec : p.tables.exec = Jvm.exec) (hb : c.code = cc) (hts : ∀ w ∈ Ts, w.before args s = true) (hin : ∀ w ∈ u_ws C T N, w ∈ Ts) (hown : s.vm.findClass own = some m.cls) (hK : va_K D cl tys s) (hc : cl[ci]? = some (C, T, N)) (k : Nat) (hk : k < N) (hlink : (Cond.fieldLink own index ref (T k).2.1 (T k).2.2.1).before args s = true) (hsame : ∀ x, s.fieldFound? (T k).1 (T k).2.1 (T k).2.2.1 = some x → s.fieldFound? ref (T k).2.1 (T k).2.2.1 = some x) (hfin : (T k).2.2.2 = false) {v : Value} (hdg : decode cc pc = .ok (.putfield index, 3)) (kk : vx_NoteN p l e R s m args below meth c H locs cells slots Q (F0 m pc ls rest)) : W p l e R s m args below meth c H locs cells slots Q (F0 m pc ls (v :: .null :: rest)) := by
  obtain ⟨hS, hfc, kC, hkC, -⟩ := hK.1 ci _ hc
  obtain ⟨cf, kf, fi, f, hi, -⟩ := hS k hk
  have hlay := hts _ (hin _ (u_in_lay hk))
  unfold u_lay at hlay
  rw [if_neg (by rw [hfin]; decide)] at hlay
  obtain ⟨c9, k9, cf9, kf9, fi9, f9, -, -, hi9, hst9, hnf9, -⟩ := Cond.lays_spec hlay
  cases hi.symm.trans hi9
  intro U hU X
  obtain ⟨vm', X1, st1⟩ := X.putfieldNull hexec hown hlink (hsame _ hi) hst9 hnf9 (g := F0 m pc ls (v :: .null :: rest)) rfl (v := v) (rest := rest) rfl (by rw [hb]; exact hdg)
  obtain ⟨t, st, q⟩ := kk (U.setVm vm') hU X1
  exact ⟨t, st1 t st, q⟩
theorem vx_putfNN {D cl tys} {own ref C host : String} {T : u_T} {N ci index : Nat} {Ts : List Cond} (hexec : p.tables.exec = Jvm.exec) (hb : c.code = cc) (hts : ∀ w ∈ Ts, w.before args s = true) (hin : ∀ w ∈ u_ws C T N, w ∈ Ts) (hown : s.vm.findClass own = some m.cls) (hK : va_K D cl tys s) (hc : cl[ci]? = some (C, T, N)) (k : Nat) (hk : k < N) (hlink : (Cond.fieldLinkNest own index ref (T k).2.1 (T k).2.2.1 host).before args s = true) (hsame : ∀ x, s.fieldFound? (T k).1 (T k).2.1 (T k).2.2.1 = some x → s.fieldFound? ref (T k).2.1 (T k).2.2.1 = some x) (hfin : (T k).2.2.2 = false) {v : Value} (hdg : decode cc pc = .ok (.putfield index, 3)) (kk : vx_NoteN p l e R s m args below meth c H locs cells slots Q (F0 m pc ls rest)) : W p l e R s m args below meth c H locs cells slots Q (F0 m pc ls (v :: .null :: rest)) := by
  obtain ⟨hS, hfc, kC, hkC, -⟩ := hK.1 ci _ hc
  obtain ⟨cf, kf, fi, f, hi, -⟩ := hS k hk
  have hlay := hts _ (hin _ (u_in_lay hk))
  unfold u_lay at hlay
  rw [if_neg (by rw [hfin]; decide)] at hlay
  obtain ⟨c9, k9, cf9, kf9, fi9, f9, -, -, hi9, hst9, hnf9, -⟩ := Cond.lays_spec hlay
  cases hi.symm.trans hi9
  intro U hU X
  obtain ⟨vm', X1, st1⟩ := X.putfieldNullNest hexec hown hlink (hsame _ hi) hst9 hnf9 (g := F0 m pc ls (v :: .null :: rest)) rfl (v := v) (rest := rest) rfl (by rw [hb]; exact hdg)
  obtain ⟨t, st, q⟩ := kk (U.setVm vm') hU X1
  exact ⟨t, st1 t st, q⟩
theorem vx_athrowN (hexec : p.tables.exec = Jvm.exec) (hb : c.code = cc) (hdg : decode cc pc = .ok (.athrow, 1)) (k : vx_NoteN p l e R s m args below meth c H locs cells slots Q (F0 m pc ls rest)) : W p l e R s m args below meth c H locs cells slots Q (F0 m pc ls (.null :: rest)) := by
  intro T hT X
  obtain ⟨t, st, q⟩ := k T hT X
  exact ⟨t, X.athrowNull hexec (g := F0 m pc ls (.null :: rest)) rfl (rest := rest) rfl (by rw [hb]; exact hdg) t st, q⟩
end VXM2
/-! ===== END ===== -/
end
section
def RX0 : String := "Cardgate$Board"
def TX0 : u_T := fun k => match k with
  | 0 => ("Cardgate$Board", "ranks", "[I", true)
  | 1 => ("Cardgate$Board", "columns", "[I", true)
  | 2 => ("Cardgate$Board", "arrivals", "[I", true)
  | 3 => ("Cardgate$Board", "names", "[I", true)
  | 4 => ("Cardgate$Board", "fallCounts", "[I", true)
  | 5 => ("Cardgate$Board", "pushCounts", "[I", true)
  | 6 => ("Cardgate$Board", "limits", "[I", true)
  | 7 => ("Cardgate$Board", "count", "I", false)
  | _ => ("Cardgate$Board", "arrivalsSoFar", "I", false)
def tyX0 : Nat → FieldType := fun k => match k with
  | 0 => .array .int
  | 1 => .array .int
  | 2 => .array .int
  | 3 => .array .int
  | 4 => .array .int
  | 5 => .array .int
  | 6 => .array .int
  | 7 => .int
  | _ => .int
theorem nmX0 : ∀ a, a < 9 → ∀ b, b < 9 → a ≠ b → (TX0 a).2.1 ≠ (TX0 b).2.1 := by decide +kernel
theorem tyX0_ok : ∀ k, k < 9 → parseFieldDescriptor (TX0 k).2.2.1 = some (tyX0 k) := by decide +kernel
abbrev cX0_init : ByteArray := prog_2_method_1_code
def yX0_init : MethodName := ⟨RX0, "<init>", "()V"⟩
abbrev cX0_has : ByteArray := prog_2_method_2_code
def yX0_has : MethodName := ⟨RX0, "has", "(I)Z"⟩
abbrev cX0_add : ByteArray := prog_2_method_3_code
def yX0_add : MethodName := ⟨RX0, "add", "(I)I"⟩
abbrev cX0_put : ByteArray := prog_2_method_4_code
def yX0_put : MethodName := ⟨RX0, "put", "(II)V"⟩
abbrev cX0_whereIs : ByteArray := prog_2_method_5_code
def yX0_whereIs : MethodName := ⟨RX0, "whereIs", "(I)I"⟩
abbrev cX0_sizeOf : ByteArray := prog_2_method_6_code
def yX0_sizeOf : MethodName := ⟨RX0, "sizeOf", "(I)I"⟩
abbrev cX0_cardInOrder : ByteArray := prog_2_method_7_code
def yX0_cardInOrder : MethodName := ⟨RX0, "cardInOrder", "(II)I"⟩
abbrev cX0_countAheadOf : ByteArray := prog_2_method_8_code
def yX0_countAheadOf : MethodName := ⟨RX0, "countAheadOf", "(I)I"⟩
abbrev cX0_isAtLimit : ByteArray := prog_2_method_9_code
def yX0_isAtLimit : MethodName := ⟨RX0, "isAtLimit", "(I)Z"⟩
abbrev cX0_isAboveLimit : ByteArray := prog_2_method_10_code
def yX0_isAboveLimit : MethodName := ⟨RX0, "isAboveLimit", "(I)Z"⟩
abbrev cX0_replaceLimit : ByteArray := prog_2_method_11_code
def yX0_replaceLimit : MethodName := ⟨RX0, "replaceLimit", "(II)I"⟩
abbrev cX0_setName : ByteArray := prog_2_method_12_code
def yX0_setName : MethodName := ⟨RX0, "setName", "(IIZ)V"⟩
abbrev cX0_namesOf : ByteArray := prog_2_method_13_code
def yX0_namesOf : MethodName := ⟨RX0, "namesOf", "(I)I"⟩
abbrev cX0_namedIn : ByteArray := prog_2_method_14_code
def yX0_namedIn : MethodName := ⟨RX0, "namedIn", "(I)I"⟩
abbrev cX0_countNaming : ByteArray := prog_2_method_15_code
def yX0_countNaming : MethodName := ⟨RX0, "countNaming", "(I)I"⟩
abbrev cX0_countFall : ByteArray := prog_2_method_16_code
def yX0_countFall : MethodName := ⟨RX0, "countFall", "(I)V"⟩
abbrev cX0_fallsOf : ByteArray := prog_2_method_17_code
def yX0_fallsOf : MethodName := ⟨RX0, "fallsOf", "(I)I"⟩
abbrev cX0_countPush : ByteArray := prog_2_method_18_code
def yX0_countPush : MethodName := ⟨RX0, "countPush", "(I)V"⟩
abbrev cX0_pushesOf : ByteArray := prog_2_method_19_code
def yX0_pushesOf : MethodName := ⟨RX0, "pushesOf", "(I)I"⟩
def RX1 : String := "Cardgate$Gate"
def TX1 : u_T := fun k => match k with
  | 0 => ("Cardgate$Gate", "weights", "[I", true)
  | 1 => ("Cardgate$Gate", "needs", "[I", true)
  | 2 => ("Cardgate$Gate", "clashes", "[I", true)
  | 3 => ("Cardgate$Gate", "states", "[I", true)
  | 4 => ("Cardgate$Gate", "queue", "[I", true)
  | 5 => ("Cardgate$Gate", "broken", "I", false)
  | 6 => ("Cardgate$Gate", "count", "I", false)
  | 7 => ("Cardgate$Gate", "queueLength", "I", false)
  | 8 => ("Cardgate$Gate", "trialIn", "I", false)
  | 9 => ("Cardgate$Gate", "trialTries", "I", false)
  | _ => ("Cardgate$Gate", "trialHours", "I", false)
def tyX1 : Nat → FieldType := fun k => match k with
  | 0 => .array .int
  | 1 => .array .int
  | 2 => .array .int
  | 3 => .array .int
  | 4 => .array .int
  | 5 => .int
  | 6 => .int
  | 7 => .int
  | 8 => .int
  | 9 => .int
  | _ => .int
theorem nmX1 : ∀ a, a < 11 → ∀ b, b < 11 → a ≠ b → (TX1 a).2.1 ≠ (TX1 b).2.1 := by decide +kernel
theorem tyX1_ok : ∀ k, k < 11 → parseFieldDescriptor (TX1 k).2.2.1 = some (tyX1 k) := by decide +kernel
abbrev cX1_init : ByteArray := prog_3_method_1_code
def yX1_init : MethodName := ⟨RX1, "<init>", "()V"⟩
abbrev cX1_has : ByteArray := prog_3_method_2_code
def yX1_has : MethodName := ⟨RX1, "has", "(I)Z"⟩
abbrev cX1_add : ByteArray := prog_3_method_3_code
def yX1_add : MethodName := ⟨RX1, "add", "(I)I"⟩
abbrev cX1_weightOf : ByteArray := prog_3_method_4_code
def yX1_weightOf : MethodName := ⟨RX1, "weightOf", "(I)I"⟩
abbrev cX1_stateOf : ByteArray := prog_3_method_5_code
def yX1_stateOf : MethodName := ⟨RX1, "stateOf", "(I)I"⟩
abbrev cX1_setState : ByteArray := prog_3_method_6_code
def yX1_setState : MethodName := ⟨RX1, "setState", "(II)V"⟩
abbrev cX1_allOf : ByteArray := prog_3_method_7_code
def yX1_allOf : MethodName := ⟨RX1, "allOf", "(I)I"⟩
abbrev cX1_needsOf : ByteArray := prog_3_method_8_code
def yX1_needsOf : MethodName := ⟨RX1, "needsOf", "(I)I"⟩
abbrev cX1_addNeed : ByteArray := prog_3_method_9_code
def yX1_addNeed : MethodName := ⟨RX1, "addNeed", "(II)V"⟩
abbrev cX1_isNeededByOneIn : ByteArray := prog_3_method_10_code
def yX1_isNeededByOneIn : MethodName := ⟨RX1, "isNeededByOneIn", "(I)Z"⟩
abbrev cX1_replaceBroken : ByteArray := prog_3_method_11_code
def yX1_replaceBroken : MethodName := ⟨RX1, "replaceBroken", "(IZ)Z"⟩
abbrev cX1_replaceClash : ByteArray := prog_3_method_12_code
def yX1_replaceClash : MethodName := ⟨RX1, "replaceClash", "(IIZ)Z"⟩
abbrev cX1_areReady : ByteArray := prog_3_method_13_code
def yX1_areReady : MethodName := ⟨RX1, "areReady", "(I)Z"⟩
abbrev cX1_changeAt : ByteArray := prog_3_method_14_code
def yX1_changeAt : MethodName := ⟨RX1, "changeAt", "(I)I"⟩
abbrev cX1_enqueue : ByteArray := prog_3_method_15_code
def yX1_enqueue : MethodName := ⟨RX1, "enqueue", "(I)V"⟩
abbrev cX1_unqueue : ByteArray := prog_3_method_16_code
def yX1_unqueue : MethodName := ⟨RX1, "unqueue", "(I)V"⟩
abbrev cX1_settle : ByteArray := prog_3_method_17_code
def yX1_settle : MethodName := ⟨RX1, "settle", "(I)V"⟩
abbrev cX1_foreseeRow : ByteArray := prog_3_method_18_code
def yX1_foreseeRow : MethodName := ⟨RX1, "foreseeRow", "(I)V"⟩
abbrev cX1_foreseeOneByOne : ByteArray := prog_3_method_19_code
def yX1_foreseeOneByOne : MethodName := ⟨RX1, "foreseeOneByOne", "(I)V"⟩
abbrev cX1_passedPlaces : ByteArray := prog_3_method_20_code
def yX1_passedPlaces : MethodName := ⟨RX1, "passedPlaces", "(I)I"⟩
abbrev cX1_startTrial : ByteArray := prog_3_method_21_code
def yX1_startTrial : MethodName := ⟨RX1, "startTrial", "()V"⟩
abbrev cX1_tryAndHalve : ByteArray := prog_3_method_22_code
def yX1_tryAndHalve : MethodName := ⟨RX1, "tryAndHalve", "(II)V"⟩
abbrev cX1_tryHalves : ByteArray := prog_3_method_23_code
def yX1_tryHalves : MethodName := ⟨RX1, "tryHalves", "(II)V"⟩
abbrev cX1_passes : ByteArray := prog_3_method_24_code
def yX1_passes : MethodName := ⟨RX1, "passes", "(II)Z"⟩
abbrev cX1_holdsBehind : ByteArray := prog_3_method_25_code
def yX1_holdsBehind : MethodName := ⟨RX1, "holdsBehind", "(II)Z"⟩
abbrev cX1_setOfRow : ByteArray := prog_3_method_26_code
def yX1_setOfRow : MethodName := ⟨RX1, "setOfRow", "(II)I"⟩
abbrev cX1_weightOfRow : ByteArray := prog_3_method_27_code
def yX1_weightOfRow : MethodName := ⟨RX1, "weightOfRow", "(II)I"⟩
def RX2 : String := "Cardgate"
def TX2 : u_T := fun k => match k with
  | 0 => ("Cardgate", "board", "LCardgate$Board;", true)
  | 1 => ("Cardgate", "gate", "LCardgate$Gate;", true)
  | _ => ("Cardgate", "hoursSoFar", "I", false)
def tyX2 : Nat → FieldType := fun k => match k with
  | 0 => .object "Cardgate$Board"
  | 1 => .object "Cardgate$Gate"
  | _ => .int
theorem nmX2 : ∀ a, a < 3 → ∀ b, b < 3 → a ≠ b → (TX2 a).2.1 ≠ (TX2 b).2.1 := by decide +kernel
theorem tyX2_ok : ∀ k, k < 3 → parseFieldDescriptor (TX2 k).2.2.1 = some (tyX2 k) := by decide +kernel
abbrev cX2_init : ByteArray := prog_1_method_1_code
def yX2_init : MethodName := ⟨RX2, "<init>", "()V"⟩
abbrev cX2_card : ByteArray := prog_1_method_2_code
def yX2_card : MethodName := ⟨RX2, "card", "(I)I"⟩
abbrev cX2_name : ByteArray := prog_1_method_3_code
def yX2_name : MethodName := ⟨RX2, "name", "(IIZ)I"⟩
abbrev cX2_move : ByteArray := prog_1_method_4_code
def yX2_move : MethodName := ⟨RX2, "move", "(I)I"⟩
abbrev cX2_moveBack : ByteArray := prog_1_method_5_code
def yX2_moveBack : MethodName := ⟨RX2, "moveBack", "(I)I"⟩
abbrev cX2_setLimit : ByteArray := prog_1_method_6_code
def yX2_setLimit : MethodName := ⟨RX2, "setLimit", "(II)I"⟩
abbrev cX2_change : ByteArray := prog_1_method_7_code
def yX2_change : MethodName := ⟨RX2, "change", "(I)I"⟩
abbrev cX2_need : ByteArray := prog_1_method_8_code
def yX2_need : MethodName := ⟨RX2, "need", "(II)I"⟩
abbrev cX2_setBroken : ByteArray := prog_1_method_9_code
def yX2_setBroken : MethodName := ⟨RX2, "setBroken", "(IZ)Z"⟩
abbrev cX2_setClash : ByteArray := prog_1_method_10_code
def yX2_setClash : MethodName := ⟨RX2, "setClash", "(IIZ)Z"⟩
abbrev cX2_mend : ByteArray := prog_1_method_11_code
def yX2_mend : MethodName := ⟨RX2, "mend", "(I)I"⟩
abbrev cX2_takeOut : ByteArray := prog_1_method_12_code
def yX2_takeOut : MethodName := ⟨RX2, "takeOut", "(I)I"⟩
abbrev cX2_merge : ByteArray := prog_1_method_13_code
def yX2_merge : MethodName := ⟨RX2, "merge", "(I)I"⟩
abbrev cX2_queued : ByteArray := prog_1_method_14_code
def yX2_queued : MethodName := ⟨RX2, "queued", "()I"⟩
abbrev cX2_queuedAt : ByteArray := prog_1_method_15_code
def yX2_queuedAt : MethodName := ⟨RX2, "queuedAt", "(I)I"⟩
abbrev cX2_wouldPass : ByteArray := prog_1_method_16_code
def yX2_wouldPass : MethodName := ⟨RX2, "wouldPass", "(I)I"⟩
abbrev cX2_wouldPassOneByOne : ByteArray := prog_1_method_17_code
def yX2_wouldPassOneByOne : MethodName := ⟨RX2, "wouldPassOneByOne", "(I)I"⟩
abbrev cX2_wouldTake : ByteArray := prog_1_method_18_code
def yX2_wouldTake : MethodName := ⟨RX2, "wouldTake", "(IZ)I"⟩
abbrev cX2_bestLength : ByteArray := prog_1_method_19_code
def yX2_bestLength : MethodName := ⟨RX2, "bestLength", "()I"⟩
abbrev cX2_hours : ByteArray := prog_1_method_20_code
def yX2_hours : MethodName := ⟨RX2, "hours", "()I"⟩
abbrev cX2_cards : ByteArray := prog_1_method_21_code
def yX2_cards : MethodName := ⟨RX2, "cards", "()I"⟩
abbrev cX2_changes : ByteArray := prog_1_method_22_code
def yX2_changes : MethodName := ⟨RX2, "changes", "()I"⟩
abbrev cX2_columnOf : ByteArray := prog_1_method_23_code
def yX2_columnOf : MethodName := ⟨RX2, "columnOf", "(I)I"⟩
abbrev cX2_cardsIn : ByteArray := prog_1_method_24_code
def yX2_cardsIn : MethodName := ⟨RX2, "cardsIn", "(I)I"⟩
abbrev cX2_cardAt : ByteArray := prog_1_method_25_code
def yX2_cardAt : MethodName := ⟨RX2, "cardAt", "(II)I"⟩
abbrev cX2_canMove : ByteArray := prog_1_method_26_code
def yX2_canMove : MethodName := ⟨RX2, "canMove", "(I)Z"⟩
abbrev cX2_lacks : ByteArray := prog_1_method_27_code
def yX2_lacks : MethodName := ⟨RX2, "lacks", "(I)I"⟩
abbrev cX2_falls : ByteArray := prog_1_method_28_code
def yX2_falls : MethodName := ⟨RX2, "falls", "(I)I"⟩
abbrev cX2_pushes : ByteArray := prog_1_method_29_code
def yX2_pushes : MethodName := ⟨RX2, "pushes", "(I)I"⟩
abbrev cX2_state : ByteArray := prog_1_method_30_code
def yX2_state : MethodName := ⟨RX2, "state", "(I)I"⟩
abbrev cX2_namedBy : ByteArray := prog_1_method_31_code
def yX2_namedBy : MethodName := ⟨RX2, "namedBy", "(I)I"⟩
abbrev cX2_requireCard : ByteArray := prog_1_method_32_code
def yX2_requireCard : MethodName := ⟨RX2, "requireCard", "(I)V"⟩
abbrev cX2_requireChange : ByteArray := prog_1_method_33_code
def yX2_requireChange : MethodName := ⟨RX2, "requireChange", "(I)V"⟩
abbrev cX2_requireColumn : ByteArray := prog_1_method_34_code
def yX2_requireColumn : MethodName := ⟨RX2, "requireColumn", "(I)V"⟩
abbrev cX2_requireRange : ByteArray := prog_1_method_35_code
def yX2_requireRange : MethodName := ⟨RX2, "requireRange", "(III)V"⟩
abbrev cX2_requireRow : ByteArray := prog_1_method_36_code
def yX2_requireRow : MethodName := ⟨RX2, "requireRow", "(I)V"⟩
abbrev cX2_isMovable : ByteArray := prog_1_method_37_code
def yX2_isMovable : MethodName := ⟨RX2, "isMovable", "(I)Z"⟩
abbrev cX2_shift : ByteArray := prog_1_method_38_code
def yX2_shift : MethodName := ⟨RX2, "shift", "(II)V"⟩
abbrev cX2_pushBackFrom : ByteArray := prog_1_method_39_code
def yX2_pushBackFrom : MethodName := ⟨RX2, "pushBackFrom", "(I)V"⟩
abbrev cX2_dropCards : ByteArray := prog_1_method_40_code
def yX2_dropCards : MethodName := ⟨RX2, "dropCards", "(IZ)I"⟩
abbrev cX2_passOn : ByteArray := prog_1_method_41_code
def yX2_passOn : MethodName := ⟨RX2, "passOn", "(I)V"⟩
abbrev cX2_hasLimit : ByteArray := prog_1_method_42_code
def yX2_hasLimit : MethodName := ⟨RX2, "hasLimit", "(I)Z"⟩
abbrev cX2_bit : ByteArray := prog_1_method_43_code
def yX2_bit : MethodName := ⟨RX2, "bit", "(I)I"⟩
abbrev cX2_contains : ByteArray := prog_1_method_44_code
def yX2_contains : MethodName := ⟨RX2, "contains", "(II)Z"⟩
abbrev cX2_with : ByteArray := prog_1_method_45_code
def yX2_with : MethodName := ⟨RX2, "with", "(IIZ)I"⟩
def RX3 : String := "CardgateModel"
def TX3 : u_T := fun k => match k with
  | _ => ("", "", "", false)
def tyX3 : Nat → FieldType := fun k => match k with
  | _ => .int
theorem nmX3 : ∀ a, a < 0 → ∀ b, b < 0 → a ≠ b → (TX3 a).2.1 ≠ (TX3 b).2.1 := by decide +kernel
theorem tyX3_ok : ∀ k, k < 0 → parseFieldDescriptor (TX3 k).2.2.1 = some (tyX3 k) := by decide +kernel
def RJ6 : String := "java/lang/Integer"
abbrev cJ6_bitCount_0f7a4 : ByteArray := prog_10_method_49_code
def yJ6_bitCount_0f7a4 : MethodName := ⟨RJ6, "bitCount", "(I)I"⟩
def RJ0 : String := "java/lang/String"
def RL : String := "CardgateLaw"
abbrev cL_from : ByteArray := method_2_code
def yL_from : MethodName := ⟨RL, "from", "([III)I"⟩
abbrev cL_come : ByteArray := method_3_code
def yL_come : MethodName := ⟨RL, "come", "([I[I[I[I[III)V"⟩
abbrev cL_count : ByteArray := method_4_code
def yL_count : MethodName := ⟨RL, "count", "([I[II)I"⟩
abbrev cL_push : ByteArray := method_5_code
def yL_push : MethodName := ⟨RL, "push", "([I[I[I[I[II)V"⟩
abbrev cL_fall : ByteArray := method_6_code
def yL_fall : MethodName := ⟨RL, "fall", "([I[I[I[I[II)V"⟩
abbrev cL_withState : ByteArray := method_7_code
def yL_withState : MethodName := ⟨RL, "withState", "([I[II)I"⟩
abbrev cL_ones : ByteArray := method_8_code
def yL_ones : MethodName := ⟨RL, "ones", "(I)I"⟩
abbrev cL_canMove : ByteArray := method_9_code
def yL_canMove : MethodName := ⟨RL, "canMove", "([I[I[II)Z"⟩
abbrev cL_work : ByteArray := method_10_code
def yL_work : MethodName := ⟨RL, "work", "([I[I[I[IIZ)V"⟩
abbrev cL_passed : ByteArray := method_11_code
def yL_passed : MethodName := ⟨RL, "passed", "([I[II)I"⟩
abbrev cL_moved : ByteArray := method_12_code
def yL_moved : MethodName := ⟨RL, "moved", "(LCardgate;II)I"⟩
abbrev cL_named : ByteArray := method_13_code
def yL_named : MethodName := ⟨RL, "named", "(LCardgate;IIZ)I"⟩
abbrev cL_needed : ByteArray := method_14_code
def yL_needed : MethodName := ⟨RL, "needed", "(LCardgate;II)I"⟩
abbrev cL_broke : ByteArray := method_15_code
def yL_broke : MethodName := ⟨RL, "broke", "(LCardgate;IZ)I"⟩
abbrev cL_clashed : ByteArray := method_16_code
def yL_clashed : MethodName := ⟨RL, "clashed", "(LCardgate;IIZ)I"⟩
abbrev cL_did : ByteArray := method_17_code
def yL_did : MethodName := ⟨RL, "did", "(LCardgate;II)I"⟩
abbrev cL_merged : ByteArray := method_18_code
def yL_merged : MethodName := ⟨RL, "merged", "(LCardgate;I)I"⟩
abbrev cL_areCards : ByteArray := method_19_code
def yL_areCards : MethodName := ⟨RL, "areCards", "(LCardgate;[I[I[I[II)Z"⟩
abbrev cL_isQueue : ByteArray := method_20_code
def yL_isQueue : MethodName := ⟨RL, "isQueue", "(LCardgate;[I[I[I)Z"⟩
abbrev cL_isChanged : ByteArray := method_21_code
def yL_isChanged : MethodName := ⟨RL, "isChanged", "(LCardgate;[I[I[I[I[III)Z"⟩
abbrev cL_isMerged : ByteArray := method_22_code
def yL_isMerged : MethodName := ⟨RL, "isMerged", "(LCardgate;[I[I[I[I[II)Z"⟩
abbrev cL_acts : ByteArray := method_23_code
def yL_acts : MethodName := ⟨RL, "acts", "(LCardgate;[I[I[I[I[III)Z"⟩
abbrev cL_holds : ByteArray := method_24_code
def yL_holds : MethodName := ⟨RL, "holds", "([I)Z"⟩
abbrev cL_isHeld : ByteArray := method_25_code
def yL_isHeld : MethodName := ⟨RL, "isHeld", "([I)Z"⟩
abbrev cL_law : ByteArray := code
def yL_law : MethodName := ⟨RL, "law", "([I)Z"⟩
end
section
/-! the methods of class, reference, law and JDK as tables: number, instructions in buckets of sixteen bytes -/
abbrev xI : Type := Nat × Instr × Nat × Nat × Nat × Nat × Nat
abbrev xM : Type := MethodName × ByteArray × Nat × Option FieldType × Option (List (Nat × Nat × Nat × Nat)) × Nat × String × List (Nat × Nat × Nat)
abbrev k_X0_init : Nat := 0
abbrev k_X0_has : Nat := 1
abbrev k_X0_add : Nat := 2
abbrev k_X0_put : Nat := 3
abbrev k_X0_whereIs : Nat := 4
abbrev k_X0_sizeOf : Nat := 5
abbrev k_X0_cardInOrder : Nat := 6
abbrev k_X0_countAheadOf : Nat := 7
abbrev k_X0_isAtLimit : Nat := 8
abbrev k_X0_isAboveLimit : Nat := 9
abbrev k_X0_replaceLimit : Nat := 10
abbrev k_X0_setName : Nat := 11
abbrev k_X0_namesOf : Nat := 12
abbrev k_X0_namedIn : Nat := 13
abbrev k_X0_countNaming : Nat := 14
abbrev k_X0_countFall : Nat := 15
abbrev k_X0_fallsOf : Nat := 16
abbrev k_X0_countPush : Nat := 17
abbrev k_X0_pushesOf : Nat := 18
abbrev k_X1_init : Nat := 19
abbrev k_X1_has : Nat := 20
abbrev k_X1_add : Nat := 21
abbrev k_X1_weightOf : Nat := 22
abbrev k_X1_stateOf : Nat := 23
abbrev k_X1_setState : Nat := 24
abbrev k_X1_allOf : Nat := 25
abbrev k_X1_needsOf : Nat := 26
abbrev k_X1_addNeed : Nat := 27
abbrev k_X1_isNeededByOneIn : Nat := 28
abbrev k_X1_replaceBroken : Nat := 29
abbrev k_X1_replaceClash : Nat := 30
abbrev k_X1_areReady : Nat := 31
abbrev k_X1_changeAt : Nat := 32
abbrev k_X1_enqueue : Nat := 33
abbrev k_X1_unqueue : Nat := 34
abbrev k_X1_settle : Nat := 35
abbrev k_X1_foreseeRow : Nat := 36
abbrev k_X1_foreseeOneByOne : Nat := 37
abbrev k_X1_passedPlaces : Nat := 38
abbrev k_X1_startTrial : Nat := 39
abbrev k_X1_tryAndHalve : Nat := 40
abbrev k_X1_tryHalves : Nat := 41
abbrev k_X1_passes : Nat := 42
abbrev k_X1_holdsBehind : Nat := 43
abbrev k_X1_setOfRow : Nat := 44
abbrev k_X1_weightOfRow : Nat := 45
abbrev k_X2_init : Nat := 46
abbrev k_X2_card : Nat := 47
abbrev k_X2_name : Nat := 48
abbrev k_X2_move : Nat := 49
abbrev k_X2_moveBack : Nat := 50
abbrev k_X2_setLimit : Nat := 51
abbrev k_X2_change : Nat := 52
abbrev k_X2_need : Nat := 53
abbrev k_X2_setBroken : Nat := 54
abbrev k_X2_setClash : Nat := 55
abbrev k_X2_mend : Nat := 56
abbrev k_X2_takeOut : Nat := 57
abbrev k_X2_merge : Nat := 58
abbrev k_X2_queued : Nat := 59
abbrev k_X2_queuedAt : Nat := 60
abbrev k_X2_wouldPass : Nat := 61
abbrev k_X2_wouldPassOneByOne : Nat := 62
abbrev k_X2_wouldTake : Nat := 63
abbrev k_X2_bestLength : Nat := 64
abbrev k_X2_hours : Nat := 65
abbrev k_X2_cards : Nat := 66
abbrev k_X2_changes : Nat := 67
abbrev k_X2_columnOf : Nat := 68
abbrev k_X2_cardsIn : Nat := 69
abbrev k_X2_cardAt : Nat := 70
abbrev k_X2_canMove : Nat := 71
abbrev k_X2_lacks : Nat := 72
abbrev k_X2_falls : Nat := 73
abbrev k_X2_pushes : Nat := 74
abbrev k_X2_state : Nat := 75
abbrev k_X2_namedBy : Nat := 76
abbrev k_X2_requireCard : Nat := 77
abbrev k_X2_requireChange : Nat := 78
abbrev k_X2_requireColumn : Nat := 79
abbrev k_X2_requireRange : Nat := 80
abbrev k_X2_requireRow : Nat := 81
abbrev k_X2_isMovable : Nat := 82
abbrev k_X2_shift : Nat := 83
abbrev k_X2_pushBackFrom : Nat := 84
abbrev k_X2_dropCards : Nat := 85
abbrev k_X2_passOn : Nat := 86
abbrev k_X2_hasLimit : Nat := 87
abbrev k_X2_bit : Nat := 88
abbrev k_X2_contains : Nat := 89
abbrev k_X2_with : Nat := 90
abbrev k_J6_bitCount_0f7a4 : Nat := 91
abbrev k_L_from : Nat := 92
abbrev k_L_come : Nat := 93
abbrev k_L_count : Nat := 94
abbrev k_L_push : Nat := 95
abbrev k_L_fall : Nat := 96
abbrev k_L_withState : Nat := 97
abbrev k_L_ones : Nat := 98
abbrev k_L_canMove : Nat := 99
abbrev k_L_work : Nat := 100
abbrev k_L_passed : Nat := 101
abbrev k_L_moved : Nat := 102
abbrev k_L_named : Nat := 103
abbrev k_L_needed : Nat := 104
abbrev k_L_broke : Nat := 105
abbrev k_L_clashed : Nat := 106
abbrev k_L_did : Nat := 107
abbrev k_L_merged : Nat := 108
abbrev k_L_areCards : Nat := 109
abbrev k_L_isQueue : Nat := 110
abbrev k_L_isChanged : Nat := 111
abbrev k_L_isMerged : Nat := 112
abbrev k_L_acts : Nat := 113
abbrev k_L_holds : Nat := 114
abbrev k_L_isHeld : Nat := 115
abbrev k_L_law : Nat := 116
def i_X0_has : List (List xI) := [[(0, .iload_n 1, 1, 0, 0, 0, 0), (1, .ifCond .lt 15, 4, 16, 0, 0, 0), (4, .iload_n 1, 5, 0, 0, 0, 0), (5, .aload_n 0, 6, 0, 0, 0, 0), (6, .getfield 33, 9, 1, 7, 0, 0), (9, .if_icmp .ge 7, 12, 16, 0, 0, 0), (12, .iconst 1, 13, 1, 0, 0, 0), (13, .goto 4, 16, 17, 0, 0, 0)],
  [(16, .iconst 0, 17, 0, 0, 0, 0), (17, .ireturn, 18, 1, 0, 0, 0)]]
def i_X0_add : List (List xI) := [[(0, .aload_n 0, 1, 0, 0, 0, 0), (1, .getfield 33, 4, 1, 7, 0, 0), (4, .bipush 20, 6, 20, 0, 0, 0), (6, .if_icmp .lt 5, 9, 11, 0, 0, 0), (9, .iconst (-1), 10, 1, 1, 0, 0), (10, .ireturn, 11, 0, 0, 0, 0), (11, .aload_n 0, 12, 0, 0, 0, 0), (12, .getfield 33, 15, 1, 7, 0, 0), (15, .istore_n 2, 16, 0, 0, 0, 0)],
  [(16, .aload_n 0, 17, 0, 0, 0, 0), (17, .getfield 9, 20, 1, 0, 0, 0), (20, .iload_n 2, 21, 0, 0, 0, 0), (21, .iload_n 1, 22, 0, 0, 0, 0), (22, .iastore, 23, 0, 0, 0, 0), (23, .aload_n 0, 24, 0, 0, 0, 0), (24, .dup, 25, 0, 0, 0, 0), (25, .getfield 33, 28, 1, 7, 0, 0), (28, .iconst 1, 29, 1, 0, 0, 0), (29, .iadd, 30, 0, 0, 0, 0), (30, .putfield 33, 33, 1, 7, 0, 0)],
  [(33, .aload_n 0, 34, 0, 0, 0, 0), (34, .iload_n 2, 35, 0, 0, 0, 0), (35, .iconst 0, 36, 0, 0, 0, 0), (36, .invokevirtual 40, 39, 3, 3, 1, 0), (39, .iload_n 2, 40, 0, 0, 0, 0), (40, .ireturn, 41, 0, 0, 0, 0)]]
def i_X0_put : List (List xI) := [[(0, .aload_n 0, 1, 0, 0, 0, 0), (1, .iload_n 1, 2, 0, 0, 0, 0), (2, .invokevirtual 44, 5, 1, 2, 1, 0), (5, .ifCond .eq 30, 8, 35, 0, 0, 0), (8, .aload_n 0, 9, 0, 0, 0, 0), (9, .getfield 15, 12, 1, 1, 0, 0), (12, .iload_n 1, 13, 0, 0, 0, 0), (13, .iload_n 2, 14, 0, 0, 0, 0), (14, .iastore, 15, 0, 0, 0, 0), (15, .aload_n 0, 16, 0, 0, 0, 0)],
  [(16, .getfield 18, 19, 1, 2, 0, 0), (19, .iload_n 1, 20, 0, 0, 0, 0), (20, .aload_n 0, 21, 0, 0, 0, 0), (21, .getfield 37, 24, 1, 8, 0, 0), (24, .iastore, 25, 0, 0, 0, 0), (25, .aload_n 0, 26, 0, 0, 0, 0), (26, .dup, 27, 0, 0, 0, 0), (27, .getfield 37, 30, 1, 8, 0, 0), (30, .iconst 1, 31, 1, 0, 0, 0), (31, .iadd, 32, 0, 0, 0, 0)],
  [(32, .putfield 37, 35, 1, 8, 0, 0), (35, .return_, 36, 0, 0, 0, 0)]]
def i_X0_whereIs : List (List xI) := [[(0, .aload_n 0, 1, 0, 0, 0, 0), (1, .iload_n 1, 2, 0, 0, 0, 0), (2, .invokevirtual 44, 5, 1, 2, 1, 0), (5, .ifCond .eq 12, 8, 17, 0, 0, 0), (8, .aload_n 0, 9, 0, 0, 0, 0), (9, .getfield 15, 12, 1, 1, 0, 0), (12, .iload_n 1, 13, 0, 0, 0, 0), (13, .iaload, 14, 0, 0, 0, 0), (14, .goto 4, 17, 18, 0, 0, 0)],
  [(17, .iconst (-1), 18, 1, 1, 0, 0), (18, .ireturn, 19, 0, 0, 0, 0)]]
def i_X0_sizeOf : List (List xI) := [[(0, .iconst 0, 1, 0, 0, 0, 0), (1, .istore_n 2, 2, 0, 0, 0, 0), (2, .iconst 0, 3, 0, 0, 0, 0), (3, .istore_n 3, 4, 0, 0, 0, 0), (4, .iload_n 3, 5, 0, 0, 0, 0), (5, .aload_n 0, 6, 0, 0, 0, 0), (6, .getfield 33, 9, 1, 7, 0, 0), (9, .if_icmp .ge 22, 12, 31, 0, 0, 0), (12, .aload_n 0, 13, 0, 0, 0, 0), (13, .getfield 15, 16, 1, 1, 0, 0)],
  [(16, .iload_n 3, 17, 0, 0, 0, 0), (17, .iaload, 18, 0, 0, 0, 0), (18, .iload_n 1, 19, 0, 0, 0, 0), (19, .if_icmp .ne 6, 22, 25, 0, 0, 0), (22, .iinc 2 1, 25, 1, 0, 0, 0), (25, .iinc 3 1, 28, 1, 0, 0, 0), (28, .goto (-24), 31, 4, 0, 0, 0), (31, .iload_n 2, 32, 0, 0, 0, 0)],
  [(32, .ireturn, 33, 0, 0, 0, 0)]]
def i_X0_cardInOrder : List (List xI) := [[(0, .iconst 0, 1, 0, 0, 0, 0), (1, .istore_n 3, 2, 0, 0, 0, 0), (2, .iload_n 3, 3, 0, 0, 0, 0), (3, .aload_n 0, 4, 0, 0, 0, 0), (4, .getfield 33, 7, 1, 7, 0, 0), (7, .if_icmp .ge 30, 10, 37, 0, 0, 0), (10, .aload_n 0, 11, 0, 0, 0, 0), (11, .getfield 15, 14, 1, 1, 0, 0), (14, .iload_n 3, 15, 0, 0, 0, 0), (15, .iaload, 16, 0, 0, 0, 0)],
  [(16, .iload_n 1, 17, 0, 0, 0, 0), (17, .if_icmp .ne 14, 20, 31, 0, 0, 0), (20, .aload_n 0, 21, 0, 0, 0, 0), (21, .iload_n 3, 22, 0, 0, 0, 0), (22, .invokevirtual 48, 25, 7, 2, 1, 0), (25, .iload_n 2, 26, 0, 0, 0, 0), (26, .if_icmp .ne 5, 29, 31, 0, 0, 0), (29, .iload_n 3, 30, 0, 0, 0, 0), (30, .ireturn, 31, 0, 0, 0, 0), (31, .iinc 3 1, 34, 1, 0, 0, 0)],
  [(34, .goto (-32), 37, 2, 0, 0, 0), (37, .iconst (-1), 38, 1, 1, 0, 0), (38, .ireturn, 39, 0, 0, 0, 0)]]
def i_X0_countAheadOf : List (List xI) := [[(0, .iconst 0, 1, 0, 0, 0, 0), (1, .istore_n 2, 2, 0, 0, 0, 0), (2, .iconst 0, 3, 0, 0, 0, 0), (3, .istore_n 3, 4, 0, 0, 0, 0), (4, .aload_n 0, 5, 0, 0, 0, 0), (5, .iload_n 1, 6, 0, 0, 0, 0), (6, .invokevirtual 44, 9, 1, 2, 1, 0), (9, .ifCond .eq 104, 12, 113, 0, 0, 0), (12, .iload_n 3, 13, 0, 0, 0, 0), (13, .aload_n 0, 14, 0, 0, 0, 0), (14, .getfield 33, 17, 1, 7, 0, 0)],
  [(17, .if_icmp .ge 96, 20, 113, 0, 0, 0), (20, .aload_n 0, 21, 0, 0, 0, 0), (21, .getfield 9, 24, 1, 0, 0, 0), (24, .iload_n 3, 25, 0, 0, 0, 0), (25, .iaload, 26, 0, 0, 0, 0), (26, .aload_n 0, 27, 0, 0, 0, 0), (27, .getfield 9, 30, 1, 0, 0, 0), (30, .iload_n 1, 31, 0, 0, 0, 0), (31, .iaload, 32, 0, 0, 0, 0)],
  [(32, .if_icmp .le 7, 35, 39, 0, 0, 0), (35, .iconst 1, 36, 1, 0, 0, 0), (36, .goto 4, 39, 40, 0, 0, 0), (39, .iconst 0, 40, 0, 0, 0, 0), (40, .istore 4, 42, 0, 0, 0, 0), (42, .aload_n 0, 43, 0, 0, 0, 0), (43, .getfield 9, 46, 1, 0, 0, 0), (46, .iload_n 3, 47, 0, 0, 0, 0), (47, .iaload, 48, 0, 0, 0, 0)],
  [(48, .aload_n 0, 49, 0, 0, 0, 0), (49, .getfield 9, 52, 1, 0, 0, 0), (52, .iload_n 1, 53, 0, 0, 0, 0), (53, .iaload, 54, 0, 0, 0, 0), (54, .if_icmp .ne 22, 57, 76, 0, 0, 0), (57, .aload_n 0, 58, 0, 0, 0, 0), (58, .getfield 18, 61, 1, 2, 0, 0), (61, .iload_n 3, 62, 0, 0, 0, 0), (62, .iaload, 63, 0, 0, 0, 0), (63, .aload_n 0, 64, 0, 0, 0, 0)],
  [(64, .getfield 18, 67, 1, 2, 0, 0), (67, .iload_n 1, 68, 0, 0, 0, 0), (68, .iaload, 69, 0, 0, 0, 0), (69, .if_icmp .ge 7, 72, 76, 0, 0, 0), (72, .iconst 1, 73, 1, 0, 0, 0), (73, .goto 4, 76, 77, 0, 0, 0), (76, .iconst 0, 77, 0, 0, 0, 0), (77, .istore 5, 79, 0, 0, 0, 0), (79, .aload_n 0, 80, 0, 0, 0, 0)],
  [(80, .getfield 15, 83, 1, 1, 0, 0), (83, .iload_n 3, 84, 0, 0, 0, 0), (84, .iaload, 85, 0, 0, 0, 0), (85, .aload_n 0, 86, 0, 0, 0, 0), (86, .getfield 15, 89, 1, 1, 0, 0), (89, .iload_n 1, 90, 0, 0, 0, 0), (90, .iaload, 91, 0, 0, 0, 0), (91, .if_icmp .ne 16, 94, 107, 0, 0, 0), (94, .iload 4, 96, 0, 0, 0, 0)],
  [(96, .ifCond .ne 8, 99, 104, 0, 0, 0), (99, .iload 5, 101, 0, 0, 0, 0), (101, .ifCond .eq 6, 104, 107, 0, 0, 0), (104, .iinc 2 1, 107, 1, 0, 0, 0), (107, .iinc 3 1, 110, 1, 0, 0, 0), (110, .goto (-106), 113, 4, 0, 0, 0)],
  [(113, .iload_n 2, 114, 0, 0, 0, 0), (114, .ireturn, 115, 0, 0, 0, 0)]]
def i_X0_isAtLimit : List (List xI) := [[(0, .iload_n 1, 1, 0, 0, 0, 0), (1, .invokestatic 52, 4, 87, 1, 1, 0), (4, .ifCond .eq 21, 7, 25, 0, 0, 0), (7, .aload_n 0, 8, 0, 0, 0, 0), (8, .iload_n 1, 9, 0, 0, 0, 0), (9, .invokevirtual 55, 12, 5, 2, 1, 0), (12, .aload_n 0, 13, 0, 0, 0, 0), (13, .getfield 30, 16, 1, 6, 0, 0)],
  [(16, .iload_n 1, 17, 0, 0, 0, 0), (17, .iaload, 18, 0, 0, 0, 0), (18, .if_icmp .lt 7, 21, 25, 0, 0, 0), (21, .iconst 1, 22, 1, 0, 0, 0), (22, .goto 4, 25, 26, 0, 0, 0), (25, .iconst 0, 26, 0, 0, 0, 0), (26, .ireturn, 27, 1, 0, 0, 0)]]
def i_X0_isAboveLimit : List (List xI) := [[(0, .iload_n 1, 1, 0, 0, 0, 0), (1, .invokestatic 52, 4, 87, 1, 1, 0), (4, .ifCond .eq 21, 7, 25, 0, 0, 0), (7, .aload_n 0, 8, 0, 0, 0, 0), (8, .iload_n 1, 9, 0, 0, 0, 0), (9, .invokevirtual 55, 12, 5, 2, 1, 0), (12, .aload_n 0, 13, 0, 0, 0, 0), (13, .getfield 30, 16, 1, 6, 0, 0)],
  [(16, .iload_n 1, 17, 0, 0, 0, 0), (17, .iaload, 18, 0, 0, 0, 0), (18, .if_icmp .le 7, 21, 25, 0, 0, 0), (21, .iconst 1, 22, 1, 0, 0, 0), (22, .goto 4, 25, 26, 0, 0, 0), (25, .iconst 0, 26, 0, 0, 0, 0), (26, .ireturn, 27, 1, 0, 0, 0)]]
def i_X0_replaceLimit : List (List xI) := [[(0, .iload_n 1, 1, 0, 0, 0, 0), (1, .invokestatic 52, 4, 87, 1, 1, 0), (4, .ifCond .ne 5, 7, 9, 0, 0, 0), (7, .iconst (-1), 8, 1, 1, 0, 0), (8, .ireturn, 9, 0, 0, 0, 0), (9, .aload_n 0, 10, 0, 0, 0, 0), (10, .getfield 30, 13, 1, 6, 0, 0), (13, .iload_n 1, 14, 0, 0, 0, 0), (14, .iaload, 15, 0, 0, 0, 0), (15, .istore_n 3, 16, 0, 0, 0, 0)],
  [(16, .aload_n 0, 17, 0, 0, 0, 0), (17, .getfield 30, 20, 1, 6, 0, 0), (20, .iload_n 1, 21, 0, 0, 0, 0), (21, .iload_n 2, 22, 0, 0, 0, 0), (22, .iastore, 23, 0, 0, 0, 0), (23, .iload_n 3, 24, 0, 0, 0, 0), (24, .ireturn, 25, 0, 0, 0, 0)]]
def i_X0_setName : List (List xI) := [[(0, .aload_n 0, 1, 0, 0, 0, 0), (1, .iload_n 1, 2, 0, 0, 0, 0), (2, .invokevirtual 44, 5, 1, 2, 1, 0), (5, .ifCond .eq 20, 8, 25, 0, 0, 0), (8, .aload_n 0, 9, 0, 0, 0, 0), (9, .getfield 21, 12, 1, 3, 0, 0), (12, .iload_n 1, 13, 0, 0, 0, 0), (13, .aload_n 0, 14, 0, 0, 0, 0), (14, .getfield 21, 17, 1, 3, 0, 0)],
  [(17, .iload_n 1, 18, 0, 0, 0, 0), (18, .iaload, 19, 0, 0, 0, 0), (19, .iload_n 2, 20, 0, 0, 0, 0), (20, .iload_n 3, 21, 0, 0, 0, 0), (21, .invokestatic 58, 24, 90, 3, 1, 0), (24, .iastore, 25, 0, 0, 0, 0), (25, .return_, 26, 0, 0, 0, 0)]]
def i_X0_namesOf : List (List xI) := [[(0, .aload_n 0, 1, 0, 0, 0, 0), (1, .iload_n 1, 2, 0, 0, 0, 0), (2, .invokevirtual 44, 5, 1, 2, 1, 0), (5, .ifCond .eq 12, 8, 17, 0, 0, 0), (8, .aload_n 0, 9, 0, 0, 0, 0), (9, .getfield 21, 12, 1, 3, 0, 0), (12, .iload_n 1, 13, 0, 0, 0, 0), (13, .iaload, 14, 0, 0, 0, 0), (14, .goto 4, 17, 18, 0, 0, 0)],
  [(17, .iconst 0, 18, 0, 0, 0, 0), (18, .ireturn, 19, 0, 0, 0, 0)]]
def i_X0_namedIn : List (List xI) := [[(0, .iconst 0, 1, 0, 0, 0, 0), (1, .istore_n 2, 2, 0, 0, 0, 0), (2, .iconst 0, 3, 0, 0, 0, 0), (3, .istore_n 3, 4, 0, 0, 0, 0), (4, .iload_n 3, 5, 0, 0, 0, 0), (5, .aload_n 0, 6, 0, 0, 0, 0), (6, .getfield 33, 9, 1, 7, 0, 0), (9, .if_icmp .ge 28, 12, 37, 0, 0, 0), (12, .aload_n 0, 13, 0, 0, 0, 0), (13, .getfield 15, 16, 1, 1, 0, 0)],
  [(16, .iload_n 3, 17, 0, 0, 0, 0), (17, .iaload, 18, 0, 0, 0, 0), (18, .iload_n 1, 19, 0, 0, 0, 0), (19, .if_icmp .ne 12, 22, 31, 0, 0, 0), (22, .iload_n 2, 23, 0, 0, 0, 0), (23, .aload_n 0, 24, 0, 0, 0, 0), (24, .getfield 21, 27, 1, 3, 0, 0), (27, .iload_n 3, 28, 0, 0, 0, 0), (28, .iaload, 29, 0, 0, 0, 0), (29, .ior, 30, 0, 0, 0, 0), (30, .istore_n 2, 31, 0, 0, 0, 0), (31, .iinc 3 1, 34, 1, 0, 0, 0)],
  [(34, .goto (-30), 37, 4, 0, 0, 0), (37, .iload_n 2, 38, 0, 0, 0, 0), (38, .ireturn, 39, 0, 0, 0, 0)]]
def i_X0_countNaming : List (List xI) := [[(0, .iconst 0, 1, 0, 0, 0, 0), (1, .istore_n 2, 2, 0, 0, 0, 0), (2, .iconst 0, 3, 0, 0, 0, 0), (3, .istore_n 3, 4, 0, 0, 0, 0), (4, .iload_n 3, 5, 0, 0, 0, 0), (5, .aload_n 0, 6, 0, 0, 0, 0), (6, .getfield 33, 9, 1, 7, 0, 0), (9, .if_icmp .ge 25, 12, 34, 0, 0, 0), (12, .aload_n 0, 13, 0, 0, 0, 0), (13, .getfield 21, 16, 1, 3, 0, 0)],
  [(16, .iload_n 3, 17, 0, 0, 0, 0), (17, .iaload, 18, 0, 0, 0, 0), (18, .iload_n 1, 19, 0, 0, 0, 0), (19, .invokestatic 62, 22, 89, 2, 1, 0), (22, .ifCond .eq 6, 25, 28, 0, 0, 0), (25, .iinc 2 1, 28, 1, 0, 0, 0), (28, .iinc 3 1, 31, 1, 0, 0, 0), (31, .goto (-27), 34, 4, 0, 0, 0)],
  [(34, .iload_n 2, 35, 0, 0, 0, 0), (35, .ireturn, 36, 0, 0, 0, 0)]]
def i_X0_countFall : List (List xI) := [[(0, .aload_n 0, 1, 0, 0, 0, 0), (1, .iload_n 1, 2, 0, 0, 0, 0), (2, .invokevirtual 44, 5, 1, 2, 1, 0), (5, .ifCond .eq 13, 8, 18, 0, 0, 0), (8, .aload_n 0, 9, 0, 0, 0, 0), (9, .getfield 24, 12, 1, 4, 0, 0), (12, .iload_n 1, 13, 0, 0, 0, 0), (13, .dup2, 14, 0, 0, 0, 0), (14, .iaload, 15, 0, 0, 0, 0), (15, .iconst 1, 16, 1, 0, 0, 0)],
  [(16, .iadd, 17, 0, 0, 0, 0), (17, .iastore, 18, 0, 0, 0, 0), (18, .return_, 19, 0, 0, 0, 0)]]
def i_X0_fallsOf : List (List xI) := [[(0, .aload_n 0, 1, 0, 0, 0, 0), (1, .iload_n 1, 2, 0, 0, 0, 0), (2, .invokevirtual 44, 5, 1, 2, 1, 0), (5, .ifCond .eq 12, 8, 17, 0, 0, 0), (8, .aload_n 0, 9, 0, 0, 0, 0), (9, .getfield 24, 12, 1, 4, 0, 0), (12, .iload_n 1, 13, 0, 0, 0, 0), (13, .iaload, 14, 0, 0, 0, 0), (14, .goto 4, 17, 18, 0, 0, 0)],
  [(17, .iconst 0, 18, 0, 0, 0, 0), (18, .ireturn, 19, 0, 0, 0, 0)]]
def i_X0_countPush : List (List xI) := [[(0, .aload_n 0, 1, 0, 0, 0, 0), (1, .iload_n 1, 2, 0, 0, 0, 0), (2, .invokevirtual 44, 5, 1, 2, 1, 0), (5, .ifCond .eq 13, 8, 18, 0, 0, 0), (8, .aload_n 0, 9, 0, 0, 0, 0), (9, .getfield 27, 12, 1, 5, 0, 0), (12, .iload_n 1, 13, 0, 0, 0, 0), (13, .dup2, 14, 0, 0, 0, 0), (14, .iaload, 15, 0, 0, 0, 0), (15, .iconst 1, 16, 1, 0, 0, 0)],
  [(16, .iadd, 17, 0, 0, 0, 0), (17, .iastore, 18, 0, 0, 0, 0), (18, .return_, 19, 0, 0, 0, 0)]]
def i_X0_pushesOf : List (List xI) := [[(0, .aload_n 0, 1, 0, 0, 0, 0), (1, .iload_n 1, 2, 0, 0, 0, 0), (2, .invokevirtual 44, 5, 1, 2, 1, 0), (5, .ifCond .eq 12, 8, 17, 0, 0, 0), (8, .aload_n 0, 9, 0, 0, 0, 0), (9, .getfield 27, 12, 1, 5, 0, 0), (12, .iload_n 1, 13, 0, 0, 0, 0), (13, .iaload, 14, 0, 0, 0, 0), (14, .goto 4, 17, 18, 0, 0, 0)],
  [(17, .iconst 0, 18, 0, 0, 0, 0), (18, .ireturn, 19, 0, 0, 0, 0)]]
def i_X1_has : List (List xI) := [[(0, .iload_n 1, 1, 0, 0, 0, 0), (1, .ifCond .lt 15, 4, 16, 0, 0, 0), (4, .iload_n 1, 5, 0, 0, 0, 0), (5, .aload_n 0, 6, 0, 0, 0, 0), (6, .getfield 31, 9, 2, 6, 0, 0), (9, .if_icmp .ge 7, 12, 16, 0, 0, 0), (12, .iconst 1, 13, 1, 0, 0, 0), (13, .goto 4, 16, 17, 0, 0, 0)],
  [(16, .iconst 0, 17, 0, 0, 0, 0), (17, .ireturn, 18, 1, 0, 0, 0)]]
def i_X1_add : List (List xI) := [[(0, .aload_n 0, 1, 0, 0, 0, 0), (1, .getfield 31, 4, 2, 6, 0, 0), (4, .bipush 30, 6, 30, 0, 0, 0), (6, .if_icmp .lt 5, 9, 11, 0, 0, 0), (9, .iconst (-1), 10, 1, 1, 0, 0), (10, .ireturn, 11, 0, 0, 0, 0), (11, .aload_n 0, 12, 0, 0, 0, 0), (12, .getfield 31, 15, 2, 6, 0, 0), (15, .istore_n 2, 16, 0, 0, 0, 0)],
  [(16, .aload_n 0, 17, 0, 0, 0, 0), (17, .getfield 9, 20, 2, 0, 0, 0), (20, .iload_n 2, 21, 0, 0, 0, 0), (21, .iload_n 1, 22, 0, 0, 0, 0), (22, .iastore, 23, 0, 0, 0, 0), (23, .aload_n 0, 24, 0, 0, 0, 0), (24, .getfield 21, 27, 2, 3, 0, 0), (27, .iload_n 2, 28, 0, 0, 0, 0), (28, .iconst 0, 29, 0, 0, 0, 0), (29, .iastore, 30, 0, 0, 0, 0), (30, .aload_n 0, 31, 0, 0, 0, 0), (31, .dup, 32, 0, 0, 0, 0)],
  [(32, .getfield 31, 35, 2, 6, 0, 0), (35, .iconst 1, 36, 1, 0, 0, 0), (36, .iadd, 37, 0, 0, 0, 0), (37, .putfield 31, 40, 2, 6, 0, 0), (40, .iload_n 2, 41, 0, 0, 0, 0), (41, .ireturn, 42, 0, 0, 0, 0)]]
def i_X1_weightOf : List (List xI) := [[(0, .aload_n 0, 1, 0, 0, 0, 0), (1, .iload_n 1, 2, 0, 0, 0, 0), (2, .invokevirtual 46, 5, 20, 2, 2, 0), (5, .ifCond .eq 12, 8, 17, 0, 0, 0), (8, .aload_n 0, 9, 0, 0, 0, 0), (9, .getfield 9, 12, 2, 0, 0, 0), (12, .iload_n 1, 13, 0, 0, 0, 0), (13, .iaload, 14, 0, 0, 0, 0), (14, .goto 4, 17, 18, 0, 0, 0)],
  [(17, .iconst 0, 18, 0, 0, 0, 0), (18, .ireturn, 19, 0, 0, 0, 0)]]
def i_X1_stateOf : List (List xI) := [[(0, .aload_n 0, 1, 0, 0, 0, 0), (1, .iload_n 1, 2, 0, 0, 0, 0), (2, .invokevirtual 46, 5, 20, 2, 2, 0), (5, .ifCond .eq 12, 8, 17, 0, 0, 0), (8, .aload_n 0, 9, 0, 0, 0, 0), (9, .getfield 21, 12, 2, 3, 0, 0), (12, .iload_n 1, 13, 0, 0, 0, 0), (13, .iaload, 14, 0, 0, 0, 0), (14, .goto 4, 17, 18, 0, 0, 0)],
  [(17, .iconst (-1), 18, 1, 1, 0, 0), (18, .ireturn, 19, 0, 0, 0, 0)]]
def i_X1_setState : List (List xI) := [[(0, .aload_n 0, 1, 0, 0, 0, 0), (1, .iload_n 1, 2, 0, 0, 0, 0), (2, .invokevirtual 46, 5, 20, 2, 2, 0), (5, .ifCond .eq 10, 8, 15, 0, 0, 0), (8, .aload_n 0, 9, 0, 0, 0, 0), (9, .getfield 21, 12, 2, 3, 0, 0), (12, .iload_n 1, 13, 0, 0, 0, 0), (13, .iload_n 2, 14, 0, 0, 0, 0), (14, .iastore, 15, 0, 0, 0, 0), (15, .return_, 16, 0, 0, 0, 0)]]
def i_X1_allOf : List (List xI) := [[(0, .iconst 0, 1, 0, 0, 0, 0), (1, .istore_n 2, 2, 0, 0, 0, 0), (2, .iconst 0, 3, 0, 0, 0, 0), (3, .istore_n 3, 4, 0, 0, 0, 0), (4, .iload_n 3, 5, 0, 0, 0, 0), (5, .aload_n 0, 6, 0, 0, 0, 0), (6, .getfield 31, 9, 2, 6, 0, 0), (9, .if_icmp .ge 26, 12, 35, 0, 0, 0), (12, .aload_n 0, 13, 0, 0, 0, 0), (13, .getfield 21, 16, 2, 3, 0, 0)],
  [(16, .iload_n 3, 17, 0, 0, 0, 0), (17, .iaload, 18, 0, 0, 0, 0), (18, .iload_n 1, 19, 0, 0, 0, 0), (19, .if_icmp .ne 10, 22, 29, 0, 0, 0), (22, .iload_n 2, 23, 0, 0, 0, 0), (23, .iload_n 3, 24, 0, 0, 0, 0), (24, .invokestatic 50, 27, 88, 1, 1, 0), (27, .ior, 28, 0, 0, 0, 0), (28, .istore_n 2, 29, 0, 0, 0, 0), (29, .iinc 3 1, 32, 1, 0, 0, 0)],
  [(32, .goto (-28), 35, 4, 0, 0, 0), (35, .iload_n 2, 36, 0, 0, 0, 0), (36, .ireturn, 37, 0, 0, 0, 0)]]
def i_X1_needsOf : List (List xI) := [[(0, .aload_n 0, 1, 0, 0, 0, 0), (1, .iload_n 1, 2, 0, 0, 0, 0), (2, .invokevirtual 46, 5, 20, 2, 2, 0), (5, .ifCond .eq 12, 8, 17, 0, 0, 0), (8, .aload_n 0, 9, 0, 0, 0, 0), (9, .getfield 15, 12, 2, 1, 0, 0), (12, .iload_n 1, 13, 0, 0, 0, 0), (13, .iaload, 14, 0, 0, 0, 0), (14, .goto 4, 17, 18, 0, 0, 0)],
  [(17, .iconst 0, 18, 0, 0, 0, 0), (18, .ireturn, 19, 0, 0, 0, 0)]]
def i_X1_addNeed : List (List xI) := [[(0, .aload_n 0, 1, 0, 0, 0, 0), (1, .iload_n 1, 2, 0, 0, 0, 0), (2, .invokevirtual 46, 5, 20, 2, 2, 0), (5, .ifCond .eq 20, 8, 25, 0, 0, 0), (8, .aload_n 0, 9, 0, 0, 0, 0), (9, .getfield 15, 12, 2, 1, 0, 0), (12, .iload_n 1, 13, 0, 0, 0, 0), (13, .aload_n 0, 14, 0, 0, 0, 0), (14, .getfield 15, 17, 2, 1, 0, 0)],
  [(17, .iload_n 1, 18, 0, 0, 0, 0), (18, .iaload, 19, 0, 0, 0, 0), (19, .iload_n 2, 20, 0, 0, 0, 0), (20, .iconst 1, 21, 1, 0, 0, 0), (21, .invokestatic 54, 24, 90, 3, 1, 0), (24, .iastore, 25, 0, 0, 0, 0), (25, .return_, 26, 0, 0, 0, 0)]]
def i_X1_isNeededByOneIn : List (List xI) := [[(0, .iconst 0, 1, 0, 0, 0, 0), (1, .istore_n 2, 2, 0, 0, 0, 0), (2, .iload_n 2, 3, 0, 0, 0, 0), (3, .aload_n 0, 4, 0, 0, 0, 0), (4, .getfield 31, 7, 2, 6, 0, 0), (7, .if_icmp .ge 34, 10, 41, 0, 0, 0), (10, .aload_n 0, 11, 0, 0, 0, 0), (11, .getfield 21, 14, 2, 3, 0, 0), (14, .iload_n 2, 15, 0, 0, 0, 0), (15, .iaload, 16, 0, 0, 0, 0)],
  [(16, .iconst 2, 17, 2, 0, 0, 0), (17, .if_icmp .ne 18, 20, 35, 0, 0, 0), (20, .aload_n 0, 21, 0, 0, 0, 0), (21, .getfield 15, 24, 2, 1, 0, 0), (24, .iload_n 2, 25, 0, 0, 0, 0), (25, .iaload, 26, 0, 0, 0, 0), (26, .iload_n 1, 27, 0, 0, 0, 0), (27, .invokestatic 58, 30, 89, 2, 1, 0), (30, .ifCond .eq 5, 33, 35, 0, 0, 0)],
  [(33, .iconst 1, 34, 1, 0, 0, 0), (34, .ireturn, 35, 1, 0, 0, 0), (35, .iinc 2 1, 38, 1, 0, 0, 0), (38, .goto (-36), 41, 2, 0, 0, 0), (41, .iconst 0, 42, 0, 0, 0, 0), (42, .ireturn, 43, 1, 0, 0, 0)]]
def i_X1_replaceBroken : List (List xI) := [[(0, .aload_n 0, 1, 0, 0, 0, 0), (1, .getfield 27, 4, 2, 5, 0, 0), (4, .iload_n 1, 5, 0, 0, 0, 0), (5, .invokestatic 58, 8, 89, 2, 1, 0), (8, .istore_n 3, 9, 0, 0, 0, 0), (9, .aload_n 0, 10, 0, 0, 0, 0), (10, .aload_n 0, 11, 0, 0, 0, 0), (11, .getfield 27, 14, 2, 5, 0, 0), (14, .iload_n 1, 15, 0, 0, 0, 0), (15, .iload_n 2, 16, 0, 0, 0, 0)],
  [(16, .invokestatic 54, 19, 90, 3, 1, 0), (19, .putfield 27, 22, 2, 5, 0, 0), (22, .iload_n 3, 23, 0, 0, 0, 0), (23, .ireturn, 24, 1, 0, 0, 0)]]
def i_X1_replaceClash : List (List xI) := [[(0, .aload_n 0, 1, 0, 0, 0, 0), (1, .iload_n 1, 2, 0, 0, 0, 0), (2, .invokevirtual 46, 5, 20, 2, 2, 0), (5, .ifCond .eq 11, 8, 16, 0, 0, 0), (8, .aload_n 0, 9, 0, 0, 0, 0), (9, .iload_n 2, 10, 0, 0, 0, 0), (10, .invokevirtual 46, 13, 20, 2, 2, 0), (13, .ifCond .ne 5, 16, 18, 0, 0, 0)],
  [(16, .iconst 0, 17, 0, 0, 0, 0), (17, .ireturn, 18, 1, 0, 0, 0), (18, .aload_n 0, 19, 0, 0, 0, 0), (19, .getfield 18, 22, 2, 2, 0, 0), (22, .iload_n 1, 23, 0, 0, 0, 0), (23, .iaload, 24, 0, 0, 0, 0), (24, .iload_n 2, 25, 0, 0, 0, 0), (25, .invokestatic 58, 28, 89, 2, 1, 0), (28, .istore 4, 30, 0, 0, 0, 0), (30, .aload_n 0, 31, 0, 0, 0, 0), (31, .getfield 18, 34, 2, 2, 0, 0)],
  [(34, .iload_n 1, 35, 0, 0, 0, 0), (35, .aload_n 0, 36, 0, 0, 0, 0), (36, .getfield 18, 39, 2, 2, 0, 0), (39, .iload_n 1, 40, 0, 0, 0, 0), (40, .iaload, 41, 0, 0, 0, 0), (41, .iload_n 2, 42, 0, 0, 0, 0), (42, .iload_n 3, 43, 0, 0, 0, 0), (43, .invokestatic 54, 46, 90, 3, 1, 0), (46, .iastore, 47, 0, 0, 0, 0), (47, .aload_n 0, 48, 0, 0, 0, 0)],
  [(48, .getfield 18, 51, 2, 2, 0, 0), (51, .iload_n 2, 52, 0, 0, 0, 0), (52, .aload_n 0, 53, 0, 0, 0, 0), (53, .getfield 18, 56, 2, 2, 0, 0), (56, .iload_n 2, 57, 0, 0, 0, 0), (57, .iaload, 58, 0, 0, 0, 0), (58, .iload_n 1, 59, 0, 0, 0, 0), (59, .iload_n 3, 60, 0, 0, 0, 0), (60, .invokestatic 54, 63, 90, 3, 1, 0), (63, .iastore, 64, 0, 0, 0, 0)],
  [(64, .iload 4, 66, 0, 0, 0, 0), (66, .ireturn, 67, 1, 0, 0, 0)]]
def i_X1_areReady : List (List xI) := [[(0, .aload_n 0, 1, 0, 0, 0, 0), (1, .iconst 3, 2, 3, 0, 0, 0), (2, .invokevirtual 62, 5, 25, 2, 2, 0), (5, .istore_n 2, 6, 0, 0, 0, 0), (6, .aload_n 0, 7, 0, 0, 0, 0), (7, .iconst 0, 8, 0, 0, 0, 0), (8, .invokevirtual 62, 11, 25, 2, 2, 0), (11, .iload_n 2, 12, 0, 0, 0, 0), (12, .ior, 13, 0, 0, 0, 0), (13, .iload_n 1, 14, 0, 0, 0, 0), (14, .iconst (-1), 15, 1, 1, 0, 0), (15, .ixor, 16, 0, 0, 0, 0)],
  [(16, .iand, 17, 0, 0, 0, 0), (17, .istore_n 3, 18, 0, 0, 0, 0), (18, .iconst 0, 19, 0, 0, 0, 0), (19, .istore 4, 21, 0, 0, 0, 0), (21, .iload 4, 23, 0, 0, 0, 0), (23, .aload_n 0, 24, 0, 0, 0, 0), (24, .getfield 31, 27, 2, 6, 0, 0), (27, .if_icmp .ge 32, 30, 59, 0, 0, 0), (30, .iload_n 1, 31, 0, 0, 0, 0), (31, .iload 4, 33, 0, 0, 0, 0)],
  [(33, .invokestatic 58, 36, 89, 2, 1, 0), (36, .ifCond .eq 17, 39, 53, 0, 0, 0), (39, .aload_n 0, 40, 0, 0, 0, 0), (40, .getfield 15, 43, 2, 1, 0, 0), (43, .iload 4, 45, 0, 0, 0, 0), (45, .iaload, 46, 0, 0, 0, 0), (46, .iload_n 3, 47, 0, 0, 0, 0), (47, .iand, 48, 0, 0, 0, 0)],
  [(48, .ifCond .eq 5, 51, 53, 0, 0, 0), (51, .iconst 0, 52, 0, 0, 0, 0), (52, .ireturn, 53, 1, 0, 0, 0), (53, .iinc 4 1, 56, 1, 0, 0, 0), (56, .goto (-35), 59, 21, 0, 0, 0), (59, .iload_n 1, 60, 0, 0, 0, 0), (60, .iload_n 2, 61, 0, 0, 0, 0), (61, .iand, 62, 0, 0, 0, 0), (62, .ifCond .ne 7, 65, 69, 0, 0, 0)],
  [(65, .iconst 1, 66, 1, 0, 0, 0), (66, .goto 4, 69, 70, 0, 0, 0), (69, .iconst 0, 70, 0, 0, 0, 0), (70, .ireturn, 71, 1, 0, 0, 0)]]
def i_X1_changeAt : List (List xI) := [[(0, .iload_n 1, 1, 0, 0, 0, 0), (1, .ifCond .lt 29, 4, 30, 0, 0, 0), (4, .iload_n 1, 5, 0, 0, 0, 0), (5, .aload_n 0, 6, 0, 0, 0, 0), (6, .getfield 34, 9, 2, 7, 0, 0), (9, .if_icmp .ge 21, 12, 30, 0, 0, 0), (12, .iload_n 1, 13, 0, 0, 0, 0), (13, .aload_n 0, 14, 0, 0, 0, 0), (14, .getfield 24, 17, 2, 4, 0, 0)],
  [(17, .arraylength, 18, 0, 0, 0, 0), (18, .if_icmp .ge 12, 21, 30, 0, 0, 0), (21, .aload_n 0, 22, 0, 0, 0, 0), (22, .getfield 24, 25, 2, 4, 0, 0), (25, .iload_n 1, 26, 0, 0, 0, 0), (26, .iaload, 27, 0, 0, 0, 0), (27, .goto 4, 30, 31, 0, 0, 0), (30, .iconst (-1), 31, 1, 1, 0, 0), (31, .ireturn, 32, 0, 0, 0, 0)]]
def i_X1_enqueue : List (List xI) := [[(0, .iconst 0, 1, 0, 0, 0, 0), (1, .istore_n 2, 2, 0, 0, 0, 0), (2, .iload_n 2, 3, 0, 0, 0, 0), (3, .aload_n 0, 4, 0, 0, 0, 0), (4, .getfield 31, 7, 2, 6, 0, 0), (7, .if_icmp .ge 75, 10, 82, 0, 0, 0), (10, .iload_n 1, 11, 0, 0, 0, 0), (11, .iload_n 2, 12, 0, 0, 0, 0), (12, .invokestatic 58, 15, 89, 2, 1, 0), (15, .ifCond .eq 16, 18, 31, 0, 0, 0)],
  [(18, .aload_n 0, 19, 0, 0, 0, 0), (19, .getfield 21, 22, 2, 3, 0, 0), (22, .iload_n 2, 23, 0, 0, 0, 0), (23, .iaload, 24, 0, 0, 0, 0), (24, .ifCond .ne 7, 27, 31, 0, 0, 0), (27, .iconst 1, 28, 1, 0, 0, 0), (28, .goto 4, 31, 32, 0, 0, 0), (31, .iconst 0, 32, 0, 0, 0, 0)],
  [(32, .istore_n 3, 33, 0, 0, 0, 0), (33, .iload_n 3, 34, 0, 0, 0, 0), (34, .ifCond .eq 42, 37, 76, 0, 0, 0), (37, .aload_n 0, 38, 0, 0, 0, 0), (38, .getfield 34, 41, 2, 7, 0, 0), (41, .aload_n 0, 42, 0, 0, 0, 0), (42, .getfield 24, 45, 2, 4, 0, 0), (45, .arraylength, 46, 0, 0, 0, 0), (46, .if_icmp .ge 30, 49, 76, 0, 0, 0)],
  [(49, .aload_n 0, 50, 0, 0, 0, 0), (50, .getfield 21, 53, 2, 3, 0, 0), (53, .iload_n 2, 54, 0, 0, 0, 0), (54, .iconst 1, 55, 1, 0, 0, 0), (55, .iastore, 56, 0, 0, 0, 0), (56, .aload_n 0, 57, 0, 0, 0, 0), (57, .getfield 24, 60, 2, 4, 0, 0), (60, .aload_n 0, 61, 0, 0, 0, 0), (61, .getfield 34, 64, 2, 7, 0, 0)],
  [(64, .iload_n 2, 65, 0, 0, 0, 0), (65, .iastore, 66, 0, 0, 0, 0), (66, .aload_n 0, 67, 0, 0, 0, 0), (67, .dup, 68, 0, 0, 0, 0), (68, .getfield 34, 71, 2, 7, 0, 0), (71, .iconst 1, 72, 1, 0, 0, 0), (72, .iadd, 73, 0, 0, 0, 0), (73, .putfield 34, 76, 2, 7, 0, 0), (76, .iinc 2 1, 79, 1, 0, 0, 0), (79, .goto (-77), 82, 2, 0, 0, 0)],
  [(82, .return_, 83, 0, 0, 0, 0)]]
def i_X1_unqueue : List (List xI) := [[(0, .iconst 0, 1, 0, 0, 0, 0), (1, .istore_n 2, 2, 0, 0, 0, 0), (2, .iconst 0, 3, 0, 0, 0, 0), (3, .istore_n 3, 4, 0, 0, 0, 0), (4, .iload_n 3, 5, 0, 0, 0, 0), (5, .aload_n 0, 6, 0, 0, 0, 0), (6, .getfield 34, 9, 2, 7, 0, 0), (9, .if_icmp .ge 56, 12, 65, 0, 0, 0), (12, .iload_n 3, 13, 0, 0, 0, 0), (13, .aload_n 0, 14, 0, 0, 0, 0), (14, .getfield 24, 17, 2, 4, 0, 0)],
  [(17, .arraylength, 18, 0, 0, 0, 0), (18, .if_icmp .ge 47, 21, 65, 0, 0, 0), (21, .aload_n 0, 22, 0, 0, 0, 0), (22, .getfield 24, 25, 2, 4, 0, 0), (25, .iload_n 3, 26, 0, 0, 0, 0), (26, .iaload, 27, 0, 0, 0, 0), (27, .istore 4, 29, 0, 0, 0, 0), (29, .iload_n 1, 30, 0, 0, 0, 0), (30, .iload 4, 32, 0, 0, 0, 0)],
  [(32, .invokestatic 58, 35, 89, 2, 1, 0), (35, .ifCond .eq 13, 38, 48, 0, 0, 0), (38, .aload_n 0, 39, 0, 0, 0, 0), (39, .iload 4, 41, 0, 0, 0, 0), (41, .iconst 0, 42, 0, 0, 0, 0), (42, .invokevirtual 65, 45, 24, 3, 2, 0), (45, .goto 14, 48, 59, 0, 0, 0)],
  [(48, .aload_n 0, 49, 0, 0, 0, 0), (49, .getfield 24, 52, 2, 4, 0, 0), (52, .iload_n 2, 53, 0, 0, 0, 0), (53, .iload 4, 55, 0, 0, 0, 0), (55, .iastore, 56, 0, 0, 0, 0), (56, .iinc 2 1, 59, 1, 0, 0, 0), (59, .iinc 3 1, 62, 1, 0, 0, 0), (62, .goto (-58), 65, 4, 0, 0, 0)],
  [(65, .aload_n 0, 66, 0, 0, 0, 0), (66, .iload_n 2, 67, 0, 0, 0, 0), (67, .putfield 34, 70, 2, 7, 0, 0), (70, .return_, 71, 0, 0, 0, 0)]]
def i_X1_settle : List (List xI) := [[(0, .iconst 0, 1, 0, 0, 0, 0), (1, .istore_n 2, 2, 0, 0, 0, 0), (2, .iconst 0, 3, 0, 0, 0, 0), (3, .istore_n 3, 4, 0, 0, 0, 0), (4, .iload_n 3, 5, 0, 0, 0, 0), (5, .aload_n 0, 6, 0, 0, 0, 0), (6, .getfield 34, 9, 2, 7, 0, 0), (9, .if_icmp .ge 68, 12, 77, 0, 0, 0), (12, .iload_n 3, 13, 0, 0, 0, 0), (13, .aload_n 0, 14, 0, 0, 0, 0), (14, .getfield 24, 17, 2, 4, 0, 0)],
  [(17, .arraylength, 18, 0, 0, 0, 0), (18, .if_icmp .ge 59, 21, 77, 0, 0, 0), (21, .aload_n 0, 22, 0, 0, 0, 0), (22, .getfield 24, 25, 2, 4, 0, 0), (25, .iload_n 3, 26, 0, 0, 0, 0), (26, .iaload, 27, 0, 0, 0, 0), (27, .istore 4, 29, 0, 0, 0, 0), (29, .iload_n 3, 30, 0, 0, 0, 0), (30, .iload_n 1, 31, 0, 0, 0, 0), (31, .if_icmp .ge 29, 34, 60, 0, 0, 0)],
  [(34, .aload_n 0, 35, 0, 0, 0, 0), (35, .iload 4, 37, 0, 0, 0, 0), (37, .aload_n 0, 38, 0, 0, 0, 0), (38, .getfield 37, 41, 2, 8, 0, 0), (41, .iload 4, 43, 0, 0, 0, 0), (43, .invokestatic 58, 46, 89, 2, 1, 0), (46, .ifCond .eq 7, 49, 53, 0, 0, 0)],
  [(49, .iconst 2, 50, 2, 0, 0, 0), (50, .goto 4, 53, 54, 0, 0, 0), (53, .iconst 3, 54, 3, 0, 0, 0), (54, .invokevirtual 65, 57, 24, 3, 2, 0), (57, .goto 14, 60, 71, 0, 0, 0), (60, .aload_n 0, 61, 0, 0, 0, 0), (61, .getfield 24, 64, 2, 4, 0, 0)],
  [(64, .iload_n 2, 65, 0, 0, 0, 0), (65, .iload 4, 67, 0, 0, 0, 0), (67, .iastore, 68, 0, 0, 0, 0), (68, .iinc 2 1, 71, 1, 0, 0, 0), (71, .iinc 3 1, 74, 1, 0, 0, 0), (74, .goto (-70), 77, 4, 0, 0, 0), (77, .aload_n 0, 78, 0, 0, 0, 0), (78, .iload_n 2, 79, 0, 0, 0, 0), (79, .putfield 34, 82, 2, 7, 0, 0)],
  [(82, .return_, 83, 0, 0, 0, 0)]]
def i_X1_foreseeRow : List (List xI) := [[(0, .aload_n 0, 1, 0, 0, 0, 0), (1, .invokevirtual 69, 4, 39, 1, 2, 0), (4, .aload_n 0, 5, 0, 0, 0, 0), (5, .iconst 0, 6, 0, 0, 0, 0), (6, .iload_n 1, 7, 0, 0, 0, 0), (7, .invokevirtual 72, 10, 40, 3, 2, 0), (10, .return_, 11, 0, 0, 0, 0)]]
def i_X1_foreseeOneByOne : List (List xI) := [[(0, .aload_n 0, 1, 0, 0, 0, 0), (1, .invokevirtual 69, 4, 39, 1, 2, 0), (4, .iconst 0, 5, 0, 0, 0, 0), (5, .istore_n 2, 6, 0, 0, 0, 0), (6, .iload_n 2, 7, 0, 0, 0, 0), (7, .iload_n 1, 8, 0, 0, 0, 0), (8, .if_icmp .ge 23, 11, 31, 0, 0, 0), (11, .iload_n 2, 12, 0, 0, 0, 0), (12, .aload_n 0, 13, 0, 0, 0, 0), (13, .getfield 34, 16, 2, 7, 0, 0)],
  [(16, .if_icmp .ge 15, 19, 31, 0, 0, 0), (19, .aload_n 0, 20, 0, 0, 0, 0), (20, .iload_n 2, 21, 0, 0, 0, 0), (21, .iconst 1, 22, 1, 0, 0, 0), (22, .invokevirtual 72, 25, 40, 3, 2, 0), (25, .iinc 2 1, 28, 1, 0, 0, 0), (28, .goto (-22), 31, 6, 0, 0, 0), (31, .return_, 32, 0, 0, 0, 0)]]
def i_X1_passedPlaces : List (List xI) := [[(0, .iconst 0, 1, 0, 0, 0, 0), (1, .istore_n 2, 2, 0, 0, 0, 0), (2, .iconst 0, 3, 0, 0, 0, 0), (3, .istore_n 3, 4, 0, 0, 0, 0), (4, .iload_n 3, 5, 0, 0, 0, 0), (5, .iload_n 1, 6, 0, 0, 0, 0), (6, .if_icmp .ge 38, 9, 44, 0, 0, 0), (9, .iload_n 3, 10, 0, 0, 0, 0), (10, .aload_n 0, 11, 0, 0, 0, 0), (11, .getfield 34, 14, 2, 7, 0, 0), (14, .if_icmp .ge 30, 17, 44, 0, 0, 0)],
  [(17, .aload_n 0, 18, 0, 0, 0, 0), (18, .getfield 37, 21, 2, 8, 0, 0), (21, .aload_n 0, 22, 0, 0, 0, 0), (22, .iload_n 3, 23, 0, 0, 0, 0), (23, .invokevirtual 75, 26, 32, 2, 2, 0), (26, .invokestatic 58, 29, 89, 2, 1, 0), (29, .ifCond .eq 9, 32, 38, 0, 0, 0)],
  [(32, .iload_n 2, 33, 0, 0, 0, 0), (33, .iconst 1, 34, 1, 0, 0, 0), (34, .iload_n 3, 35, 0, 0, 0, 0), (35, .ishl, 36, 0, 0, 0, 0), (36, .ior, 37, 0, 0, 0, 0), (37, .istore_n 2, 38, 0, 0, 0, 0), (38, .iinc 3 1, 41, 1, 0, 0, 0), (41, .goto (-37), 44, 4, 0, 0, 0), (44, .iload_n 2, 45, 0, 0, 0, 0), (45, .ireturn, 46, 0, 0, 0, 0)]]
def i_X1_startTrial : List (List xI) := [[(0, .aload_n 0, 1, 0, 0, 0, 0), (1, .aload_n 0, 2, 0, 0, 0, 0), (2, .iconst 2, 3, 2, 0, 0, 0), (3, .invokevirtual 62, 6, 25, 2, 2, 0), (6, .putfield 37, 9, 2, 8, 0, 0), (9, .aload_n 0, 10, 0, 0, 0, 0), (10, .iconst 0, 11, 0, 0, 0, 0), (11, .putfield 40, 14, 2, 9, 0, 0), (14, .aload_n 0, 15, 0, 0, 0, 0), (15, .iconst 0, 16, 0, 0, 0, 0)],
  [(16, .putfield 43, 19, 2, 10, 0, 0), (19, .return_, 20, 0, 0, 0, 0)]]
def i_X1_tryAndHalve : List (List xI) := [[(0, .iload_n 2, 1, 0, 0, 0, 0), (1, .iconst 1, 2, 1, 0, 0, 0), (2, .if_icmp .lt 9, 5, 11, 0, 0, 0), (5, .iload_n 2, 6, 0, 0, 0, 0), (6, .bipush 8, 8, 8, 0, 0, 0), (8, .if_icmp .le 4, 11, 12, 0, 0, 0), (11, .return_, 12, 0, 0, 0, 0), (12, .aload_n 0, 13, 0, 0, 0, 0), (13, .dup, 14, 0, 0, 0, 0), (14, .getfield 40, 17, 2, 9, 0, 0)],
  [(17, .iconst 1, 18, 1, 0, 0, 0), (18, .iadd, 19, 0, 0, 0, 0), (19, .putfield 40, 22, 2, 9, 0, 0), (22, .aload_n 0, 23, 0, 0, 0, 0), (23, .dup, 24, 0, 0, 0, 0), (24, .getfield 43, 27, 2, 10, 0, 0), (27, .iconst 5, 28, 5, 0, 0, 0), (28, .aload_n 0, 29, 0, 0, 0, 0), (29, .iload_n 1, 30, 0, 0, 0, 0), (30, .iload_n 2, 31, 0, 0, 0, 0), (31, .invokevirtual 78, 34, 45, 3, 2, 0)],
  [(34, .iadd, 35, 0, 0, 0, 0), (35, .iadd, 36, 0, 0, 0, 0), (36, .putfield 43, 39, 2, 10, 0, 0), (39, .aload_n 0, 40, 0, 0, 0, 0), (40, .iload_n 1, 41, 0, 0, 0, 0), (41, .iload_n 2, 42, 0, 0, 0, 0), (42, .invokevirtual 82, 45, 42, 3, 2, 0), (45, .ifCond .eq 21, 48, 66, 0, 0, 0)],
  [(48, .aload_n 0, 49, 0, 0, 0, 0), (49, .dup, 50, 0, 0, 0, 0), (50, .getfield 37, 53, 2, 8, 0, 0), (53, .aload_n 0, 54, 0, 0, 0, 0), (54, .iload_n 1, 55, 0, 0, 0, 0), (55, .iload_n 2, 56, 0, 0, 0, 0), (56, .invokevirtual 85, 59, 44, 3, 2, 0), (59, .ior, 60, 0, 0, 0, 0), (60, .putfield 37, 63, 2, 8, 0, 0), (63, .goto 14, 66, 77, 0, 0, 0)],
  [(66, .iload_n 2, 67, 0, 0, 0, 0), (67, .iconst 1, 68, 1, 0, 0, 0), (68, .if_icmp .le 9, 71, 77, 0, 0, 0), (71, .aload_n 0, 72, 0, 0, 0, 0), (72, .iload_n 1, 73, 0, 0, 0, 0), (73, .iload_n 2, 74, 0, 0, 0, 0), (74, .invokevirtual 88, 77, 41, 3, 2, 0), (77, .return_, 78, 0, 0, 0, 0)]]
def i_X1_tryHalves : List (List xI) := [[(0, .iload_n 2, 1, 0, 0, 0, 0), (1, .iconst 1, 2, 1, 0, 0, 0), (2, .iadd, 3, 0, 0, 0, 0), (3, .iconst 2, 4, 2, 0, 0, 0), (4, .idiv, 5, 0, 0, 0, 0), (5, .istore_n 3, 6, 0, 0, 0, 0), (6, .aload_n 0, 7, 0, 0, 0, 0), (7, .iload_n 1, 8, 0, 0, 0, 0), (8, .iload_n 3, 9, 0, 0, 0, 0), (9, .invokevirtual 72, 12, 40, 3, 2, 0), (12, .aload_n 0, 13, 0, 0, 0, 0), (13, .iload_n 1, 14, 0, 0, 0, 0), (14, .iload_n 3, 15, 0, 0, 0, 0), (15, .iadd, 16, 0, 0, 0, 0)],
  [(16, .iload_n 2, 17, 0, 0, 0, 0), (17, .iload_n 3, 18, 0, 0, 0, 0), (18, .isub, 19, 0, 0, 0, 0), (19, .invokevirtual 72, 22, 40, 3, 2, 0), (22, .return_, 23, 0, 0, 0, 0)]]
def i_X1_passes : List (List xI) := [[(0, .iconst 0, 1, 0, 0, 0, 0), (1, .istore_n 3, 2, 0, 0, 0, 0), (2, .iload_n 3, 3, 0, 0, 0, 0), (3, .iload_n 2, 4, 0, 0, 0, 0), (4, .if_icmp .ge 31, 7, 35, 0, 0, 0), (7, .aload_n 0, 8, 0, 0, 0, 0), (8, .aload_n 0, 9, 0, 0, 0, 0), (9, .iload_n 1, 10, 0, 0, 0, 0), (10, .iload_n 3, 11, 0, 0, 0, 0), (11, .iadd, 12, 0, 0, 0, 0), (12, .invokevirtual 75, 15, 32, 2, 2, 0), (15, .aload_n 0, 16, 0, 0, 0, 0)],
  [(16, .iload_n 1, 17, 0, 0, 0, 0), (17, .iload_n 3, 18, 0, 0, 0, 0), (18, .invokevirtual 85, 21, 44, 3, 2, 0), (21, .invokevirtual 91, 24, 43, 3, 2, 0), (24, .ifCond .ne 5, 27, 29, 0, 0, 0), (27, .iconst 0, 28, 0, 0, 0, 0), (28, .ireturn, 29, 1, 0, 0, 0), (29, .iinc 3 1, 32, 1, 0, 0, 0)],
  [(32, .goto (-30), 35, 2, 0, 0, 0), (35, .iconst 1, 36, 1, 0, 0, 0), (36, .ireturn, 37, 1, 0, 0, 0)]]
def i_X1_holdsBehind : List (List xI) := [[(0, .aload_n 0, 1, 0, 0, 0, 0), (1, .iload_n 1, 2, 0, 0, 0, 0), (2, .invokevirtual 46, 5, 20, 2, 2, 0), (5, .ifCond .eq 14, 8, 19, 0, 0, 0), (8, .aload_n 0, 9, 0, 0, 0, 0), (9, .getfield 27, 12, 2, 5, 0, 0), (12, .iload_n 1, 13, 0, 0, 0, 0), (13, .invokestatic 58, 16, 89, 2, 1, 0)],
  [(16, .ifCond .eq 5, 19, 21, 0, 0, 0), (19, .iconst 0, 20, 0, 0, 0, 0), (20, .ireturn, 21, 1, 0, 0, 0), (21, .aload_n 0, 22, 0, 0, 0, 0), (22, .getfield 37, 25, 2, 8, 0, 0), (25, .iload_n 2, 26, 0, 0, 0, 0), (26, .ior, 27, 0, 0, 0, 0), (27, .istore_n 3, 28, 0, 0, 0, 0), (28, .aload_n 0, 29, 0, 0, 0, 0), (29, .getfield 15, 32, 2, 1, 0, 0)],
  [(32, .iload_n 1, 33, 0, 0, 0, 0), (33, .iaload, 34, 0, 0, 0, 0), (34, .iload_n 3, 35, 0, 0, 0, 0), (35, .iconst (-1), 36, 1, 1, 0, 0), (36, .ixor, 37, 0, 0, 0, 0), (37, .iand, 38, 0, 0, 0, 0), (38, .ifCond .ne 18, 41, 56, 0, 0, 0), (41, .aload_n 0, 42, 0, 0, 0, 0), (42, .getfield 18, 45, 2, 2, 0, 0), (45, .iload_n 1, 46, 0, 0, 0, 0), (46, .iaload, 47, 0, 0, 0, 0), (47, .iload_n 3, 48, 0, 0, 0, 0)],
  [(48, .iand, 49, 0, 0, 0, 0), (49, .ifCond .ne 7, 52, 56, 0, 0, 0), (52, .iconst 1, 53, 1, 0, 0, 0), (53, .goto 4, 56, 57, 0, 0, 0), (56, .iconst 0, 57, 0, 0, 0, 0), (57, .ireturn, 58, 1, 0, 0, 0)]]
def i_X1_setOfRow : List (List xI) := [[(0, .iconst 0, 1, 0, 0, 0, 0), (1, .istore_n 3, 2, 0, 0, 0, 0), (2, .iconst 0, 3, 0, 0, 0, 0), (3, .istore 4, 5, 0, 0, 0, 0), (5, .iload 4, 7, 0, 0, 0, 0), (7, .iload_n 2, 8, 0, 0, 0, 0), (8, .if_icmp .ge 23, 11, 31, 0, 0, 0), (11, .iload_n 3, 12, 0, 0, 0, 0), (12, .aload_n 0, 13, 0, 0, 0, 0), (13, .iload_n 1, 14, 0, 0, 0, 0), (14, .iload 4, 16, 0, 0, 0, 0)],
  [(16, .iadd, 17, 0, 0, 0, 0), (17, .invokevirtual 75, 20, 32, 2, 2, 0), (20, .invokestatic 50, 23, 88, 1, 1, 0), (23, .ior, 24, 0, 0, 0, 0), (24, .istore_n 3, 25, 0, 0, 0, 0), (25, .iinc 4 1, 28, 1, 0, 0, 0), (28, .goto (-23), 31, 5, 0, 0, 0), (31, .iload_n 3, 32, 0, 0, 0, 0)],
  [(32, .ireturn, 33, 0, 0, 0, 0)]]
def i_X1_weightOfRow : List (List xI) := [[(0, .iconst 0, 1, 0, 0, 0, 0), (1, .istore_n 3, 2, 0, 0, 0, 0), (2, .iconst 0, 3, 0, 0, 0, 0), (3, .istore 4, 5, 0, 0, 0, 0), (5, .iload 4, 7, 0, 0, 0, 0), (7, .iload_n 2, 8, 0, 0, 0, 0), (8, .if_icmp .ge 24, 11, 32, 0, 0, 0), (11, .iload_n 3, 12, 0, 0, 0, 0), (12, .aload_n 0, 13, 0, 0, 0, 0), (13, .aload_n 0, 14, 0, 0, 0, 0), (14, .iload_n 1, 15, 0, 0, 0, 0), (15, .iload 4, 17, 0, 0, 0, 0)],
  [(17, .iadd, 18, 0, 0, 0, 0), (18, .invokevirtual 75, 21, 32, 2, 2, 0), (21, .invokevirtual 94, 24, 22, 2, 2, 0), (24, .iadd, 25, 0, 0, 0, 0), (25, .istore_n 3, 26, 0, 0, 0, 0), (26, .iinc 4 1, 29, 1, 0, 0, 0), (29, .goto (-24), 32, 5, 0, 0, 0)],
  [(32, .iload_n 3, 33, 0, 0, 0, 0), (33, .ireturn, 34, 0, 0, 0, 0)]]
def i_X2_card : List (List xI) := [[(0, .iload_n 1, 1, 0, 0, 0, 0), (1, .iconst 0, 2, 0, 0, 0, 0), (2, .bipush 9, 4, 9, 0, 0, 0), (4, .invokestatic 27, 7, 80, 3, 0, 1), (7, .aload_n 0, 8, 0, 0, 0, 0), (8, .getfield 10, 11, 0, 0, 0, 0), (11, .getfield 31, 14, 1, 7, 1, 0), (14, .bipush 20, 16, 20, 0, 0, 0)],
  [(16, .if_icmp .lt 13, 19, 29, 0, 0, 0), (19, .new 34, 22, 1, 38, 36, 0), (22, .dup, 23, 0, 0, 0, 0), (23, .ldc 36, 25, 0, 0, 0, 1), (25, .invokespecial 38, 28, 0, 0, 0, 0), (28, .athrow, 29, 0, 0, 0, 0), (29, .aload_n 0, 30, 0, 0, 0, 0), (30, .getfield 10, 33, 0, 0, 0, 0)],
  [(33, .iload_n 1, 34, 0, 0, 0, 0), (34, .invokevirtual 41, 37, 2, 2, 1, 0), (37, .ireturn, 38, 0, 0, 0, 0)]]
def i_X2_name : List (List xI) := [[(0, .aload_n 0, 1, 0, 0, 0, 0), (1, .iload_n 1, 2, 0, 0, 0, 0), (2, .invokevirtual 45, 5, 77, 2, 0, 1), (5, .aload_n 0, 6, 0, 0, 0, 0), (6, .iload_n 2, 7, 0, 0, 0, 0), (7, .invokevirtual 49, 10, 78, 2, 0, 1), (10, .aload_n 0, 11, 0, 0, 0, 0), (11, .getfield 10, 14, 0, 0, 0, 0), (14, .iload_n 1, 15, 0, 0, 0, 0), (15, .invokevirtual 52, 18, 4, 2, 1, 0)],
  [(18, .istore 4, 20, 0, 0, 0, 0), (20, .iload 4, 22, 0, 0, 0, 0), (22, .ifCond .eq 19, 25, 41, 0, 0, 0), (25, .iload 4, 27, 0, 0, 0, 0), (27, .iconst 1, 28, 1, 0, 0, 0), (28, .if_icmp .eq 13, 31, 41, 0, 0, 0), (31, .new 34, 34, 1, 38, 55, 0)],
  [(34, .dup, 35, 0, 0, 0, 0), (35, .ldc 55, 37, 0, 0, 0, 1), (37, .invokespecial 38, 40, 0, 0, 0, 0), (40, .athrow, 41, 0, 0, 0, 0), (41, .aload_n 0, 42, 0, 0, 0, 0), (42, .getfield 10, 45, 0, 0, 0, 0), (45, .iload_n 1, 46, 0, 0, 0, 0), (46, .iload_n 2, 47, 0, 0, 0, 0), (47, .iload_n 3, 48, 0, 0, 0, 0)],
  [(48, .invokevirtual 57, 51, 11, 4, 1, 0), (51, .aload_n 0, 52, 0, 0, 0, 0), (52, .getfield 10, 55, 0, 0, 0, 0), (55, .iload_n 1, 56, 0, 0, 0, 0), (56, .invokevirtual 61, 59, 12, 2, 1, 0), (59, .invokestatic 64, 62, 91, 1, 0, 0), (62, .ireturn, 63, 0, 0, 0, 0)]]
def i_X2_move : List (List xI) := [[(0, .aload_n 0, 1, 0, 0, 0, 0), (1, .iload_n 1, 2, 0, 0, 0, 0), (2, .invokevirtual 45, 5, 77, 2, 0, 1), (5, .aload_n 0, 6, 0, 0, 0, 0), (6, .iload_n 1, 7, 0, 0, 0, 0), (7, .invokevirtual 69, 10, 82, 2, 0, 0), (10, .ifCond .ne 13, 13, 23, 0, 0, 0), (13, .new 34, 16, 1, 38, 73, 0)],
  [(16, .dup, 17, 0, 0, 0, 0), (17, .ldc 73, 19, 0, 0, 0, 1), (19, .invokespecial 38, 22, 0, 0, 0, 0), (22, .athrow, 23, 0, 0, 0, 0), (23, .aload_n 0, 24, 0, 0, 0, 0), (24, .getfield 10, 27, 0, 0, 0, 0), (27, .iload_n 1, 28, 0, 0, 0, 0), (28, .invokevirtual 52, 31, 4, 2, 1, 0), (31, .istore_n 2, 32, 0, 0, 0, 0)],
  [(32, .aload_n 0, 33, 0, 0, 0, 0), (33, .iload_n 1, 34, 0, 0, 0, 0), (34, .iload_n 2, 35, 0, 0, 0, 0), (35, .iconst 1, 36, 1, 0, 0, 0), (36, .iadd, 37, 0, 0, 0, 0), (37, .invokevirtual 75, 40, 83, 3, 0, 0), (40, .iload_n 2, 41, 0, 0, 0, 0), (41, .iconst 2, 42, 2, 0, 0, 0), (42, .if_icmp .ne 23, 45, 65, 0, 0, 0), (45, .aload_n 0, 46, 0, 0, 0, 0), (46, .getfield 19, 49, 0, 1, 0, 0)],
  [(49, .aload_n 0, 50, 0, 0, 0, 0), (50, .getfield 10, 53, 0, 0, 0, 0), (53, .iload_n 1, 54, 0, 0, 0, 0), (54, .invokevirtual 61, 57, 12, 2, 1, 0), (57, .invokevirtual 79, 60, 33, 2, 2, 0), (60, .aload_n 0, 61, 0, 0, 0, 0), (61, .iload_n 1, 62, 0, 0, 0, 0), (62, .invokevirtual 82, 65, 86, 2, 0, 0)],
  [(65, .aload_n 0, 66, 0, 0, 0, 0), (66, .getfield 10, 69, 0, 0, 0, 0), (69, .iload_n 1, 70, 0, 0, 0, 0), (70, .invokevirtual 52, 73, 4, 2, 1, 0), (73, .ireturn, 74, 0, 0, 0, 0)]]
def i_X2_moveBack : List (List xI) := [[(0, .aload_n 0, 1, 0, 0, 0, 0), (1, .iload_n 1, 2, 0, 0, 0, 0), (2, .invokevirtual 45, 5, 77, 2, 0, 1), (5, .aload_n 0, 6, 0, 0, 0, 0), (6, .getfield 10, 9, 0, 0, 0, 0), (9, .iload_n 1, 10, 0, 0, 0, 0), (10, .invokevirtual 52, 13, 4, 2, 1, 0), (13, .istore_n 2, 14, 0, 0, 0, 0), (14, .iload_n 2, 15, 0, 0, 0, 0), (15, .ifCond .eq 21, 18, 36, 0, 0, 0)],
  [(18, .iload_n 2, 19, 0, 0, 0, 0), (19, .iconst 4, 20, 4, 0, 0, 0), (20, .if_icmp .eq 16, 23, 36, 0, 0, 0), (23, .aload_n 0, 24, 0, 0, 0, 0), (24, .getfield 10, 27, 0, 0, 0, 0), (27, .iload_n 2, 28, 0, 0, 0, 0), (28, .iconst 1, 29, 1, 0, 0, 0), (29, .isub, 30, 0, 0, 0, 0), (30, .invokevirtual 85, 33, 8, 2, 1, 0)],
  [(33, .ifCond .eq 13, 36, 46, 0, 0, 0), (36, .new 34, 39, 1, 38, 88, 0), (39, .dup, 40, 0, 0, 0, 0), (40, .ldc 88, 42, 0, 0, 0, 1), (42, .invokespecial 38, 45, 0, 0, 0, 0), (45, .athrow, 46, 0, 0, 0, 0), (46, .aload_n 0, 47, 0, 0, 0, 0), (47, .iload_n 1, 48, 0, 0, 0, 0)],
  [(48, .iload_n 2, 49, 0, 0, 0, 0), (49, .iconst 1, 50, 1, 0, 0, 0), (50, .isub, 51, 0, 0, 0, 0), (51, .invokevirtual 75, 54, 83, 3, 0, 0), (54, .aload_n 0, 55, 0, 0, 0, 0), (55, .getfield 10, 58, 0, 0, 0, 0), (58, .iload_n 1, 59, 0, 0, 0, 0), (59, .invokevirtual 52, 62, 4, 2, 1, 0), (62, .ireturn, 63, 0, 0, 0, 0)]]
def i_X2_setLimit : List (List xI) := [[(0, .iload_n 1, 1, 0, 0, 0, 0), (1, .invokestatic 90, 4, 87, 1, 0, 0), (4, .ifCond .ne 13, 7, 17, 0, 0, 0), (7, .new 93, 10, 2, 97, 95, 0), (10, .dup, 11, 0, 0, 0, 0), (11, .ldc 95, 13, 0, 0, 0, 1), (13, .invokespecial 97, 16, 0, 0, 0, 0)],
  [(16, .athrow, 17, 0, 0, 0, 0), (17, .iload_n 2, 18, 0, 0, 0, 0), (18, .iconst 1, 19, 1, 0, 0, 0), (19, .bipush 9, 21, 9, 0, 0, 0), (21, .invokestatic 27, 24, 80, 3, 0, 1), (24, .aload_n 0, 25, 0, 0, 0, 0), (25, .getfield 10, 28, 0, 0, 0, 0), (28, .iload_n 1, 29, 0, 0, 0, 0), (29, .iload_n 2, 30, 0, 0, 0, 0), (30, .invokevirtual 98, 33, 10, 3, 1, 0)],
  [(33, .istore_n 3, 34, 0, 0, 0, 0), (34, .aload_n 0, 35, 0, 0, 0, 0), (35, .getfield 10, 38, 0, 0, 0, 0), (38, .iload_n 1, 39, 0, 0, 0, 0), (39, .invokevirtual 102, 42, 5, 2, 1, 0), (42, .istore 4, 44, 0, 0, 0, 0), (44, .iload 4, 46, 0, 0, 0, 0), (46, .iload_n 2, 47, 0, 0, 0, 0), (47, .if_icmp .le 14, 50, 61, 0, 0, 0)],
  [(50, .aload_n 0, 51, 0, 0, 0, 0), (51, .iload_n 1, 52, 0, 0, 0, 0), (52, .invokevirtual 105, 55, 84, 2, 0, 0), (55, .iinc 4 (-1), 58, 1, 1, 0, 0), (58, .goto (-14), 61, 44, 0, 0, 0), (61, .iload_n 3, 62, 0, 0, 0, 0), (62, .ireturn, 63, 0, 0, 0, 0)]]
def i_X2_change : List (List xI) := [[(0, .iload_n 1, 1, 0, 0, 0, 0), (1, .iconst 1, 2, 1, 0, 0, 0), (2, .bipush 9, 4, 9, 0, 0, 0), (4, .invokestatic 27, 7, 80, 3, 0, 1), (7, .aload_n 0, 8, 0, 0, 0, 0), (8, .getfield 19, 11, 0, 1, 0, 0), (11, .getfield 108, 14, 2, 6, 1, 0), (14, .bipush 30, 16, 30, 0, 0, 0)],
  [(16, .if_icmp .lt 13, 19, 29, 0, 0, 0), (19, .new 34, 22, 1, 38, 109, 0), (22, .dup, 23, 0, 0, 0, 0), (23, .ldc 109, 25, 0, 0, 0, 1), (25, .invokespecial 38, 28, 0, 0, 0, 0), (28, .athrow, 29, 0, 0, 0, 0), (29, .aload_n 0, 30, 0, 0, 0, 0), (30, .getfield 19, 33, 0, 1, 0, 0)],
  [(33, .iload_n 1, 34, 0, 0, 0, 0), (34, .invokevirtual 111, 37, 21, 2, 2, 0), (37, .ireturn, 38, 0, 0, 0, 0)]]
def i_X2_need : List (List xI) := [[(0, .aload_n 0, 1, 0, 0, 0, 0), (1, .iload_n 1, 2, 0, 0, 0, 0), (2, .invokevirtual 49, 5, 78, 2, 0, 1), (5, .aload_n 0, 6, 0, 0, 0, 0), (6, .iload_n 2, 7, 0, 0, 0, 0), (7, .invokevirtual 49, 10, 78, 2, 0, 1), (10, .iload_n 2, 11, 0, 0, 0, 0), (11, .iload_n 1, 12, 0, 0, 0, 0), (12, .if_icmp .lt 13, 15, 25, 0, 0, 0), (15, .new 112, 18, 0, 116, 114, 0)],
  [(18, .dup, 19, 0, 0, 0, 0), (19, .ldc 114, 21, 0, 0, 0, 1), (21, .invokespecial 116, 24, 0, 0, 0, 0), (24, .athrow, 25, 0, 0, 0, 0), (25, .aload_n 0, 26, 0, 0, 0, 0), (26, .getfield 19, 29, 0, 1, 0, 0), (29, .iload_n 1, 30, 0, 0, 0, 0), (30, .invokevirtual 117, 33, 23, 2, 2, 0)],
  [(33, .ifCond .ne 18, 36, 51, 0, 0, 0), (36, .aload_n 0, 37, 0, 0, 0, 0), (37, .getfield 19, 40, 0, 1, 0, 0), (40, .iload_n 1, 41, 0, 0, 0, 0), (41, .invokevirtual 120, 44, 26, 2, 2, 0), (44, .iload_n 2, 45, 0, 0, 0, 0), (45, .invokestatic 123, 48, 89, 2, 0, 0)],
  [(48, .ifCond .eq 13, 51, 61, 0, 0, 0), (51, .new 34, 54, 1, 38, 127, 0), (54, .dup, 55, 0, 0, 0, 0), (55, .ldc 127, 57, 0, 0, 0, 1), (57, .invokespecial 38, 60, 0, 0, 0, 0), (60, .athrow, 61, 0, 0, 0, 0), (61, .aload_n 0, 62, 0, 0, 0, 0), (62, .getfield 19, 65, 0, 1, 0, 0)],
  [(65, .iload_n 1, 66, 0, 0, 0, 0), (66, .iload_n 2, 67, 0, 0, 0, 0), (67, .invokevirtual 129, 70, 27, 3, 2, 0), (70, .aload_n 0, 71, 0, 0, 0, 0), (71, .getfield 19, 74, 0, 1, 0, 0), (74, .iload_n 1, 75, 0, 0, 0, 0), (75, .invokevirtual 120, 78, 26, 2, 2, 0), (78, .invokestatic 64, 81, 91, 1, 0, 0)],
  [(81, .ireturn, 82, 0, 0, 0, 0)]]
def i_X2_setBroken : List (List xI) := [[(0, .aload_n 0, 1, 0, 0, 0, 0), (1, .iload_n 1, 2, 0, 0, 0, 0), (2, .invokevirtual 49, 5, 78, 2, 0, 1), (5, .aload_n 0, 6, 0, 0, 0, 0), (6, .getfield 19, 9, 0, 1, 0, 0), (9, .iload_n 1, 10, 0, 0, 0, 0), (10, .invokevirtual 117, 13, 23, 2, 2, 0), (13, .iconst 2, 14, 2, 0, 0, 0), (14, .if_icmp .ne 13, 17, 27, 0, 0, 0)],
  [(17, .new 34, 20, 1, 38, 132, 0), (20, .dup, 21, 0, 0, 0, 0), (21, .ldc 132, 23, 0, 0, 0, 1), (23, .invokespecial 38, 26, 0, 0, 0, 0), (26, .athrow, 27, 0, 0, 0, 0), (27, .aload_n 0, 28, 0, 0, 0, 0), (28, .getfield 19, 31, 0, 1, 0, 0), (31, .iload_n 1, 32, 0, 0, 0, 0)],
  [(32, .iload_n 2, 33, 0, 0, 0, 0), (33, .invokevirtual 134, 36, 29, 3, 2, 0), (36, .ireturn, 37, 1, 0, 0, 0)]]
def i_X2_setClash : List (List xI) := [[(0, .aload_n 0, 1, 0, 0, 0, 0), (1, .iload_n 1, 2, 0, 0, 0, 0), (2, .invokevirtual 49, 5, 78, 2, 0, 1), (5, .aload_n 0, 6, 0, 0, 0, 0), (6, .iload_n 2, 7, 0, 0, 0, 0), (7, .invokevirtual 49, 10, 78, 2, 0, 1), (10, .iload_n 1, 11, 0, 0, 0, 0), (11, .iload_n 2, 12, 0, 0, 0, 0), (12, .if_icmp .ne 13, 15, 25, 0, 0, 0), (15, .new 112, 18, 0, 116, 138, 0)],
  [(18, .dup, 19, 0, 0, 0, 0), (19, .ldc 138, 21, 0, 0, 0, 1), (21, .invokespecial 116, 24, 0, 0, 0, 0), (24, .athrow, 25, 0, 0, 0, 0), (25, .aload_n 0, 26, 0, 0, 0, 0), (26, .getfield 19, 29, 0, 1, 0, 0), (29, .iload_n 1, 30, 0, 0, 0, 0), (30, .invokevirtual 117, 33, 23, 2, 2, 0)],
  [(33, .iconst 2, 34, 2, 0, 0, 0), (34, .if_icmp .ne 25, 37, 59, 0, 0, 0), (37, .aload_n 0, 38, 0, 0, 0, 0), (38, .getfield 19, 41, 0, 1, 0, 0), (41, .iload_n 2, 42, 0, 0, 0, 0), (42, .invokevirtual 117, 45, 23, 2, 2, 0), (45, .iconst 2, 46, 2, 0, 0, 0), (46, .if_icmp .ne 13, 49, 59, 0, 0, 0)],
  [(49, .new 34, 52, 1, 38, 140, 0), (52, .dup, 53, 0, 0, 0, 0), (53, .ldc 140, 55, 0, 0, 0, 1), (55, .invokespecial 38, 58, 0, 0, 0, 0), (58, .athrow, 59, 0, 0, 0, 0), (59, .aload_n 0, 60, 0, 0, 0, 0), (60, .getfield 19, 63, 0, 1, 0, 0), (63, .iload_n 1, 64, 0, 0, 0, 0)],
  [(64, .iload_n 2, 65, 0, 0, 0, 0), (65, .iload_n 3, 66, 0, 0, 0, 0), (66, .invokevirtual 142, 69, 30, 4, 2, 0), (69, .ireturn, 70, 1, 0, 0, 0)]]
def i_X2_mend : List (List xI) := [[(0, .aload_n 0, 1, 0, 0, 0, 0), (1, .iload_n 1, 2, 0, 0, 0, 0), (2, .invokevirtual 49, 5, 78, 2, 0, 1), (5, .aload_n 0, 6, 0, 0, 0, 0), (6, .getfield 19, 9, 0, 1, 0, 0), (9, .iload_n 1, 10, 0, 0, 0, 0), (10, .invokevirtual 117, 13, 23, 2, 2, 0), (13, .iconst 3, 14, 3, 0, 0, 0), (14, .if_icmp .eq 13, 17, 27, 0, 0, 0)],
  [(17, .new 34, 20, 1, 38, 146, 0), (20, .dup, 21, 0, 0, 0, 0), (21, .ldc 146, 23, 0, 0, 0, 1), (23, .invokespecial 38, 26, 0, 0, 0, 0), (26, .athrow, 27, 0, 0, 0, 0), (27, .aload_n 0, 28, 0, 0, 0, 0), (28, .getfield 19, 31, 0, 1, 0, 0), (31, .iload_n 1, 32, 0, 0, 0, 0)],
  [(32, .iconst 0, 33, 0, 0, 0, 0), (33, .invokevirtual 148, 36, 24, 3, 2, 0), (36, .aload_n 0, 37, 0, 0, 0, 0), (37, .getfield 19, 40, 0, 1, 0, 0), (40, .iload_n 1, 41, 0, 0, 0, 0), (41, .iconst 0, 42, 0, 0, 0, 0), (42, .invokevirtual 134, 45, 29, 3, 2, 0), (45, .pop, 46, 0, 0, 0, 0), (46, .aload_n 0, 47, 0, 0, 0, 0), (47, .getfield 10, 50, 0, 0, 0, 0)],
  [(50, .iload_n 1, 51, 0, 0, 0, 0), (51, .invokevirtual 151, 54, 14, 2, 1, 0), (54, .ireturn, 55, 0, 0, 0, 0)]]
def i_X2_takeOut : List (List xI) := [[(0, .aload_n 0, 1, 0, 0, 0, 0), (1, .iload_n 1, 2, 0, 0, 0, 0), (2, .invokevirtual 49, 5, 78, 2, 0, 1), (5, .aload_n 0, 6, 0, 0, 0, 0), (6, .getfield 19, 9, 0, 1, 0, 0), (9, .iload_n 1, 10, 0, 0, 0, 0), (10, .invokevirtual 117, 13, 23, 2, 2, 0), (13, .iconst 2, 14, 2, 0, 0, 0), (14, .if_icmp .ne 14, 17, 28, 0, 0, 0)],
  [(17, .aload_n 0, 18, 0, 0, 0, 0), (18, .getfield 19, 21, 0, 1, 0, 0), (21, .iload_n 1, 22, 0, 0, 0, 0), (22, .invokevirtual 154, 25, 28, 2, 2, 0), (25, .ifCond .eq 13, 28, 38, 0, 0, 0), (28, .new 34, 31, 1, 38, 157, 0), (31, .dup, 32, 0, 0, 0, 0)],
  [(32, .ldc 157, 34, 0, 0, 0, 1), (34, .invokespecial 38, 37, 0, 0, 0, 0), (37, .athrow, 38, 0, 0, 0, 0), (38, .aload_n 0, 39, 0, 0, 0, 0), (39, .getfield 19, 42, 0, 1, 0, 0), (42, .iload_n 1, 43, 0, 0, 0, 0), (43, .iconst 0, 44, 0, 0, 0, 0), (44, .invokevirtual 148, 47, 24, 3, 2, 0), (47, .aload_n 0, 48, 0, 0, 0, 0)],
  [(48, .iload_n 1, 49, 0, 0, 0, 0), (49, .invokestatic 159, 52, 88, 1, 0, 0), (52, .iconst 1, 53, 1, 0, 0, 0), (53, .invokevirtual 162, 56, 85, 3, 0, 0), (56, .ireturn, 57, 0, 0, 0, 0)]]
def i_X2_merge : List (List xI) := [[(0, .aload_n 0, 1, 0, 0, 0, 0), (1, .iload_n 1, 2, 0, 0, 0, 0), (2, .invokevirtual 166, 5, 81, 2, 0, 2), (5, .aload_n 0, 6, 0, 0, 0, 0), (6, .getfield 19, 9, 0, 1, 0, 0), (9, .iload_n 1, 10, 0, 0, 0, 0), (10, .invokevirtual 169, 13, 36, 2, 2, 0), (13, .aload_n 0, 14, 0, 0, 0, 0), (14, .getfield 19, 17, 0, 1, 0, 0)],
  [(17, .iload_n 1, 18, 0, 0, 0, 0), (18, .invokevirtual 172, 21, 35, 2, 2, 0), (21, .aload_n 0, 22, 0, 0, 0, 0), (22, .dup, 23, 0, 0, 0, 0), (23, .getfield 23, 26, 0, 2, 0, 0), (26, .aload_n 0, 27, 0, 0, 0, 0), (27, .getfield 19, 30, 0, 1, 0, 0), (30, .getfield 175, 33, 2, 10, 1, 0)],
  [(33, .iadd, 34, 0, 0, 0, 0), (34, .putfield 23, 37, 0, 2, 0, 0), (37, .aload_n 0, 38, 0, 0, 0, 0), (38, .aload_n 0, 39, 0, 0, 0, 0), (39, .getfield 19, 42, 0, 1, 0, 0), (42, .iconst 3, 43, 3, 0, 0, 0), (43, .invokevirtual 178, 46, 25, 2, 2, 0), (46, .iconst 0, 47, 0, 0, 0, 0), (47, .invokevirtual 162, 50, 85, 3, 0, 0)],
  [(50, .pop, 51, 0, 0, 0, 0), (51, .iconst 0, 52, 0, 0, 0, 0), (52, .istore_n 2, 53, 0, 0, 0, 0), (53, .iload_n 2, 54, 0, 0, 0, 0), (54, .aload_n 0, 55, 0, 0, 0, 0), (55, .getfield 10, 58, 0, 0, 0, 0), (58, .getfield 31, 61, 1, 7, 1, 0), (61, .if_icmp .ge 14, 64, 75, 0, 0, 0)],
  [(64, .aload_n 0, 65, 0, 0, 0, 0), (65, .iload_n 2, 66, 0, 0, 0, 0), (66, .invokevirtual 82, 69, 86, 2, 0, 0), (69, .iinc 2 1, 72, 1, 0, 0, 0), (72, .goto (-19), 75, 53, 0, 0, 0), (75, .aload_n 0, 76, 0, 0, 0, 0), (76, .getfield 19, 79, 0, 1, 0, 0), (79, .getfield 181, 82, 2, 9, 1, 0)],
  [(82, .ireturn, 83, 0, 0, 0, 0)]]
def i_X2_queued : List (List xI) := [[(0, .aload_n 0, 1, 0, 0, 0, 0), (1, .getfield 19, 4, 0, 1, 0, 0), (4, .getfield 184, 7, 2, 7, 1, 0), (7, .ireturn, 8, 0, 0, 0, 0)]]
def i_X2_queuedAt : List (List xI) := [[(0, .iload_n 1, 1, 0, 0, 0, 0), (1, .ifCond .lt 14, 4, 15, 0, 0, 0), (4, .iload_n 1, 5, 0, 0, 0, 0), (5, .aload_n 0, 6, 0, 0, 0, 0), (6, .getfield 19, 9, 0, 1, 0, 0), (9, .getfield 184, 12, 2, 7, 1, 0), (12, .if_icmp .lt 13, 15, 25, 0, 0, 0), (15, .new 93, 18, 2, 97, 187, 0)],
  [(18, .dup, 19, 0, 0, 0, 0), (19, .ldc 187, 21, 0, 0, 0, 1), (21, .invokespecial 97, 24, 0, 0, 0, 0), (24, .athrow, 25, 0, 0, 0, 0), (25, .aload_n 0, 26, 0, 0, 0, 0), (26, .getfield 19, 29, 0, 1, 0, 0), (29, .iload_n 1, 30, 0, 0, 0, 0), (30, .invokevirtual 189, 33, 32, 2, 2, 0)],
  [(33, .ireturn, 34, 0, 0, 0, 0)]]
def i_X2_wouldPass : List (List xI) := [[(0, .aload_n 0, 1, 0, 0, 0, 0), (1, .iload_n 1, 2, 0, 0, 0, 0), (2, .invokevirtual 166, 5, 81, 2, 0, 2), (5, .aload_n 0, 6, 0, 0, 0, 0), (6, .getfield 19, 9, 0, 1, 0, 0), (9, .iload_n 1, 10, 0, 0, 0, 0), (10, .invokevirtual 169, 13, 36, 2, 2, 0), (13, .aload_n 0, 14, 0, 0, 0, 0), (14, .getfield 19, 17, 0, 1, 0, 0)],
  [(17, .iload_n 1, 18, 0, 0, 0, 0), (18, .invokevirtual 192, 21, 38, 2, 2, 0), (21, .ireturn, 22, 0, 0, 0, 0)]]
def i_X2_wouldPassOneByOne : List (List xI) := [[(0, .aload_n 0, 1, 0, 0, 0, 0), (1, .iload_n 1, 2, 0, 0, 0, 0), (2, .invokevirtual 166, 5, 81, 2, 0, 2), (5, .aload_n 0, 6, 0, 0, 0, 0), (6, .getfield 19, 9, 0, 1, 0, 0), (9, .iload_n 1, 10, 0, 0, 0, 0), (10, .invokevirtual 195, 13, 37, 2, 2, 0), (13, .aload_n 0, 14, 0, 0, 0, 0), (14, .getfield 19, 17, 0, 1, 0, 0)],
  [(17, .iload_n 1, 18, 0, 0, 0, 0), (18, .invokevirtual 192, 21, 38, 2, 2, 0), (21, .ireturn, 22, 0, 0, 0, 0)]]
def i_X2_wouldTake : List (List xI) := [[(0, .aload_n 0, 1, 0, 0, 0, 0), (1, .iload_n 1, 2, 0, 0, 0, 0), (2, .invokevirtual 166, 5, 81, 2, 0, 2), (5, .iload_n 2, 6, 0, 0, 0, 0), (6, .ifCond .eq 14, 9, 20, 0, 0, 0), (9, .aload_n 0, 10, 0, 0, 0, 0), (10, .getfield 19, 13, 0, 1, 0, 0), (13, .iload_n 1, 14, 0, 0, 0, 0), (14, .invokevirtual 195, 17, 37, 2, 2, 0)],
  [(17, .goto 11, 20, 28, 0, 0, 0), (20, .aload_n 0, 21, 0, 0, 0, 0), (21, .getfield 19, 24, 0, 1, 0, 0), (24, .iload_n 1, 25, 0, 0, 0, 0), (25, .invokevirtual 169, 28, 36, 2, 2, 0), (28, .aload_n 0, 29, 0, 0, 0, 0), (29, .getfield 19, 32, 0, 1, 0, 0)],
  [(32, .getfield 175, 35, 2, 10, 1, 0), (35, .ireturn, 36, 0, 0, 0, 0)]]
def i_X2_bestLength : List (List xI) := [[(0, .iconst (-1), 1, 1, 1, 0, 0), (1, .istore_n 1, 2, 0, 0, 0, 0), (2, .iconst 0, 3, 0, 0, 0, 0), (3, .istore_n 2, 4, 0, 0, 0, 0), (4, .iconst 1, 5, 1, 0, 0, 0), (5, .istore_n 3, 6, 0, 0, 0, 0), (6, .iconst 1, 7, 1, 0, 0, 0), (7, .istore 4, 9, 0, 0, 0, 0), (9, .iload 4, 11, 0, 0, 0, 0), (11, .bipush 8, 13, 8, 0, 0, 0), (13, .if_icmp .gt 79, 16, 92, 0, 0, 0)],
  [(16, .iload 4, 18, 0, 0, 0, 0), (18, .aload_n 0, 19, 0, 0, 0, 0), (19, .getfield 19, 22, 0, 1, 0, 0), (22, .getfield 184, 25, 2, 7, 1, 0), (25, .if_icmp .gt 67, 28, 92, 0, 0, 0), (28, .aload_n 0, 29, 0, 0, 0, 0), (29, .getfield 19, 32, 0, 1, 0, 0)],
  [(32, .iload 4, 34, 0, 0, 0, 0), (34, .invokevirtual 169, 37, 36, 2, 2, 0), (37, .aload_n 0, 38, 0, 0, 0, 0), (38, .getfield 19, 41, 0, 1, 0, 0), (41, .iload 4, 43, 0, 0, 0, 0), (43, .invokevirtual 192, 46, 38, 2, 2, 0), (46, .invokestatic 64, 49, 91, 1, 0, 0)],
  [(49, .istore 5, 51, 0, 0, 0, 0), (51, .iload_n 1, 52, 0, 0, 0, 0), (52, .iconst (-1), 53, 1, 1, 0, 0), (53, .if_icmp .eq 19, 56, 72, 0, 0, 0), (56, .iload 5, 58, 0, 0, 0, 0), (58, .iload_n 3, 59, 0, 0, 0, 0), (59, .imul, 60, 0, 0, 0, 0), (60, .iload_n 2, 61, 0, 0, 0, 0), (61, .aload_n 0, 62, 0, 0, 0, 0), (62, .getfield 19, 65, 0, 1, 0, 0)],
  [(65, .getfield 175, 68, 2, 10, 1, 0), (68, .imul, 69, 0, 0, 0, 0), (69, .if_icmp .le 17, 72, 86, 0, 0, 0), (72, .iload 4, 74, 0, 0, 0, 0), (74, .istore_n 1, 75, 0, 0, 0, 0), (75, .iload 5, 77, 0, 0, 0, 0), (77, .istore_n 2, 78, 0, 0, 0, 0), (78, .aload_n 0, 79, 0, 0, 0, 0), (79, .getfield 19, 82, 0, 1, 0, 0)],
  [(82, .getfield 175, 85, 2, 10, 1, 0), (85, .istore_n 3, 86, 0, 0, 0, 0), (86, .iinc 4 1, 89, 1, 0, 0, 0), (89, .goto (-80), 92, 9, 0, 0, 0), (92, .iload_n 1, 93, 0, 0, 0, 0), (93, .ireturn, 94, 0, 0, 0, 0)]]
def i_X2_hours : List (List xI) := [[(0, .aload_n 0, 1, 0, 0, 0, 0), (1, .getfield 23, 4, 0, 2, 0, 0), (4, .ireturn, 5, 0, 0, 0, 0)]]
def i_X2_cards : List (List xI) := [[(0, .aload_n 0, 1, 0, 0, 0, 0), (1, .getfield 10, 4, 0, 0, 0, 0), (4, .getfield 31, 7, 1, 7, 1, 0), (7, .ireturn, 8, 0, 0, 0, 0)]]
def i_X2_changes : List (List xI) := [[(0, .aload_n 0, 1, 0, 0, 0, 0), (1, .getfield 19, 4, 0, 1, 0, 0), (4, .getfield 108, 7, 2, 6, 1, 0), (7, .ireturn, 8, 0, 0, 0, 0)]]
def i_X2_columnOf : List (List xI) := [[(0, .aload_n 0, 1, 0, 0, 0, 0), (1, .iload_n 1, 2, 0, 0, 0, 0), (2, .invokevirtual 45, 5, 77, 2, 0, 1), (5, .aload_n 0, 6, 0, 0, 0, 0), (6, .getfield 10, 9, 0, 0, 0, 0), (9, .iload_n 1, 10, 0, 0, 0, 0), (10, .invokevirtual 52, 13, 4, 2, 1, 0), (13, .ireturn, 14, 0, 0, 0, 0)]]
def i_X2_cardsIn : List (List xI) := [[(0, .iload_n 1, 1, 0, 0, 0, 0), (1, .invokestatic 198, 4, 79, 1, 0, 1), (4, .aload_n 0, 5, 0, 0, 0, 0), (5, .getfield 10, 8, 0, 0, 0, 0), (8, .iload_n 1, 9, 0, 0, 0, 0), (9, .invokevirtual 102, 12, 5, 2, 1, 0), (12, .ireturn, 13, 0, 0, 0, 0)]]
def i_X2_cardAt : List (List xI) := [[(0, .iload_n 1, 1, 0, 0, 0, 0), (1, .invokestatic 198, 4, 79, 1, 0, 1), (4, .iload_n 2, 5, 0, 0, 0, 0), (5, .ifCond .lt 15, 8, 20, 0, 0, 0), (8, .iload_n 2, 9, 0, 0, 0, 0), (9, .aload_n 0, 10, 0, 0, 0, 0), (10, .getfield 10, 13, 0, 0, 0, 0), (13, .iload_n 1, 14, 0, 0, 0, 0), (14, .invokevirtual 102, 17, 5, 2, 1, 0)],
  [(17, .if_icmp .lt 13, 20, 30, 0, 0, 0), (20, .new 93, 23, 2, 97, 201, 0), (23, .dup, 24, 0, 0, 0, 0), (24, .ldc 201, 26, 0, 0, 0, 1), (26, .invokespecial 97, 29, 0, 0, 0, 0), (29, .athrow, 30, 0, 0, 0, 0), (30, .aload_n 0, 31, 0, 0, 0, 0), (31, .getfield 10, 34, 0, 0, 0, 0)],
  [(34, .iload_n 1, 35, 0, 0, 0, 0), (35, .iload_n 2, 36, 0, 0, 0, 0), (36, .invokevirtual 203, 39, 6, 3, 1, 0), (39, .ireturn, 40, 0, 0, 0, 0)]]
def i_X2_canMove : List (List xI) := [[(0, .aload_n 0, 1, 0, 0, 0, 0), (1, .iload_n 1, 2, 0, 0, 0, 0), (2, .invokevirtual 45, 5, 77, 2, 0, 1), (5, .aload_n 0, 6, 0, 0, 0, 0), (6, .iload_n 1, 7, 0, 0, 0, 0), (7, .invokevirtual 69, 10, 82, 2, 0, 0), (10, .ireturn, 11, 1, 0, 0, 0)]]
def i_X2_lacks : List (List xI) := [[(0, .aload_n 0, 1, 0, 0, 0, 0), (1, .iload_n 1, 2, 0, 0, 0, 0), (2, .invokevirtual 45, 5, 77, 2, 0, 1), (5, .aload_n 0, 6, 0, 0, 0, 0), (6, .getfield 10, 9, 0, 0, 0, 0), (9, .iload_n 1, 10, 0, 0, 0, 0), (10, .invokevirtual 61, 13, 12, 2, 1, 0), (13, .aload_n 0, 14, 0, 0, 0, 0), (14, .getfield 19, 17, 0, 1, 0, 0)],
  [(17, .iconst 2, 18, 2, 0, 0, 0), (18, .invokevirtual 178, 21, 25, 2, 2, 0), (21, .iconst (-1), 22, 1, 1, 0, 0), (22, .ixor, 23, 0, 0, 0, 0), (23, .iand, 24, 0, 0, 0, 0), (24, .invokestatic 64, 27, 91, 1, 0, 0), (27, .ireturn, 28, 0, 0, 0, 0)]]
def i_X2_falls : List (List xI) := [[(0, .aload_n 0, 1, 0, 0, 0, 0), (1, .iload_n 1, 2, 0, 0, 0, 0), (2, .invokevirtual 45, 5, 77, 2, 0, 1), (5, .aload_n 0, 6, 0, 0, 0, 0), (6, .getfield 10, 9, 0, 0, 0, 0), (9, .iload_n 1, 10, 0, 0, 0, 0), (10, .invokevirtual 206, 13, 16, 2, 1, 0), (13, .ireturn, 14, 0, 0, 0, 0)]]
def i_X2_pushes : List (List xI) := [[(0, .aload_n 0, 1, 0, 0, 0, 0), (1, .iload_n 1, 2, 0, 0, 0, 0), (2, .invokevirtual 45, 5, 77, 2, 0, 1), (5, .aload_n 0, 6, 0, 0, 0, 0), (6, .getfield 10, 9, 0, 0, 0, 0), (9, .iload_n 1, 10, 0, 0, 0, 0), (10, .invokevirtual 209, 13, 18, 2, 1, 0), (13, .ireturn, 14, 0, 0, 0, 0)]]
def i_X2_state : List (List xI) := [[(0, .aload_n 0, 1, 0, 0, 0, 0), (1, .iload_n 1, 2, 0, 0, 0, 0), (2, .invokevirtual 49, 5, 78, 2, 0, 1), (5, .aload_n 0, 6, 0, 0, 0, 0), (6, .getfield 19, 9, 0, 1, 0, 0), (9, .iload_n 1, 10, 0, 0, 0, 0), (10, .invokevirtual 117, 13, 23, 2, 2, 0), (13, .ireturn, 14, 0, 0, 0, 0)]]
def i_X2_namedBy : List (List xI) := [[(0, .aload_n 0, 1, 0, 0, 0, 0), (1, .iload_n 1, 2, 0, 0, 0, 0), (2, .invokevirtual 49, 5, 78, 2, 0, 1), (5, .aload_n 0, 6, 0, 0, 0, 0), (6, .getfield 10, 9, 0, 0, 0, 0), (9, .iload_n 1, 10, 0, 0, 0, 0), (10, .invokevirtual 151, 13, 14, 2, 1, 0), (13, .ireturn, 14, 0, 0, 0, 0)]]
def i_X2_requireCard : List (List xI) := [[(0, .aload_n 0, 1, 0, 0, 0, 0), (1, .getfield 10, 4, 0, 0, 0, 0), (4, .iload_n 1, 5, 0, 0, 0, 0), (5, .invokevirtual 212, 8, 1, 2, 1, 0), (8, .ifCond .ne 13, 11, 21, 0, 0, 0), (11, .new 93, 14, 2, 97, 215, 0), (14, .dup, 15, 0, 0, 0, 0), (15, .ldc 215, 17, 0, 0, 0, 1)],
  [(17, .invokespecial 97, 20, 0, 0, 0, 0), (20, .athrow, 21, 0, 0, 0, 0), (21, .return_, 22, 0, 0, 0, 0)]]
def i_X2_requireChange : List (List xI) := [[(0, .aload_n 0, 1, 0, 0, 0, 0), (1, .getfield 19, 4, 0, 1, 0, 0), (4, .iload_n 1, 5, 0, 0, 0, 0), (5, .invokevirtual 217, 8, 20, 2, 2, 0), (8, .ifCond .ne 13, 11, 21, 0, 0, 0), (11, .new 93, 14, 2, 97, 218, 0), (14, .dup, 15, 0, 0, 0, 0), (15, .ldc 218, 17, 0, 0, 0, 1)],
  [(17, .invokespecial 97, 20, 0, 0, 0, 0), (20, .athrow, 21, 0, 0, 0, 0), (21, .return_, 22, 0, 0, 0, 0)]]
def i_X2_requireColumn : List (List xI) := [[(0, .iload_n 0, 1, 0, 0, 0, 0), (1, .ifCond .lt 8, 4, 9, 0, 0, 0), (4, .iload_n 0, 5, 0, 0, 0, 0), (5, .iconst 4, 6, 4, 0, 0, 0), (6, .if_icmp .le 13, 9, 19, 0, 0, 0), (9, .new 93, 12, 2, 97, 220, 0), (12, .dup, 13, 0, 0, 0, 0), (13, .ldc 220, 15, 0, 0, 0, 1), (15, .invokespecial 97, 18, 0, 0, 0, 0)],
  [(18, .athrow, 19, 0, 0, 0, 0), (19, .return_, 20, 0, 0, 0, 0)]]
def i_X2_requireRange : List (List xI) := [[(0, .iload_n 0, 1, 0, 0, 0, 0), (1, .iload_n 1, 2, 0, 0, 0, 0), (2, .if_icmp .lt 8, 5, 10, 0, 0, 0), (5, .iload_n 0, 6, 0, 0, 0, 0), (6, .iload_n 2, 7, 0, 0, 0, 0), (7, .if_icmp .le 13, 10, 20, 0, 0, 0), (10, .new 112, 13, 0, 116, 222, 0), (13, .dup, 14, 0, 0, 0, 0), (14, .ldc 222, 16, 0, 0, 0, 1)],
  [(16, .invokespecial 116, 19, 0, 0, 0, 0), (19, .athrow, 20, 0, 0, 0, 0), (20, .return_, 21, 0, 0, 0, 0)]]
def i_X2_requireRow : List (List xI) := [[(0, .iload_n 1, 1, 0, 0, 0, 0), (1, .iconst 1, 2, 1, 0, 0, 0), (2, .bipush 8, 4, 8, 0, 0, 0), (4, .invokestatic 27, 7, 80, 3, 0, 1), (7, .iload_n 1, 8, 0, 0, 0, 0), (8, .aload_n 0, 9, 0, 0, 0, 0), (9, .getfield 19, 12, 0, 1, 0, 0), (12, .getfield 184, 15, 2, 7, 1, 0), (15, .if_icmp .le 13, 18, 28, 0, 0, 0)],
  [(18, .new 34, 21, 1, 38, 224, 0), (21, .dup, 22, 0, 0, 0, 0), (22, .ldc 224, 24, 0, 0, 0, 1), (24, .invokespecial 38, 27, 0, 0, 0, 0), (27, .athrow, 28, 0, 0, 0, 0), (28, .return_, 29, 0, 0, 0, 0)]]
def i_X2_isMovable : List (List xI) := [[(0, .aload_n 0, 1, 0, 0, 0, 0), (1, .getfield 10, 4, 0, 0, 0, 0), (4, .iload_n 1, 5, 0, 0, 0, 0), (5, .invokevirtual 52, 8, 4, 2, 1, 0), (8, .istore_n 2, 9, 0, 0, 0, 0), (9, .iload_n 2, 10, 0, 0, 0, 0), (10, .ifCond .lt 21, 13, 31, 0, 0, 0), (13, .iload_n 2, 14, 0, 0, 0, 0), (14, .iconst 2, 15, 2, 0, 0, 0), (15, .if_icmp .gt 16, 18, 31, 0, 0, 0)],
  [(18, .aload_n 0, 19, 0, 0, 0, 0), (19, .getfield 10, 22, 0, 0, 0, 0), (22, .iload_n 2, 23, 0, 0, 0, 0), (23, .iconst 1, 24, 1, 0, 0, 0), (24, .iadd, 25, 0, 0, 0, 0), (25, .invokevirtual 85, 28, 8, 2, 1, 0), (28, .ifCond .eq 5, 31, 33, 0, 0, 0), (31, .iconst 0, 32, 0, 0, 0, 0)],
  [(32, .ireturn, 33, 1, 0, 0, 0), (33, .iload_n 2, 34, 0, 0, 0, 0), (34, .iconst 1, 35, 1, 0, 0, 0), (35, .if_icmp .ne 20, 38, 55, 0, 0, 0), (38, .aload_n 0, 39, 0, 0, 0, 0), (39, .getfield 10, 42, 0, 0, 0, 0), (42, .iload_n 1, 43, 0, 0, 0, 0), (43, .invokevirtual 61, 46, 12, 2, 1, 0), (46, .ifCond .eq 7, 49, 53, 0, 0, 0)],
  [(49, .iconst 1, 50, 1, 0, 0, 0), (50, .goto 4, 53, 54, 0, 0, 0), (53, .iconst 0, 54, 0, 0, 0, 0), (54, .ireturn, 55, 1, 0, 0, 0), (55, .iload_n 2, 56, 0, 0, 0, 0), (56, .ifCond .eq 21, 59, 77, 0, 0, 0), (59, .aload_n 0, 60, 0, 0, 0, 0), (60, .getfield 19, 63, 0, 1, 0, 0), (63, .aload_n 0, 64, 0, 0, 0, 0)],
  [(64, .getfield 10, 67, 0, 0, 0, 0), (67, .iload_n 1, 68, 0, 0, 0, 0), (68, .invokevirtual 61, 71, 12, 2, 1, 0), (71, .invokevirtual 226, 74, 31, 2, 2, 0), (74, .ifCond .eq 7, 77, 81, 0, 0, 0), (77, .iconst 1, 78, 1, 0, 0, 0), (78, .goto 4, 81, 82, 0, 0, 0)],
  [(81, .iconst 0, 82, 0, 0, 0, 0), (82, .ireturn, 83, 1, 0, 0, 0)]]
def i_X2_shift : List (List xI) := [[(0, .aload_n 0, 1, 0, 0, 0, 0), (1, .getfield 10, 4, 0, 0, 0, 0), (4, .iload_n 1, 5, 0, 0, 0, 0), (5, .invokevirtual 52, 8, 4, 2, 1, 0), (8, .iconst 3, 9, 3, 0, 0, 0), (9, .if_icmp .ne 12, 12, 21, 0, 0, 0), (12, .iload_n 2, 13, 0, 0, 0, 0), (13, .iconst 4, 14, 4, 0, 0, 0), (14, .if_icmp .eq 7, 17, 21, 0, 0, 0)],
  [(17, .iconst 1, 18, 1, 0, 0, 0), (18, .goto 4, 21, 22, 0, 0, 0), (21, .iconst 0, 22, 0, 0, 0, 0), (22, .istore_n 3, 23, 0, 0, 0, 0), (23, .aload_n 0, 24, 0, 0, 0, 0), (24, .getfield 10, 27, 0, 0, 0, 0), (27, .iload_n 1, 28, 0, 0, 0, 0), (28, .iload_n 2, 29, 0, 0, 0, 0), (29, .invokevirtual 229, 32, 3, 3, 1, 0)],
  [(32, .iload_n 3, 33, 0, 0, 0, 0), (33, .ifCond .eq 29, 36, 62, 0, 0, 0), (36, .aload_n 0, 37, 0, 0, 0, 0), (37, .getfield 19, 40, 0, 1, 0, 0), (40, .aload_n 0, 41, 0, 0, 0, 0), (41, .getfield 10, 44, 0, 0, 0, 0), (44, .iload_n 1, 45, 0, 0, 0, 0), (45, .invokevirtual 61, 48, 12, 2, 1, 0)],
  [(48, .aload_n 0, 49, 0, 0, 0, 0), (49, .getfield 10, 52, 0, 0, 0, 0), (52, .iconst 3, 53, 3, 0, 0, 0), (53, .invokevirtual 232, 56, 13, 2, 1, 0), (56, .iconst (-1), 57, 1, 1, 0, 0), (57, .ixor, 58, 0, 0, 0, 0), (58, .iand, 59, 0, 0, 0, 0), (59, .invokevirtual 235, 62, 34, 2, 2, 0), (62, .return_, 63, 0, 0, 0, 0)]]
def i_X2_pushBackFrom : List (List xI) := [[(0, .iload_n 1, 1, 0, 0, 0, 0), (1, .istore_n 2, 2, 0, 0, 0, 0), (2, .iload_n 2, 3, 0, 0, 0, 0), (3, .ifCond .le 55, 6, 58, 0, 0, 0), (6, .aload_n 0, 7, 0, 0, 0, 0), (7, .getfield 10, 10, 0, 0, 0, 0), (10, .iload_n 2, 11, 0, 0, 0, 0), (11, .invokevirtual 238, 14, 9, 2, 1, 0), (14, .ifCond .eq 44, 17, 58, 0, 0, 0)],
  [(17, .aload_n 0, 18, 0, 0, 0, 0), (18, .getfield 10, 21, 0, 0, 0, 0), (21, .iload_n 2, 22, 0, 0, 0, 0), (22, .aload_n 0, 23, 0, 0, 0, 0), (23, .getfield 10, 26, 0, 0, 0, 0), (26, .iload_n 2, 27, 0, 0, 0, 0), (27, .invokevirtual 102, 30, 5, 2, 1, 0), (30, .iconst 1, 31, 1, 0, 0, 0), (31, .isub, 32, 0, 0, 0, 0)],
  [(32, .invokevirtual 203, 35, 6, 3, 1, 0), (35, .istore_n 3, 36, 0, 0, 0, 0), (36, .aload_n 0, 37, 0, 0, 0, 0), (37, .getfield 10, 40, 0, 0, 0, 0), (40, .iload_n 3, 41, 0, 0, 0, 0), (41, .invokevirtual 241, 44, 17, 2, 1, 0), (44, .aload_n 0, 45, 0, 0, 0, 0), (45, .iload_n 3, 46, 0, 0, 0, 0), (46, .iload_n 2, 47, 0, 0, 0, 0), (47, .iconst 1, 48, 1, 0, 0, 0)],
  [(48, .isub, 49, 0, 0, 0, 0), (49, .invokevirtual 75, 52, 83, 3, 0, 0), (52, .iinc 2 (-1), 55, 1, 1, 0, 0), (55, .goto (-53), 58, 2, 0, 0, 0), (58, .return_, 59, 0, 0, 0, 0)]]
def i_X2_dropCards : List (List xI) := [[(0, .iconst 0, 1, 0, 0, 0, 0), (1, .istore_n 3, 2, 0, 0, 0, 0), (2, .iconst 0, 3, 0, 0, 0, 0), (3, .istore 4, 5, 0, 0, 0, 0), (5, .iload 4, 7, 0, 0, 0, 0), (7, .aload_n 0, 8, 0, 0, 0, 0), (8, .getfield 10, 11, 0, 0, 0, 0), (11, .getfield 31, 14, 1, 7, 1, 0), (14, .if_icmp .ge 86, 17, 100, 0, 0, 0)],
  [(17, .aload_n 0, 18, 0, 0, 0, 0), (18, .getfield 10, 21, 0, 0, 0, 0), (21, .iload 4, 23, 0, 0, 0, 0), (23, .invokevirtual 52, 26, 4, 2, 1, 0), (26, .istore 5, 28, 0, 0, 0, 0), (28, .iload 5, 30, 0, 0, 0, 0), (30, .iconst 3, 31, 3, 0, 0, 0), (31, .if_icmp .eq 13, 34, 44, 0, 0, 0)],
  [(34, .iload_n 2, 35, 0, 0, 0, 0), (35, .ifCond .eq 13, 38, 48, 0, 0, 0), (38, .iload 5, 40, 0, 0, 0, 0), (40, .iconst 4, 41, 4, 0, 0, 0), (41, .if_icmp .ne 7, 44, 48, 0, 0, 0), (44, .iconst 1, 45, 1, 0, 0, 0), (45, .goto 4, 48, 49, 0, 0, 0)],
  [(48, .iconst 0, 49, 0, 0, 0, 0), (49, .istore 6, 51, 0, 0, 0, 0), (51, .iload 6, 53, 0, 0, 0, 0), (53, .ifCond .eq 41, 56, 94, 0, 0, 0), (56, .aload_n 0, 57, 0, 0, 0, 0), (57, .getfield 10, 60, 0, 0, 0, 0), (60, .iload 4, 62, 0, 0, 0, 0), (62, .invokevirtual 61, 65, 12, 2, 1, 0)],
  [(65, .iload_n 1, 66, 0, 0, 0, 0), (66, .iand, 67, 0, 0, 0, 0), (67, .ifCond .eq 27, 70, 94, 0, 0, 0), (70, .aload_n 0, 71, 0, 0, 0, 0), (71, .getfield 10, 74, 0, 0, 0, 0), (74, .iload 4, 76, 0, 0, 0, 0), (76, .invokevirtual 244, 79, 15, 2, 1, 0), (79, .aload_n 0, 80, 0, 0, 0, 0)],
  [(80, .iload 4, 82, 0, 0, 0, 0), (82, .iconst 1, 83, 1, 0, 0, 0), (83, .invokevirtual 75, 86, 83, 3, 0, 0), (86, .aload_n 0, 87, 0, 0, 0, 0), (87, .iconst 1, 88, 1, 0, 0, 0), (88, .invokevirtual 105, 91, 84, 2, 0, 0), (91, .iinc 3 1, 94, 1, 0, 0, 0), (94, .iinc 4 1, 97, 1, 0, 0, 0)],
  [(97, .goto (-92), 100, 5, 0, 0, 0), (100, .iload_n 3, 101, 0, 0, 0, 0), (101, .ireturn, 102, 0, 0, 0, 0)]]
def i_X2_passOn : List (List xI) := [[(0, .aload_n 0, 1, 0, 0, 0, 0), (1, .getfield 10, 4, 0, 0, 0, 0), (4, .iload_n 1, 5, 0, 0, 0, 0), (5, .invokevirtual 61, 8, 12, 2, 1, 0), (8, .aload_n 0, 9, 0, 0, 0, 0), (9, .getfield 19, 12, 0, 1, 0, 0), (12, .iconst 2, 13, 2, 0, 0, 0), (13, .invokevirtual 178, 16, 25, 2, 2, 0)],
  [(16, .iconst (-1), 17, 1, 1, 0, 0), (17, .ixor, 18, 0, 0, 0, 0), (18, .iand, 19, 0, 0, 0, 0), (19, .ifCond .ne 7, 22, 26, 0, 0, 0), (22, .iconst 1, 23, 1, 0, 0, 0), (23, .goto 4, 26, 27, 0, 0, 0), (26, .iconst 0, 27, 0, 0, 0, 0), (27, .istore_n 2, 28, 0, 0, 0, 0), (28, .aload_n 0, 29, 0, 0, 0, 0), (29, .getfield 10, 32, 0, 0, 0, 0)],
  [(32, .iload_n 1, 33, 0, 0, 0, 0), (33, .invokevirtual 52, 36, 4, 2, 1, 0), (36, .iconst 3, 37, 3, 0, 0, 0), (37, .if_icmp .ne 13, 40, 50, 0, 0, 0), (40, .iload_n 2, 41, 0, 0, 0, 0), (41, .ifCond .eq 9, 44, 50, 0, 0, 0), (44, .aload_n 0, 45, 0, 0, 0, 0), (45, .iload_n 1, 46, 0, 0, 0, 0), (46, .iconst 4, 47, 4, 0, 0, 0), (47, .invokevirtual 75, 50, 83, 3, 0, 0)],
  [(50, .return_, 51, 0, 0, 0, 0)]]
def i_X2_hasLimit : List (List xI) := [[(0, .iload_n 0, 1, 0, 0, 0, 0), (1, .iconst 1, 2, 1, 0, 0, 0), (2, .if_icmp .lt 12, 5, 14, 0, 0, 0), (5, .iload_n 0, 6, 0, 0, 0, 0), (6, .iconst 3, 7, 3, 0, 0, 0), (7, .if_icmp .gt 7, 10, 14, 0, 0, 0), (10, .iconst 1, 11, 1, 0, 0, 0), (11, .goto 4, 14, 15, 0, 0, 0), (14, .iconst 0, 15, 0, 0, 0, 0), (15, .ireturn, 16, 1, 0, 0, 0)]]
def i_X2_bit : List (List xI) := [[(0, .iconst 1, 1, 1, 0, 0, 0), (1, .iload_n 0, 2, 0, 0, 0, 0), (2, .ishl, 3, 0, 0, 0, 0), (3, .ireturn, 4, 0, 0, 0, 0)]]
def i_X2_contains : List (List xI) := [[(0, .iload_n 0, 1, 0, 0, 0, 0), (1, .iload_n 1, 2, 0, 0, 0, 0), (2, .invokestatic 159, 5, 88, 1, 0, 0), (5, .iand, 6, 0, 0, 0, 0), (6, .ifCond .eq 7, 9, 13, 0, 0, 0), (9, .iconst 1, 10, 1, 0, 0, 0), (10, .goto 4, 13, 14, 0, 0, 0), (13, .iconst 0, 14, 0, 0, 0, 0), (14, .ireturn, 15, 1, 0, 0, 0)]]
def i_X2_with : List (List xI) := [[(0, .iload_n 2, 1, 0, 0, 0, 0), (1, .ifCond .eq 12, 4, 13, 0, 0, 0), (4, .iload_n 0, 5, 0, 0, 0, 0), (5, .iload_n 1, 6, 0, 0, 0, 0), (6, .invokestatic 159, 9, 88, 1, 0, 0), (9, .ior, 10, 0, 0, 0, 0), (10, .goto 11, 13, 21, 0, 0, 0), (13, .iload_n 0, 14, 0, 0, 0, 0), (14, .iload_n 1, 15, 0, 0, 0, 0), (15, .invokestatic 159, 18, 88, 1, 0, 0)],
  [(18, .iconst (-1), 19, 1, 1, 0, 0), (19, .ixor, 20, 0, 0, 0, 0), (20, .iand, 21, 0, 0, 0, 0), (21, .ireturn, 22, 0, 0, 0, 0)]]
def i_J6_bitCount_0f7a4 : List (List xI) := [[(0, .iload_n 0, 1, 0, 0, 0, 0), (1, .iload_n 0, 2, 0, 0, 0, 0), (2, .iconst 1, 3, 1, 0, 0, 0), (3, .iushr, 4, 0, 0, 0, 0), (4, .ldc_w 265, 7, 1431655765, 0, 0, 0), (7, .iand, 8, 0, 0, 0, 0), (8, .isub, 9, 0, 0, 0, 0), (9, .istore_n 0, 10, 0, 0, 0, 0), (10, .iload_n 0, 11, 0, 0, 0, 0), (11, .ldc_w 266, 14, 858993459, 0, 0, 0), (14, .iand, 15, 0, 0, 0, 0), (15, .iload_n 0, 16, 0, 0, 0, 0)],
  [(16, .iconst 2, 17, 2, 0, 0, 0), (17, .iushr, 18, 0, 0, 0, 0), (18, .ldc_w 266, 21, 858993459, 0, 0, 0), (21, .iand, 22, 0, 0, 0, 0), (22, .iadd, 23, 0, 0, 0, 0), (23, .istore_n 0, 24, 0, 0, 0, 0), (24, .iload_n 0, 25, 0, 0, 0, 0), (25, .iload_n 0, 26, 0, 0, 0, 0), (26, .iconst 4, 27, 4, 0, 0, 0), (27, .iushr, 28, 0, 0, 0, 0), (28, .iadd, 29, 0, 0, 0, 0), (29, .ldc_w 267, 32, 252645135, 0, 0, 0)],
  [(32, .iand, 33, 0, 0, 0, 0), (33, .istore_n 0, 34, 0, 0, 0, 0), (34, .iload_n 0, 35, 0, 0, 0, 0), (35, .iload_n 0, 36, 0, 0, 0, 0), (36, .bipush 8, 38, 8, 0, 0, 0), (38, .iushr, 39, 0, 0, 0, 0), (39, .iadd, 40, 0, 0, 0, 0), (40, .istore_n 0, 41, 0, 0, 0, 0), (41, .iload_n 0, 42, 0, 0, 0, 0), (42, .iload_n 0, 43, 0, 0, 0, 0), (43, .bipush 16, 45, 16, 0, 0, 0), (45, .iushr, 46, 0, 0, 0, 0), (46, .iadd, 47, 0, 0, 0, 0), (47, .istore_n 0, 48, 0, 0, 0, 0)],
  [(48, .iload_n 0, 49, 0, 0, 0, 0), (49, .bipush 63, 51, 63, 0, 0, 0), (51, .iand, 52, 0, 0, 0, 0), (52, .ireturn, 53, 0, 0, 0, 0)]]
def i_L_from : List (List xI) := [[(0, .aload_n 0, 1, 0, 0, 0, 0), (1, .arraylength, 2, 0, 0, 0, 0), (2, .ifCond .ne 15, 5, 17, 0, 0, 0), (5, .sipush 281, 8, 281, 0, 0, 0), (8, .iload_n 1, 9, 0, 0, 0, 0), (9, .imul, 10, 0, 0, 0, 0), (10, .sipush 257, 13, 257, 0, 0, 0), (13, .iadd, 14, 0, 0, 0, 0), (14, .goto 14, 17, 28, 0, 0, 0)],
  [(17, .aload_n 0, 18, 0, 0, 0, 0), (18, .iload_n 1, 19, 0, 0, 0, 0), (19, .aload_n 0, 20, 0, 0, 0, 0), (20, .arraylength, 21, 0, 0, 0, 0), (21, .irem, 22, 0, 0, 0, 0), (22, .iaload, 23, 0, 0, 0, 0), (23, .ldc 7, 25, 221173, 0, 0, 0), (25, .iload_n 1, 26, 0, 0, 0, 0), (26, .imul, 27, 0, 0, 0, 0), (27, .ixor, 28, 0, 0, 0, 0), (28, .istore_n 3, 29, 0, 0, 0, 0), (29, .iload_n 3, 30, 0, 0, 0, 0), (30, .ldc 8, 32, 2147483647, 0, 0, 0)],
  [(32, .iand, 33, 0, 0, 0, 0), (33, .iload_n 2, 34, 0, 0, 0, 0), (34, .irem, 35, 0, 0, 0, 0), (35, .ireturn, 36, 0, 0, 0, 0)]]
def i_L_come : List (List xI) := [[(0, .iconst 0, 1, 0, 0, 0, 0), (1, .istore 7, 3, 0, 0, 0, 0), (3, .aload_n 1, 4, 0, 0, 0, 0), (4, .iconst 5, 5, 5, 0, 0, 0), (5, .iload 5, 7, 0, 0, 0, 0), (7, .imul, 8, 0, 0, 0, 0), (8, .iconst 1, 9, 1, 0, 0, 0), (9, .iadd, 10, 0, 0, 0, 0), (10, .iaload, 11, 0, 0, 0, 0), (11, .iconst 3, 12, 3, 0, 0, 0), (12, .if_icmp .ne 13, 15, 25, 0, 0, 0), (15, .iload 6, 17, 0, 0, 0, 0)],
  [(17, .iconst 4, 18, 4, 0, 0, 0), (18, .if_icmp .ge 7, 21, 25, 0, 0, 0), (21, .iconst 1, 22, 1, 0, 0, 0), (22, .goto 4, 25, 26, 0, 0, 0), (25, .iconst 0, 26, 0, 0, 0, 0), (26, .istore 8, 28, 0, 0, 0, 0), (28, .aload_n 0, 29, 0, 0, 0, 0), (29, .iload 7, 31, 0, 0, 0, 0), (31, .iaload, 32, 0, 0, 0, 0)],
  [(32, .iload 5, 34, 0, 0, 0, 0), (34, .if_icmp .eq 9, 37, 43, 0, 0, 0), (37, .iinc 7 1, 40, 1, 0, 0, 0), (40, .goto (-12), 43, 28, 0, 0, 0), (43, .iload 7, 45, 0, 0, 0, 0), (45, .iconst 1, 46, 1, 0, 0, 0), (46, .iadd, 47, 0, 0, 0, 0), (47, .aload 4, 49, 0, 0, 0, 0)],
  [(49, .iconst 0, 50, 0, 0, 0, 0), (50, .iaload, 51, 0, 0, 0, 0), (51, .if_icmp .ge 19, 54, 70, 0, 0, 0), (54, .aload_n 0, 55, 0, 0, 0, 0), (55, .iload 7, 57, 0, 0, 0, 0), (57, .aload_n 0, 58, 0, 0, 0, 0), (58, .iload 7, 60, 0, 0, 0, 0), (60, .iconst 1, 61, 1, 0, 0, 0), (61, .iadd, 62, 0, 0, 0, 0), (62, .iaload, 63, 0, 0, 0, 0), (63, .iastore, 64, 0, 0, 0, 0)],
  [(64, .iinc 7 1, 67, 1, 0, 0, 0), (67, .goto (-24), 70, 43, 0, 0, 0), (70, .aload_n 0, 71, 0, 0, 0, 0), (71, .aload 4, 73, 0, 0, 0, 0), (73, .iconst 0, 74, 0, 0, 0, 0), (74, .iaload, 75, 0, 0, 0, 0), (75, .iconst 1, 76, 1, 0, 0, 0), (76, .isub, 77, 0, 0, 0, 0), (77, .iload 5, 79, 0, 0, 0, 0), (79, .iastore, 80, 0, 0, 0, 0)],
  [(80, .aload_n 1, 81, 0, 0, 0, 0), (81, .iconst 5, 82, 5, 0, 0, 0), (82, .iload 5, 84, 0, 0, 0, 0), (84, .imul, 85, 0, 0, 0, 0), (85, .iconst 1, 86, 1, 0, 0, 0), (86, .iadd, 87, 0, 0, 0, 0), (87, .iload 6, 89, 0, 0, 0, 0), (89, .iastore, 90, 0, 0, 0, 0), (90, .iconst 0, 91, 0, 0, 0, 0), (91, .istore 9, 93, 0, 0, 0, 0), (93, .iconst 0, 94, 0, 0, 0, 0), (94, .istore 10, 96, 0, 0, 0, 0)],
  [(96, .iload 10, 98, 0, 0, 0, 0), (98, .aload 4, 100, 0, 0, 0, 0), (100, .iconst 0, 101, 0, 0, 0, 0), (101, .iaload, 102, 0, 0, 0, 0), (102, .if_icmp .ge 38, 105, 140, 0, 0, 0), (105, .iload 9, 107, 0, 0, 0, 0), (107, .aload_n 1, 108, 0, 0, 0, 0), (108, .iconst 5, 109, 5, 0, 0, 0), (109, .iload 10, 111, 0, 0, 0, 0), (111, .imul, 112, 0, 0, 0, 0)],
  [(112, .iconst 1, 113, 1, 0, 0, 0), (113, .iadd, 114, 0, 0, 0, 0), (114, .iaload, 115, 0, 0, 0, 0), (115, .iconst 3, 116, 3, 0, 0, 0), (116, .if_icmp .ne 14, 119, 130, 0, 0, 0), (119, .aload_n 1, 120, 0, 0, 0, 0), (120, .iconst 5, 121, 5, 0, 0, 0), (121, .iload 10, 123, 0, 0, 0, 0), (123, .imul, 124, 0, 0, 0, 0), (124, .iconst 2, 125, 2, 0, 0, 0), (125, .iadd, 126, 0, 0, 0, 0), (126, .iaload, 127, 0, 0, 0, 0), (127, .goto 4, 130, 131, 0, 0, 0)],
  [(130, .iconst 0, 131, 0, 0, 0, 0), (131, .ior, 132, 0, 0, 0, 0), (132, .istore 9, 134, 0, 0, 0, 0), (134, .iinc 10 1, 137, 1, 0, 0, 0), (137, .goto (-41), 140, 96, 0, 0, 0), (140, .iconst 0, 141, 0, 0, 0, 0), (141, .istore 10, 143, 0, 0, 0, 0), (143, .iconst 0, 144, 0, 0, 0, 0)],
  [(144, .istore 11, 146, 0, 0, 0, 0), (146, .iload 11, 148, 0, 0, 0, 0), (148, .aload 4, 150, 0, 0, 0, 0), (150, .iconst 2, 151, 2, 0, 0, 0), (151, .iaload, 152, 0, 0, 0, 0), (152, .if_icmp .ge 104, 155, 256, 0, 0, 0), (155, .iload 8, 157, 0, 0, 0, 0), (157, .ifCond .eq 38, 160, 195, 0, 0, 0)],
  [(160, .aload_n 1, 161, 0, 0, 0, 0), (161, .iconst 5, 162, 5, 0, 0, 0), (162, .iload 5, 164, 0, 0, 0, 0), (164, .imul, 165, 0, 0, 0, 0), (165, .iconst 2, 166, 2, 0, 0, 0), (166, .iadd, 167, 0, 0, 0, 0), (167, .iaload, 168, 0, 0, 0, 0), (168, .aload_n 3, 169, 0, 0, 0, 0), (169, .iload 11, 171, 0, 0, 0, 0), (171, .iaload, 172, 0, 0, 0, 0), (172, .ishr, 173, 0, 0, 0, 0), (173, .iconst 1, 174, 1, 0, 0, 0), (174, .iand, 175, 0, 0, 0, 0), (175, .iconst 1, 176, 1, 0, 0, 0)],
  [(176, .if_icmp .ne 19, 179, 195, 0, 0, 0), (179, .iload 9, 181, 0, 0, 0, 0), (181, .aload_n 3, 182, 0, 0, 0, 0), (182, .iload 11, 184, 0, 0, 0, 0), (184, .iaload, 185, 0, 0, 0, 0), (185, .ishr, 186, 0, 0, 0, 0), (186, .iconst 1, 187, 1, 0, 0, 0), (187, .iand, 188, 0, 0, 0, 0), (188, .ifCond .ne 7, 191, 195, 0, 0, 0), (191, .iconst 1, 192, 1, 0, 0, 0)],
  [(192, .goto 4, 195, 196, 0, 0, 0), (195, .iconst 0, 196, 0, 0, 0, 0), (196, .istore 12, 198, 0, 0, 0, 0), (198, .aload_n 2, 199, 0, 0, 0, 0), (199, .iconst 5, 200, 5, 0, 0, 0), (200, .aload_n 3, 201, 0, 0, 0, 0), (201, .iload 11, 203, 0, 0, 0, 0), (203, .iaload, 204, 0, 0, 0, 0), (204, .imul, 205, 0, 0, 0, 0), (205, .iconst 1, 206, 1, 0, 0, 0), (206, .iadd, 207, 0, 0, 0, 0), (207, .iload 12, 209, 0, 0, 0, 0)],
  [(209, .ifCond .eq 7, 212, 216, 0, 0, 0), (212, .iconst 0, 213, 0, 0, 0, 0), (213, .goto 13, 216, 226, 0, 0, 0), (216, .aload_n 2, 217, 0, 0, 0, 0), (217, .iconst 5, 218, 5, 0, 0, 0), (218, .aload_n 3, 219, 0, 0, 0, 0), (219, .iload 11, 221, 0, 0, 0, 0), (221, .iaload, 222, 0, 0, 0, 0), (222, .imul, 223, 0, 0, 0, 0), (223, .iconst 1, 224, 1, 0, 0, 0)],
  [(224, .iadd, 225, 0, 0, 0, 0), (225, .iaload, 226, 0, 0, 0, 0), (226, .iastore, 227, 0, 0, 0, 0), (227, .aload_n 3, 228, 0, 0, 0, 0), (228, .iload 10, 230, 0, 0, 0, 0), (230, .aload_n 3, 231, 0, 0, 0, 0), (231, .iload 11, 233, 0, 0, 0, 0), (233, .iaload, 234, 0, 0, 0, 0), (234, .iastore, 235, 0, 0, 0, 0), (235, .iload 10, 237, 0, 0, 0, 0), (237, .iload 12, 239, 0, 0, 0, 0), (239, .ifCond .eq 7, 242, 246, 0, 0, 0)],
  [(242, .iconst 0, 243, 0, 0, 0, 0), (243, .goto 4, 246, 247, 0, 0, 0), (246, .iconst 1, 247, 1, 0, 0, 0), (247, .iadd, 248, 0, 0, 0, 0), (248, .istore 10, 250, 0, 0, 0, 0), (250, .iinc 11 1, 253, 1, 0, 0, 0), (253, .goto (-107), 256, 146, 0, 0, 0)],
  [(256, .aload 4, 258, 0, 0, 0, 0), (258, .iconst 2, 259, 2, 0, 0, 0), (259, .iload 10, 261, 0, 0, 0, 0), (261, .iastore, 262, 0, 0, 0, 0), (262, .return_, 263, 0, 0, 0, 0)]]
def i_L_count : List (List xI) := [[(0, .iconst 0, 1, 0, 0, 0, 0), (1, .istore_n 3, 2, 0, 0, 0, 0), (2, .iconst 0, 3, 0, 0, 0, 0), (3, .istore 4, 5, 0, 0, 0, 0), (5, .iload 4, 7, 0, 0, 0, 0), (7, .aload_n 1, 8, 0, 0, 0, 0), (8, .iconst 0, 9, 0, 0, 0, 0), (9, .iaload, 10, 0, 0, 0, 0), (10, .if_icmp .ge 29, 13, 39, 0, 0, 0), (13, .iload_n 3, 14, 0, 0, 0, 0), (14, .aload_n 0, 15, 0, 0, 0, 0), (15, .iconst 5, 16, 5, 0, 0, 0)],
  [(16, .iload 4, 18, 0, 0, 0, 0), (18, .imul, 19, 0, 0, 0, 0), (19, .iconst 1, 20, 1, 0, 0, 0), (20, .iadd, 21, 0, 0, 0, 0), (21, .iaload, 22, 0, 0, 0, 0), (22, .iload_n 2, 23, 0, 0, 0, 0), (23, .if_icmp .ne 7, 26, 30, 0, 0, 0), (26, .iconst 1, 27, 1, 0, 0, 0), (27, .goto 4, 30, 31, 0, 0, 0), (30, .iconst 0, 31, 0, 0, 0, 0), (31, .iadd, 32, 0, 0, 0, 0)],
  [(32, .istore_n 3, 33, 0, 0, 0, 0), (33, .iinc 4 1, 36, 1, 0, 0, 0), (36, .goto (-31), 39, 5, 0, 0, 0), (39, .iload_n 3, 40, 0, 0, 0, 0), (40, .ireturn, 41, 0, 0, 0, 0)]]
def i_L_push : List (List xI) := [[(0, .iload 5, 2, 0, 0, 0, 0), (2, .istore 6, 4, 0, 0, 0, 0), (4, .iload 6, 6, 0, 0, 0, 0), (6, .ifCond .le 123, 9, 129, 0, 0, 0), (9, .aload_n 1, 10, 0, 0, 0, 0), (10, .aload 4, 12, 0, 0, 0, 0), (12, .iload 6, 14, 0, 0, 0, 0), (14, .invokestatic 9, 17, 94, 3, 0, 0)],
  [(17, .aload 4, 19, 0, 0, 0, 0), (19, .iconst 3, 20, 3, 0, 0, 0), (20, .iload 6, 22, 0, 0, 0, 0), (22, .iadd, 23, 0, 0, 0, 0), (23, .iaload, 24, 0, 0, 0, 0), (24, .if_icmp .le 105, 27, 129, 0, 0, 0), (27, .iconst (-1), 28, 1, 1, 0, 0), (28, .istore 7, 30, 0, 0, 0, 0), (30, .iconst 0, 31, 0, 0, 0, 0), (31, .istore 8, 33, 0, 0, 0, 0)],
  [(33, .iload 8, 35, 0, 0, 0, 0), (35, .aload 4, 37, 0, 0, 0, 0), (37, .iconst 0, 38, 0, 0, 0, 0), (38, .iaload, 39, 0, 0, 0, 0), (39, .if_icmp .ge 57, 42, 96, 0, 0, 0), (42, .aload_n 1, 43, 0, 0, 0, 0), (43, .iconst 5, 44, 5, 0, 0, 0), (44, .aload_n 0, 45, 0, 0, 0, 0), (45, .iload 8, 47, 0, 0, 0, 0), (47, .iaload, 48, 0, 0, 0, 0)],
  [(48, .imul, 49, 0, 0, 0, 0), (49, .iconst 1, 50, 1, 0, 0, 0), (50, .iadd, 51, 0, 0, 0, 0), (51, .iaload, 52, 0, 0, 0, 0), (52, .iload 6, 54, 0, 0, 0, 0), (54, .if_icmp .ne 32, 57, 86, 0, 0, 0), (57, .iload 7, 59, 0, 0, 0, 0), (59, .ifCond .lt 20, 62, 79, 0, 0, 0), (62, .aload_n 1, 63, 0, 0, 0, 0), (63, .iconst 5, 64, 5, 0, 0, 0)],
  [(64, .aload_n 0, 65, 0, 0, 0, 0), (65, .iload 8, 67, 0, 0, 0, 0), (67, .iaload, 68, 0, 0, 0, 0), (68, .imul, 69, 0, 0, 0, 0), (69, .iaload, 70, 0, 0, 0, 0), (70, .aload_n 1, 71, 0, 0, 0, 0), (71, .iconst 5, 72, 5, 0, 0, 0), (72, .iload 7, 74, 0, 0, 0, 0), (74, .imul, 75, 0, 0, 0, 0), (75, .iaload, 76, 0, 0, 0, 0), (76, .if_icmp .gt 10, 79, 86, 0, 0, 0), (79, .aload_n 0, 80, 0, 0, 0, 0)],
  [(80, .iload 8, 82, 0, 0, 0, 0), (82, .iaload, 83, 0, 0, 0, 0), (83, .goto 5, 86, 88, 0, 0, 0), (86, .iload 7, 88, 0, 0, 0, 0), (88, .istore 7, 90, 0, 0, 0, 0), (90, .iinc 8 1, 93, 1, 0, 0, 0), (93, .goto (-60), 96, 33, 0, 0, 0)],
  [(96, .aload_n 1, 97, 0, 0, 0, 0), (97, .iconst 5, 98, 5, 0, 0, 0), (98, .iload 7, 100, 0, 0, 0, 0), (100, .imul, 101, 0, 0, 0, 0), (101, .iconst 4, 102, 4, 0, 0, 0), (102, .iadd, 103, 0, 0, 0, 0), (103, .dup2, 104, 0, 0, 0, 0), (104, .iaload, 105, 0, 0, 0, 0), (105, .iconst 1, 106, 1, 0, 0, 0), (106, .iadd, 107, 0, 0, 0, 0), (107, .iastore, 108, 0, 0, 0, 0), (108, .aload_n 0, 109, 0, 0, 0, 0), (109, .aload_n 1, 110, 0, 0, 0, 0), (110, .aload_n 2, 111, 0, 0, 0, 0), (111, .aload_n 3, 112, 0, 0, 0, 0)],
  [(112, .aload 4, 114, 0, 0, 0, 0), (114, .iload 7, 116, 0, 0, 0, 0), (116, .iload 6, 118, 0, 0, 0, 0), (118, .iconst 1, 119, 1, 0, 0, 0), (119, .isub, 120, 0, 0, 0, 0), (120, .invokestatic 15, 123, 93, 7, 0, 0), (123, .iinc 6 (-1), 126, 1, 1, 0, 0), (126, .goto (-122), 129, 4, 0, 0, 0)],
  [(129, .return_, 130, 0, 0, 0, 0)]]
def i_L_fall : List (List xI) := [[(0, .aload_n 1, 1, 0, 0, 0, 0), (1, .iconst 5, 2, 5, 0, 0, 0), (2, .iload 5, 4, 0, 0, 0, 0), (4, .imul, 5, 0, 0, 0, 0), (5, .iconst 3, 6, 3, 0, 0, 0), (6, .iadd, 7, 0, 0, 0, 0), (7, .dup2, 8, 0, 0, 0, 0), (8, .iaload, 9, 0, 0, 0, 0), (9, .iconst 1, 10, 1, 0, 0, 0), (10, .iadd, 11, 0, 0, 0, 0), (11, .iastore, 12, 0, 0, 0, 0), (12, .aload_n 0, 13, 0, 0, 0, 0), (13, .aload_n 1, 14, 0, 0, 0, 0), (14, .aload_n 2, 15, 0, 0, 0, 0), (15, .aload_n 3, 16, 0, 0, 0, 0)],
  [(16, .aload 4, 18, 0, 0, 0, 0), (18, .iload 5, 20, 0, 0, 0, 0), (20, .iconst 1, 21, 1, 0, 0, 0), (21, .invokestatic 15, 24, 93, 7, 0, 0), (24, .aload_n 0, 25, 0, 0, 0, 0), (25, .aload_n 1, 26, 0, 0, 0, 0), (26, .aload_n 2, 27, 0, 0, 0, 0), (27, .aload_n 3, 28, 0, 0, 0, 0), (28, .aload 4, 30, 0, 0, 0, 0), (30, .iconst 1, 31, 1, 0, 0, 0), (31, .invokestatic 19, 34, 95, 6, 0, 0)],
  [(34, .return_, 35, 0, 0, 0, 0)]]
def i_L_withState : List (List xI) := [[(0, .iconst 0, 1, 0, 0, 0, 0), (1, .istore_n 3, 2, 0, 0, 0, 0), (2, .iconst 0, 3, 0, 0, 0, 0), (3, .istore 4, 5, 0, 0, 0, 0), (5, .iload 4, 7, 0, 0, 0, 0), (7, .aload_n 1, 8, 0, 0, 0, 0), (8, .iconst 1, 9, 1, 0, 0, 0), (9, .iaload, 10, 0, 0, 0, 0), (10, .if_icmp .ge 32, 13, 42, 0, 0, 0), (13, .iload_n 3, 14, 0, 0, 0, 0), (14, .aload_n 0, 15, 0, 0, 0, 0), (15, .iconst 5, 16, 5, 0, 0, 0)],
  [(16, .iload 4, 18, 0, 0, 0, 0), (18, .imul, 19, 0, 0, 0, 0), (19, .iconst 1, 20, 1, 0, 0, 0), (20, .iadd, 21, 0, 0, 0, 0), (21, .iaload, 22, 0, 0, 0, 0), (22, .iload_n 2, 23, 0, 0, 0, 0), (23, .if_icmp .ne 10, 26, 33, 0, 0, 0), (26, .iconst 1, 27, 1, 0, 0, 0), (27, .iload 4, 29, 0, 0, 0, 0), (29, .ishl, 30, 0, 0, 0, 0), (30, .goto 4, 33, 34, 0, 0, 0)],
  [(33, .iconst 0, 34, 0, 0, 0, 0), (34, .ior, 35, 0, 0, 0, 0), (35, .istore_n 3, 36, 0, 0, 0, 0), (36, .iinc 4 1, 39, 1, 0, 0, 0), (39, .goto (-34), 42, 5, 0, 0, 0), (42, .iload_n 3, 43, 0, 0, 0, 0), (43, .ireturn, 44, 0, 0, 0, 0)]]
def i_L_ones : List (List xI) := [[(0, .iconst 0, 1, 0, 0, 0, 0), (1, .istore_n 1, 2, 0, 0, 0, 0), (2, .iload_n 0, 3, 0, 0, 0, 0), (3, .istore_n 2, 4, 0, 0, 0, 0), (4, .iload_n 2, 5, 0, 0, 0, 0), (5, .ifCond .eq 15, 8, 20, 0, 0, 0), (8, .iinc 1 1, 11, 1, 0, 0, 0), (11, .iload_n 2, 12, 0, 0, 0, 0), (12, .iload_n 2, 13, 0, 0, 0, 0), (13, .iconst 1, 14, 1, 0, 0, 0), (14, .isub, 15, 0, 0, 0, 0), (15, .iand, 16, 0, 0, 0, 0)],
  [(16, .istore_n 2, 17, 0, 0, 0, 0), (17, .goto (-13), 20, 4, 0, 0, 0), (20, .iload_n 1, 21, 0, 0, 0, 0), (21, .ireturn, 22, 0, 0, 0, 0)]]
def i_L_canMove : List (List xI) := [[(0, .aload_n 0, 1, 0, 0, 0, 0), (1, .iconst 5, 2, 5, 0, 0, 0), (2, .iload_n 3, 3, 0, 0, 0, 0), (3, .imul, 4, 0, 0, 0, 0), (4, .iconst 1, 5, 1, 0, 0, 0), (5, .iadd, 6, 0, 0, 0, 0), (6, .iaload, 7, 0, 0, 0, 0), (7, .istore 4, 9, 0, 0, 0, 0), (9, .aload_n 0, 10, 0, 0, 0, 0), (10, .iconst 5, 11, 5, 0, 0, 0), (11, .iload_n 3, 12, 0, 0, 0, 0), (12, .imul, 13, 0, 0, 0, 0), (13, .iconst 2, 14, 2, 0, 0, 0), (14, .iadd, 15, 0, 0, 0, 0), (15, .iaload, 16, 0, 0, 0, 0)],
  [(16, .istore 5, 18, 0, 0, 0, 0), (18, .aload_n 1, 19, 0, 0, 0, 0), (19, .aload_n 2, 20, 0, 0, 0, 0), (20, .iconst 3, 21, 3, 0, 0, 0), (21, .invokestatic 23, 24, 97, 3, 0, 0), (24, .istore 6, 26, 0, 0, 0, 0), (26, .aload_n 1, 27, 0, 0, 0, 0), (27, .aload_n 2, 28, 0, 0, 0, 0), (28, .iconst 0, 29, 0, 0, 0, 0), (29, .invokestatic 23, 32, 97, 3, 0, 0)],
  [(32, .iload 6, 34, 0, 0, 0, 0), (34, .ior, 35, 0, 0, 0, 0), (35, .iload 5, 37, 0, 0, 0, 0), (37, .iconst (-1), 38, 1, 1, 0, 0), (38, .ixor, 39, 0, 0, 0, 0), (39, .iand, 40, 0, 0, 0, 0), (40, .istore 7, 42, 0, 0, 0, 0), (42, .iload 4, 44, 0, 0, 0, 0), (44, .iconst 3, 45, 3, 0, 0, 0), (45, .if_icmp .ge 50, 48, 95, 0, 0, 0)],
  [(48, .aload_n 0, 49, 0, 0, 0, 0), (49, .aload_n 2, 50, 0, 0, 0, 0), (50, .iload 4, 52, 0, 0, 0, 0), (52, .iconst 1, 53, 1, 0, 0, 0), (53, .iadd, 54, 0, 0, 0, 0), (54, .invokestatic 9, 57, 94, 3, 0, 0), (57, .aload_n 2, 58, 0, 0, 0, 0), (58, .iconst 4, 59, 4, 0, 0, 0), (59, .iload 4, 61, 0, 0, 0, 0), (61, .iadd, 62, 0, 0, 0, 0), (62, .iaload, 63, 0, 0, 0, 0), (63, .if_icmp .ge 32, 66, 95, 0, 0, 0)],
  [(66, .iload 4, 68, 0, 0, 0, 0), (68, .iconst 1, 69, 1, 0, 0, 0), (69, .if_icmp .ne 8, 72, 77, 0, 0, 0), (72, .iload 5, 74, 0, 0, 0, 0), (74, .ifCond .eq 21, 77, 95, 0, 0, 0), (77, .iload 4, 79, 0, 0, 0, 0), (79, .iconst 2, 80, 2, 0, 0, 0)],
  [(80, .if_icmp .ne 11, 83, 91, 0, 0, 0), (83, .iload 5, 85, 0, 0, 0, 0), (85, .iload 6, 87, 0, 0, 0, 0), (87, .iand, 88, 0, 0, 0, 0), (88, .ifCond .ne 7, 91, 95, 0, 0, 0), (91, .iconst 1, 92, 1, 0, 0, 0), (92, .goto 4, 95, 96, 0, 0, 0), (95, .iconst 0, 96, 0, 0, 0, 0)],
  [(96, .istore 8, 98, 0, 0, 0, 0), (98, .iconst 0, 99, 0, 0, 0, 0), (99, .istore 9, 101, 0, 0, 0, 0), (101, .iload 9, 103, 0, 0, 0, 0), (103, .aload_n 2, 104, 0, 0, 0, 0), (104, .iconst 1, 105, 1, 0, 0, 0), (105, .iaload, 106, 0, 0, 0, 0), (106, .if_icmp .ge 51, 109, 157, 0, 0, 0), (109, .iload 4, 111, 0, 0, 0, 0), (111, .iconst 2, 112, 2, 0, 0, 0)],
  [(112, .if_icmp .ne 45, 115, 157, 0, 0, 0), (115, .iload 8, 117, 0, 0, 0, 0), (117, .ifCond .eq 31, 120, 148, 0, 0, 0), (120, .iload 5, 122, 0, 0, 0, 0), (122, .iload 9, 124, 0, 0, 0, 0), (124, .ishr, 125, 0, 0, 0, 0), (125, .iconst 1, 126, 1, 0, 0, 0), (126, .iand, 127, 0, 0, 0, 0), (127, .ifCond .eq 17, 130, 144, 0, 0, 0)],
  [(130, .aload_n 1, 131, 0, 0, 0, 0), (131, .iconst 5, 132, 5, 0, 0, 0), (132, .iload 9, 134, 0, 0, 0, 0), (134, .imul, 135, 0, 0, 0, 0), (135, .iconst 3, 136, 3, 0, 0, 0), (136, .iadd, 137, 0, 0, 0, 0), (137, .iaload, 138, 0, 0, 0, 0), (138, .iload 7, 140, 0, 0, 0, 0), (140, .iand, 141, 0, 0, 0, 0), (141, .ifCond .ne 7, 144, 148, 0, 0, 0)],
  [(144, .iconst 1, 145, 1, 0, 0, 0), (145, .goto 4, 148, 149, 0, 0, 0), (148, .iconst 0, 149, 0, 0, 0, 0), (149, .istore 8, 151, 0, 0, 0, 0), (151, .iinc 9 1, 154, 1, 0, 0, 0), (154, .goto (-53), 157, 101, 0, 0, 0), (157, .iload 8, 159, 0, 0, 0, 0), (159, .ireturn, 160, 1, 0, 0, 0)]]
def i_L_work : List (List xI) := [[(0, .bipush 16, 2, 16, 0, 0, 0), (2, .newarray .int, 4, 16, 21, 0, 3), (4, .astore 6, 6, 0, 0, 0, 0), (6, .iconst 0, 7, 0, 0, 0, 0), (7, .istore 7, 9, 0, 0, 0, 0), (9, .aload_n 3, 10, 0, 0, 0, 0), (10, .iconst 0, 11, 0, 0, 0, 0), (11, .aload_n 0, 12, 0, 0, 0, 0), (12, .aload_n 2, 13, 0, 0, 0, 0), (13, .iconst 2, 14, 2, 0, 0, 0), (14, .invokestatic 23, 17, 97, 3, 0, 0)],
  [(17, .iastore, 18, 0, 0, 0, 0), (18, .aload_n 3, 19, 0, 0, 0, 0), (19, .iconst 1, 20, 1, 0, 0, 0), (20, .iconst 0, 21, 0, 0, 0, 0), (21, .iastore, 22, 0, 0, 0, 0), (22, .aload_n 3, 23, 0, 0, 0, 0), (23, .iconst 2, 24, 2, 0, 0, 0), (24, .iconst 0, 25, 0, 0, 0, 0), (25, .iastore, 26, 0, 0, 0, 0), (26, .iload 4, 28, 0, 0, 0, 0), (28, .iconst 1, 29, 1, 0, 0, 0), (29, .isub, 30, 0, 0, 0, 0), (30, .istore 8, 32, 0, 0, 0, 0)],
  [(32, .iload 8, 34, 0, 0, 0, 0), (34, .ifCond .lt 36, 37, 70, 0, 0, 0), (37, .aload 6, 39, 0, 0, 0, 0), (39, .iload 7, 41, 0, 0, 0, 0), (41, .bipush 16, 43, 16, 0, 0, 0), (43, .iload 8, 45, 0, 0, 0, 0), (45, .imul, 46, 0, 0, 0, 0), (46, .iconst 1, 47, 1, 0, 0, 0), (47, .iadd, 48, 0, 0, 0, 0)],
  [(48, .iastore, 49, 0, 0, 0, 0), (49, .iload 7, 51, 0, 0, 0, 0), (51, .iload 5, 53, 0, 0, 0, 0), (53, .ifCond .eq 7, 56, 60, 0, 0, 0), (56, .iconst 1, 57, 1, 0, 0, 0), (57, .goto 4, 60, 61, 0, 0, 0), (60, .iconst 0, 61, 0, 0, 0, 0), (61, .iadd, 62, 0, 0, 0, 0), (62, .istore 7, 64, 0, 0, 0, 0)],
  [(64, .iinc 8 (-1), 67, 1, 1, 0, 0), (67, .goto (-35), 70, 32, 0, 0, 0), (70, .aload 6, 72, 0, 0, 0, 0), (72, .iconst 0, 73, 0, 0, 0, 0), (73, .iload 5, 75, 0, 0, 0, 0), (75, .ifCond .eq 10, 78, 85, 0, 0, 0), (78, .aload 6, 80, 0, 0, 0, 0)],
  [(80, .iconst 0, 81, 0, 0, 0, 0), (81, .iaload, 82, 0, 0, 0, 0), (82, .goto 5, 85, 87, 0, 0, 0), (85, .iload 4, 87, 0, 0, 0, 0), (87, .iastore, 88, 0, 0, 0, 0), (88, .iload 5, 90, 0, 0, 0, 0), (90, .ifCond .eq 8, 93, 98, 0, 0, 0), (93, .iload 7, 95, 0, 0, 0, 0), (95, .goto 4, 98, 99, 0, 0, 0)],
  [(98, .iconst 1, 99, 1, 0, 0, 0), (99, .istore 7, 101, 0, 0, 0, 0), (101, .iload 7, 103, 0, 0, 0, 0), (103, .ifCond .le 220, 106, 323, 0, 0, 0), (106, .iinc 7 (-1), 109, 1, 1, 0, 0), (109, .aload 6, 111, 0, 0, 0, 0), (111, .iload 7, 113, 0, 0, 0, 0)],
  [(113, .iaload, 114, 0, 0, 0, 0), (114, .bipush 16, 116, 16, 0, 0, 0), (116, .idiv, 117, 0, 0, 0, 0), (117, .istore 8, 119, 0, 0, 0, 0), (119, .aload 6, 121, 0, 0, 0, 0), (121, .iload 7, 123, 0, 0, 0, 0), (123, .iaload, 124, 0, 0, 0, 0), (124, .bipush 16, 126, 16, 0, 0, 0), (126, .irem, 127, 0, 0, 0, 0), (127, .istore 9, 129, 0, 0, 0, 0)],
  [(129, .aload_n 3, 130, 0, 0, 0, 0), (130, .iconst 0, 131, 0, 0, 0, 0), (131, .iaload, 132, 0, 0, 0, 0), (132, .istore 10, 134, 0, 0, 0, 0), (134, .iconst 1, 135, 1, 0, 0, 0), (135, .istore 11, 137, 0, 0, 0, 0), (137, .aload_n 3, 138, 0, 0, 0, 0), (138, .iconst 1, 139, 1, 0, 0, 0), (139, .dup2, 140, 0, 0, 0, 0), (140, .iaload, 141, 0, 0, 0, 0), (141, .iconst 1, 142, 1, 0, 0, 0), (142, .iadd, 143, 0, 0, 0, 0), (143, .iastore, 144, 0, 0, 0, 0)],
  [(144, .aload_n 3, 145, 0, 0, 0, 0), (145, .iconst 2, 146, 2, 0, 0, 0), (146, .dup2, 147, 0, 0, 0, 0), (147, .iaload, 148, 0, 0, 0, 0), (148, .iconst 5, 149, 5, 0, 0, 0), (149, .iadd, 150, 0, 0, 0, 0), (150, .iastore, 151, 0, 0, 0, 0), (151, .iload 8, 153, 0, 0, 0, 0), (153, .istore 12, 155, 0, 0, 0, 0), (155, .iload 12, 157, 0, 0, 0, 0), (157, .iload 8, 159, 0, 0, 0, 0), (159, .iload 9, 161, 0, 0, 0, 0)],
  [(161, .iadd, 162, 0, 0, 0, 0), (162, .if_icmp .ge 85, 165, 247, 0, 0, 0), (165, .iconst 5, 166, 5, 0, 0, 0), (166, .aload_n 1, 167, 0, 0, 0, 0), (167, .iload 12, 169, 0, 0, 0, 0), (169, .iaload, 170, 0, 0, 0, 0), (170, .imul, 171, 0, 0, 0, 0), (171, .istore 13, 173, 0, 0, 0, 0), (173, .aload_n 3, 174, 0, 0, 0, 0), (174, .iconst 2, 175, 2, 0, 0, 0), (175, .dup2, 176, 0, 0, 0, 0)],
  [(176, .iaload, 177, 0, 0, 0, 0), (177, .aload_n 0, 178, 0, 0, 0, 0), (178, .iload 13, 180, 0, 0, 0, 0), (180, .iaload, 181, 0, 0, 0, 0), (181, .iadd, 182, 0, 0, 0, 0), (182, .iastore, 183, 0, 0, 0, 0), (183, .iload 11, 185, 0, 0, 0, 0), (185, .ifCond .eq 42, 188, 227, 0, 0, 0), (188, .aload_n 0, 189, 0, 0, 0, 0), (189, .iload 13, 191, 0, 0, 0, 0), (191, .iconst 2, 192, 2, 0, 0, 0)],
  [(192, .iadd, 193, 0, 0, 0, 0), (193, .iaload, 194, 0, 0, 0, 0), (194, .ifCond .ne 33, 197, 227, 0, 0, 0), (197, .aload_n 0, 198, 0, 0, 0, 0), (198, .iload 13, 200, 0, 0, 0, 0), (200, .iconst 3, 201, 3, 0, 0, 0), (201, .iadd, 202, 0, 0, 0, 0), (202, .iaload, 203, 0, 0, 0, 0), (203, .iload 10, 205, 0, 0, 0, 0), (205, .iconst (-1), 206, 1, 1, 0, 0), (206, .ixor, 207, 0, 0, 0, 0), (207, .iand, 208, 0, 0, 0, 0)],
  [(208, .ifCond .ne 19, 211, 227, 0, 0, 0), (211, .aload_n 0, 212, 0, 0, 0, 0), (212, .iload 13, 214, 0, 0, 0, 0), (214, .iconst 4, 215, 4, 0, 0, 0), (215, .iadd, 216, 0, 0, 0, 0), (216, .iaload, 217, 0, 0, 0, 0), (217, .iload 10, 219, 0, 0, 0, 0), (219, .iand, 220, 0, 0, 0, 0), (220, .ifCond .ne 7, 223, 227, 0, 0, 0), (223, .iconst 1, 224, 1, 0, 0, 0)],
  [(224, .goto 4, 227, 228, 0, 0, 0), (227, .iconst 0, 228, 0, 0, 0, 0), (228, .istore 11, 230, 0, 0, 0, 0), (230, .iload 10, 232, 0, 0, 0, 0), (232, .iconst 1, 233, 1, 0, 0, 0), (233, .aload_n 1, 234, 0, 0, 0, 0), (234, .iload 12, 236, 0, 0, 0, 0), (236, .iaload, 237, 0, 0, 0, 0), (237, .ishl, 238, 0, 0, 0, 0), (238, .ior, 239, 0, 0, 0, 0), (239, .istore 10, 241, 0, 0, 0, 0)],
  [(241, .iinc 12 1, 244, 1, 0, 0, 0), (244, .goto (-89), 247, 155, 0, 0, 0), (247, .aload_n 3, 248, 0, 0, 0, 0), (248, .iconst 0, 249, 0, 0, 0, 0), (249, .iload 11, 251, 0, 0, 0, 0), (251, .ifCond .eq 8, 254, 259, 0, 0, 0), (254, .iload 10, 256, 0, 0, 0, 0)],
  [(256, .goto 6, 259, 262, 0, 0, 0), (259, .aload_n 3, 260, 0, 0, 0, 0), (260, .iconst 0, 261, 0, 0, 0, 0), (261, .iaload, 262, 0, 0, 0, 0), (262, .iastore, 263, 0, 0, 0, 0), (263, .iload 11, 265, 0, 0, 0, 0), (265, .ifCond .ne 55, 268, 320, 0, 0, 0), (268, .iload 9, 270, 0, 0, 0, 0), (270, .iconst 1, 271, 1, 0, 0, 0), (271, .if_icmp .le 49, 274, 320, 0, 0, 0)],
  [(274, .aload 6, 276, 0, 0, 0, 0), (276, .iload 7, 278, 0, 0, 0, 0), (278, .bipush 16, 280, 16, 0, 0, 0), (280, .iload 8, 282, 0, 0, 0, 0), (282, .iload 9, 284, 0, 0, 0, 0), (284, .iadd, 285, 0, 0, 0, 0), (285, .iload 9, 287, 0, 0, 0, 0), (287, .iconst 2, 288, 2, 0, 0, 0)],
  [(288, .idiv, 289, 0, 0, 0, 0), (289, .isub, 290, 0, 0, 0, 0), (290, .imul, 291, 0, 0, 0, 0), (291, .iload 9, 293, 0, 0, 0, 0), (293, .iconst 2, 294, 2, 0, 0, 0), (294, .idiv, 295, 0, 0, 0, 0), (295, .iadd, 296, 0, 0, 0, 0), (296, .iastore, 297, 0, 0, 0, 0), (297, .aload 6, 299, 0, 0, 0, 0), (299, .iload 7, 301, 0, 0, 0, 0), (301, .iconst 1, 302, 1, 0, 0, 0), (302, .iadd, 303, 0, 0, 0, 0), (303, .bipush 16, 305, 16, 0, 0, 0)],
  [(305, .iload 8, 307, 0, 0, 0, 0), (307, .imul, 308, 0, 0, 0, 0), (308, .iload 9, 310, 0, 0, 0, 0), (310, .iadd, 311, 0, 0, 0, 0), (311, .iload 9, 313, 0, 0, 0, 0), (313, .iconst 2, 314, 2, 0, 0, 0), (314, .idiv, 315, 0, 0, 0, 0), (315, .isub, 316, 0, 0, 0, 0), (316, .iastore, 317, 0, 0, 0, 0), (317, .iinc 7 2, 320, 2, 0, 0, 0)],
  [(320, .goto (-219), 323, 101, 0, 0, 0), (323, .return_, 324, 0, 0, 0, 0)]]
def i_L_passed : List (List xI) := [[(0, .iconst 0, 1, 0, 0, 0, 0), (1, .istore_n 3, 2, 0, 0, 0, 0), (2, .iconst 0, 3, 0, 0, 0, 0), (3, .istore 4, 5, 0, 0, 0, 0), (5, .iload 4, 7, 0, 0, 0, 0), (7, .iload_n 2, 8, 0, 0, 0, 0), (8, .if_icmp .ge 25, 11, 33, 0, 0, 0), (11, .iload_n 3, 12, 0, 0, 0, 0), (12, .aload_n 1, 13, 0, 0, 0, 0), (13, .iconst 0, 14, 0, 0, 0, 0), (14, .iaload, 15, 0, 0, 0, 0), (15, .aload_n 0, 16, 0, 0, 0, 0)],
  [(16, .iload 4, 18, 0, 0, 0, 0), (18, .iaload, 19, 0, 0, 0, 0), (19, .ishr, 20, 0, 0, 0, 0), (20, .iconst 1, 21, 1, 0, 0, 0), (21, .iand, 22, 0, 0, 0, 0), (22, .iload 4, 24, 0, 0, 0, 0), (24, .ishl, 25, 0, 0, 0, 0), (25, .ior, 26, 0, 0, 0, 0), (26, .istore_n 3, 27, 0, 0, 0, 0), (27, .iinc 4 1, 30, 1, 0, 0, 0), (30, .goto (-25), 33, 5, 0, 0, 0)],
  [(33, .iload_n 3, 34, 0, 0, 0, 0), (34, .ireturn, 35, 0, 0, 0, 0)]]
def i_L_moved : List (List xI) := [[(0, .iload_n 1, 1, 0, 0, 0, 0), (1, .ifCond .ne 11, 4, 12, 0, 0, 0), (4, .aload_n 0, 5, 0, 0, 0, 0), (5, .iload_n 2, 6, 0, 0, 0, 0), (6, .invokevirtual 26, 9, 49, 2, 0, 2), (9, .goto 8, 12, 17, 0, 0, 0), (12, .aload_n 0, 13, 0, 0, 0, 0), (13, .iload_n 2, 14, 0, 0, 0, 0), (14, .invokevirtual 32, 17, 50, 2, 0, 2)],
  [(17, .ireturn, 18, 0, 0, 0, 0), (18, .astore_n 3, 19, 0, 0, 0, 0), (19, .bipush (-5), 21, 5, 1, 0, 0), (21, .ireturn, 22, 0, 0, 0, 0)]]
def i_L_named : List (List xI) := [[(0, .aload_n 0, 1, 0, 0, 0, 0), (1, .iload_n 1, 2, 0, 0, 0, 0), (2, .iload_n 2, 3, 0, 0, 0, 0), (3, .iload_n 3, 4, 0, 0, 0, 0), (4, .invokevirtual 37, 7, 48, 4, 0, 3), (7, .ireturn, 8, 0, 0, 0, 0), (8, .astore 4, 10, 0, 0, 0, 0), (10, .bipush (-5), 12, 5, 1, 0, 0), (12, .ireturn, 13, 0, 0, 0, 0)]]
def i_L_needed : List (List xI) := [[(0, .aload_n 0, 1, 0, 0, 0, 0), (1, .iload_n 1, 2, 0, 0, 0, 0), (2, .iload_n 2, 3, 0, 0, 0, 0), (3, .invokevirtual 41, 6, 53, 3, 0, 3), (6, .ireturn, 7, 0, 0, 0, 0), (7, .astore_n 3, 8, 0, 0, 0, 0), (8, .bipush (-3), 10, 3, 1, 0, 0), (10, .ireturn, 11, 0, 0, 0, 0), (11, .astore_n 3, 12, 0, 0, 0, 0), (12, .bipush (-5), 14, 5, 1, 0, 0), (14, .ireturn, 15, 0, 0, 0, 0)]]
def i_L_broke : List (List xI) := [[(0, .aload_n 0, 1, 0, 0, 0, 0), (1, .iload_n 1, 2, 0, 0, 0, 0), (2, .iload_n 2, 3, 0, 0, 0, 0), (3, .invokevirtual 47, 6, 54, 3, 0, 2), (6, .ifCond .eq 7, 9, 13, 0, 0, 0), (9, .iconst 1, 10, 1, 0, 0, 0), (10, .goto 4, 13, 14, 0, 0, 0), (13, .iconst 0, 14, 0, 0, 0, 0), (14, .ireturn, 15, 0, 0, 0, 0), (15, .astore_n 3, 16, 0, 0, 0, 0)],
  [(16, .bipush (-5), 18, 5, 1, 0, 0), (18, .ireturn, 19, 0, 0, 0, 0)]]
def i_L_clashed : List (List xI) := [[(0, .aload_n 0, 1, 0, 0, 0, 0), (1, .iload_n 1, 2, 0, 0, 0, 0), (2, .iload_n 2, 3, 0, 0, 0, 0), (3, .iload_n 3, 4, 0, 0, 0, 0), (4, .invokevirtual 51, 7, 55, 4, 0, 3), (7, .ifCond .eq 7, 10, 14, 0, 0, 0), (10, .iconst 1, 11, 1, 0, 0, 0), (11, .goto 4, 14, 15, 0, 0, 0), (14, .iconst 0, 15, 0, 0, 0, 0), (15, .ireturn, 16, 0, 0, 0, 0)],
  [(16, .astore 4, 18, 0, 0, 0, 0), (18, .bipush (-3), 20, 3, 1, 0, 0), (20, .ireturn, 21, 0, 0, 0, 0), (21, .astore 4, 23, 0, 0, 0, 0), (23, .bipush (-5), 25, 5, 1, 0, 0), (25, .ireturn, 26, 0, 0, 0, 0)]]
def i_L_did : List (List xI) := [[(0, .iload_n 1, 1, 0, 0, 0, 0), (1, .ifCond .ne 11, 4, 12, 0, 0, 0), (4, .aload_n 0, 5, 0, 0, 0, 0), (5, .iload_n 2, 6, 0, 0, 0, 0), (6, .invokevirtual 55, 9, 56, 2, 0, 2), (9, .goto 8, 12, 17, 0, 0, 0), (12, .aload_n 0, 13, 0, 0, 0, 0), (13, .iload_n 2, 14, 0, 0, 0, 0), (14, .invokevirtual 58, 17, 57, 2, 0, 2)],
  [(17, .ireturn, 18, 0, 0, 0, 0), (18, .astore_n 3, 19, 0, 0, 0, 0), (19, .bipush (-5), 21, 5, 1, 0, 0), (21, .ireturn, 22, 0, 0, 0, 0)]]
def i_L_merged : List (List xI) := [[(0, .aload_n 0, 1, 0, 0, 0, 0), (1, .iload_n 1, 2, 0, 0, 0, 0), (2, .invokevirtual 61, 5, 58, 2, 0, 2), (5, .ireturn, 6, 0, 0, 0, 0), (6, .astore_n 2, 7, 0, 0, 0, 0), (7, .bipush (-5), 9, 5, 1, 0, 0), (9, .ireturn, 10, 0, 0, 0, 0)]]
def i_L_areCards : List (List xI) := [[(0, .aload_n 0, 1, 0, 0, 0, 0), (1, .invokevirtual 64, 4, 66, 1, 0, 0), (4, .aload 4, 6, 0, 0, 0, 0), (6, .iconst 0, 7, 0, 0, 0, 0), (7, .iaload, 8, 0, 0, 0, 0), (8, .if_icmp .ne 18, 11, 26, 0, 0, 0), (11, .aload_n 0, 12, 0, 0, 0, 0), (12, .invokevirtual 68, 15, 67, 1, 0, 0), (15, .aload 4, 17, 0, 0, 0, 0)],
  [(17, .iconst 1, 18, 1, 0, 0, 0), (18, .iaload, 19, 0, 0, 0, 0), (19, .if_icmp .ne 7, 22, 26, 0, 0, 0), (22, .iconst 1, 23, 1, 0, 0, 0), (23, .goto 4, 26, 27, 0, 0, 0), (26, .iconst 0, 27, 0, 0, 0, 0), (27, .istore 6, 29, 0, 0, 0, 0), (29, .iconst 0, 30, 0, 0, 0, 0), (30, .istore 7, 32, 0, 0, 0, 0)],
  [(32, .iload 7, 34, 0, 0, 0, 0), (34, .aload 4, 36, 0, 0, 0, 0), (36, .iconst 0, 37, 0, 0, 0, 0), (37, .iaload, 38, 0, 0, 0, 0), (38, .if_icmp .ge 118, 41, 156, 0, 0, 0), (41, .iload 6, 43, 0, 0, 0, 0), (43, .ifCond .eq 113, 46, 156, 0, 0, 0), (46, .iconst 5, 47, 5, 0, 0, 0), (47, .iload 7, 49, 0, 0, 0, 0)],
  [(49, .imul, 50, 0, 0, 0, 0), (50, .istore 8, 52, 0, 0, 0, 0), (52, .aload_n 0, 53, 0, 0, 0, 0), (53, .iload 7, 55, 0, 0, 0, 0), (55, .invokevirtual 71, 58, 68, 2, 0, 1), (58, .aload_n 2, 59, 0, 0, 0, 0), (59, .iload 8, 61, 0, 0, 0, 0), (61, .iconst 1, 62, 1, 0, 0, 0), (62, .iadd, 63, 0, 0, 0, 0), (63, .iaload, 64, 0, 0, 0, 0)],
  [(64, .if_icmp .ne 83, 67, 147, 0, 0, 0), (67, .aload_n 0, 68, 0, 0, 0, 0), (68, .iload 7, 70, 0, 0, 0, 0), (70, .invokevirtual 74, 73, 71, 2, 0, 1), (73, .aload_n 2, 74, 0, 0, 0, 0), (74, .aload_n 3, 75, 0, 0, 0, 0), (75, .aload 4, 77, 0, 0, 0, 0), (77, .iload 7, 79, 0, 0, 0, 0), (79, .invokestatic 78, 82, 99, 4, 0, 0)],
  [(82, .if_icmp .ne 65, 85, 147, 0, 0, 0), (85, .aload_n 0, 86, 0, 0, 0, 0), (86, .iload 7, 88, 0, 0, 0, 0), (88, .invokevirtual 81, 91, 72, 2, 0, 1), (91, .aload_n 2, 92, 0, 0, 0, 0), (92, .iload 8, 94, 0, 0, 0, 0), (94, .iconst 2, 95, 2, 0, 0, 0), (95, .iadd, 96, 0, 0, 0, 0)],
  [(96, .iaload, 97, 0, 0, 0, 0), (97, .aload_n 3, 98, 0, 0, 0, 0), (98, .aload 4, 100, 0, 0, 0, 0), (100, .iconst 2, 101, 2, 0, 0, 0), (101, .invokestatic 23, 104, 97, 3, 0, 0), (104, .iconst (-1), 105, 1, 1, 0, 0), (105, .ixor, 106, 0, 0, 0, 0), (106, .iand, 107, 0, 0, 0, 0), (107, .invokestatic 84, 110, 98, 1, 0, 0), (110, .if_icmp .ne 37, 113, 147, 0, 0, 0)],
  [(113, .aload_n 0, 114, 0, 0, 0, 0), (114, .iload 7, 116, 0, 0, 0, 0), (116, .invokevirtual 87, 119, 73, 2, 0, 1), (119, .aload_n 2, 120, 0, 0, 0, 0), (120, .iload 8, 122, 0, 0, 0, 0), (122, .iconst 3, 123, 3, 0, 0, 0), (123, .iadd, 124, 0, 0, 0, 0), (124, .iaload, 125, 0, 0, 0, 0), (125, .if_icmp .ne 22, 128, 147, 0, 0, 0)],
  [(128, .aload_n 0, 129, 0, 0, 0, 0), (129, .iload 7, 131, 0, 0, 0, 0), (131, .invokevirtual 90, 134, 74, 2, 0, 1), (134, .aload_n 2, 135, 0, 0, 0, 0), (135, .iload 8, 137, 0, 0, 0, 0), (137, .iconst 4, 138, 4, 0, 0, 0), (138, .iadd, 139, 0, 0, 0, 0), (139, .iaload, 140, 0, 0, 0, 0), (140, .if_icmp .ne 7, 143, 147, 0, 0, 0), (143, .iconst 1, 144, 1, 0, 0, 0)],
  [(144, .goto 4, 147, 148, 0, 0, 0), (147, .iconst 0, 148, 0, 0, 0, 0), (148, .istore 6, 150, 0, 0, 0, 0), (150, .iinc 7 1, 153, 1, 0, 0, 0), (153, .goto (-121), 156, 32, 0, 0, 0), (156, .iconst 0, 157, 0, 0, 0, 0), (157, .istore 7, 159, 0, 0, 0, 0), (159, .iload 7, 161, 0, 0, 0, 0)],
  [(161, .aload 4, 163, 0, 0, 0, 0), (163, .iconst 1, 164, 1, 0, 0, 0), (164, .iaload, 165, 0, 0, 0, 0), (165, .if_icmp .ge 88, 168, 253, 0, 0, 0), (168, .iload 6, 170, 0, 0, 0, 0), (170, .ifCond .eq 83, 173, 253, 0, 0, 0), (173, .iconst 0, 174, 0, 0, 0, 0), (174, .istore 8, 176, 0, 0, 0, 0)],
  [(176, .iconst 0, 177, 0, 0, 0, 0), (177, .istore 9, 179, 0, 0, 0, 0), (179, .iload 9, 181, 0, 0, 0, 0), (181, .aload 4, 183, 0, 0, 0, 0), (183, .iconst 0, 184, 0, 0, 0, 0), (184, .iaload, 185, 0, 0, 0, 0), (185, .if_icmp .ge 27, 188, 212, 0, 0, 0), (188, .iload 8, 190, 0, 0, 0, 0), (190, .aload_n 2, 191, 0, 0, 0, 0), (191, .iconst 5, 192, 5, 0, 0, 0)],
  [(192, .iload 9, 194, 0, 0, 0, 0), (194, .imul, 195, 0, 0, 0, 0), (195, .iconst 2, 196, 2, 0, 0, 0), (196, .iadd, 197, 0, 0, 0, 0), (197, .iaload, 198, 0, 0, 0, 0), (198, .iload 7, 200, 0, 0, 0, 0), (200, .ishr, 201, 0, 0, 0, 0), (201, .iconst 1, 202, 1, 0, 0, 0), (202, .iand, 203, 0, 0, 0, 0), (203, .iadd, 204, 0, 0, 0, 0), (204, .istore 8, 206, 0, 0, 0, 0), (206, .iinc 9 1, 209, 1, 0, 0, 0)],
  [(209, .goto (-30), 212, 179, 0, 0, 0), (212, .aload_n 0, 213, 0, 0, 0, 0), (213, .iload 7, 215, 0, 0, 0, 0), (215, .invokevirtual 93, 218, 75, 2, 0, 1), (218, .aload_n 3, 219, 0, 0, 0, 0), (219, .iconst 5, 220, 5, 0, 0, 0), (220, .iload 7, 222, 0, 0, 0, 0), (222, .imul, 223, 0, 0, 0, 0), (223, .iconst 1, 224, 1, 0, 0, 0)],
  [(224, .iadd, 225, 0, 0, 0, 0), (225, .iaload, 226, 0, 0, 0, 0), (226, .if_icmp .ne 18, 229, 244, 0, 0, 0), (229, .aload_n 0, 230, 0, 0, 0, 0), (230, .iload 7, 232, 0, 0, 0, 0), (232, .invokevirtual 96, 235, 76, 2, 0, 1), (235, .iload 8, 237, 0, 0, 0, 0), (237, .if_icmp .ne 7, 240, 244, 0, 0, 0)],
  [(240, .iconst 1, 241, 1, 0, 0, 0), (241, .goto 4, 244, 245, 0, 0, 0), (244, .iconst 0, 245, 0, 0, 0, 0), (245, .istore 6, 247, 0, 0, 0, 0), (247, .iinc 7 1, 250, 1, 0, 0, 0), (250, .goto (-91), 253, 159, 0, 0, 0), (253, .iload 5, 255, 0, 0, 0, 0), (255, .iconst 5, 256, 5, 0, 0, 0)],
  [(256, .irem, 257, 0, 0, 0, 0), (257, .istore 7, 259, 0, 0, 0, 0), (259, .iconst 0, 260, 0, 0, 0, 0), (260, .istore 8, 262, 0, 0, 0, 0), (262, .bipush 9, 264, 9, 0, 0, 0), (264, .istore 9, 266, 0, 0, 0, 0), (266, .iload 9, 268, 0, 0, 0, 0), (268, .ifCond .lt 90, 271, 358, 0, 0, 0), (271, .iload 6, 273, 0, 0, 0, 0)],
  [(273, .ifCond .eq 85, 276, 358, 0, 0, 0), (276, .iconst 0, 277, 0, 0, 0, 0), (277, .istore 10, 279, 0, 0, 0, 0), (279, .iload 10, 281, 0, 0, 0, 0), (281, .aload 4, 283, 0, 0, 0, 0), (283, .iconst 0, 284, 0, 0, 0, 0), (284, .iaload, 285, 0, 0, 0, 0), (285, .if_icmp .ge 67, 288, 352, 0, 0, 0)],
  [(288, .iload 6, 290, 0, 0, 0, 0), (290, .ifCond .eq 62, 293, 352, 0, 0, 0), (293, .aload_n 2, 294, 0, 0, 0, 0), (294, .iconst 5, 295, 5, 0, 0, 0), (295, .aload_n 1, 296, 0, 0, 0, 0), (296, .iload 10, 298, 0, 0, 0, 0), (298, .iaload, 299, 0, 0, 0, 0), (299, .imul, 300, 0, 0, 0, 0), (300, .iconst 1, 301, 1, 0, 0, 0), (301, .iadd, 302, 0, 0, 0, 0), (302, .iaload, 303, 0, 0, 0, 0), (303, .iload 7, 305, 0, 0, 0, 0)],
  [(305, .if_icmp .ne 41, 308, 346, 0, 0, 0), (308, .aload_n 2, 309, 0, 0, 0, 0), (309, .iconst 5, 310, 5, 0, 0, 0), (310, .aload_n 1, 311, 0, 0, 0, 0), (311, .iload 10, 313, 0, 0, 0, 0), (313, .iaload, 314, 0, 0, 0, 0), (314, .imul, 315, 0, 0, 0, 0), (315, .iaload, 316, 0, 0, 0, 0), (316, .iload 9, 318, 0, 0, 0, 0), (318, .if_icmp .ne 28, 321, 346, 0, 0, 0)],
  [(321, .aload_n 0, 322, 0, 0, 0, 0), (322, .iload 7, 324, 0, 0, 0, 0), (324, .iload 8, 326, 0, 0, 0, 0), (326, .invokevirtual 99, 329, 70, 3, 0, 2), (329, .aload_n 1, 330, 0, 0, 0, 0), (330, .iload 10, 332, 0, 0, 0, 0), (332, .iaload, 333, 0, 0, 0, 0), (333, .if_icmp .ne 7, 336, 340, 0, 0, 0)],
  [(336, .iconst 1, 337, 1, 0, 0, 0), (337, .goto 4, 340, 341, 0, 0, 0), (340, .iconst 0, 341, 0, 0, 0, 0), (341, .istore 6, 343, 0, 0, 0, 0), (343, .iinc 8 1, 346, 1, 0, 0, 0), (346, .iinc 10 1, 349, 1, 0, 0, 0), (349, .goto (-70), 352, 279, 0, 0, 0)],
  [(352, .iinc 9 (-1), 355, 1, 1, 0, 0), (355, .goto (-89), 358, 266, 0, 0, 0), (358, .iload 6, 360, 0, 0, 0, 0), (360, .ifCond .eq 18, 363, 378, 0, 0, 0), (363, .aload_n 0, 364, 0, 0, 0, 0), (364, .iload 7, 366, 0, 0, 0, 0), (366, .invokevirtual 102, 369, 69, 2, 0, 1)],
  [(369, .iload 8, 371, 0, 0, 0, 0), (371, .if_icmp .ne 7, 374, 378, 0, 0, 0), (374, .iconst 1, 375, 1, 0, 0, 0), (375, .goto 4, 378, 379, 0, 0, 0), (378, .iconst 0, 379, 0, 0, 0, 0), (379, .ireturn, 380, 1, 0, 0, 0)]]
def i_L_isQueue : List (List xI) := [[(0, .iconst 3, 1, 3, 0, 0, 0), (1, .newarray .int, 3, 3, 20, 0, 1), (3, .astore 4, 5, 0, 0, 0, 0), (5, .iconst (-1), 6, 1, 1, 0, 0), (6, .istore 5, 8, 0, 0, 0, 0), (8, .iconst 0, 9, 0, 0, 0, 0), (9, .istore 6, 11, 0, 0, 0, 0), (11, .iconst 1, 12, 1, 0, 0, 0), (12, .istore 7, 14, 0, 0, 0, 0), (14, .aload_n 0, 15, 0, 0, 0, 0), (15, .invokevirtual 105, 18, 59, 1, 0, 0)],
  [(18, .aload_n 3, 19, 0, 0, 0, 0), (19, .iconst 2, 20, 2, 0, 0, 0), (20, .iaload, 21, 0, 0, 0, 0), (21, .if_icmp .ne 17, 24, 38, 0, 0, 0), (24, .aload_n 0, 25, 0, 0, 0, 0), (25, .invokevirtual 108, 28, 65, 1, 0, 0), (28, .aload_n 3, 29, 0, 0, 0, 0), (29, .iconst 3, 30, 3, 0, 0, 0), (30, .iaload, 31, 0, 0, 0, 0), (31, .if_icmp .ne 7, 34, 38, 0, 0, 0)],
  [(34, .iconst 1, 35, 1, 0, 0, 0), (35, .goto 4, 38, 39, 0, 0, 0), (38, .iconst 0, 39, 0, 0, 0, 0), (39, .istore 8, 41, 0, 0, 0, 0), (41, .iconst 0, 42, 0, 0, 0, 0), (42, .istore 9, 44, 0, 0, 0, 0), (44, .iload 9, 46, 0, 0, 0, 0), (46, .aload_n 3, 47, 0, 0, 0, 0), (47, .iconst 2, 48, 2, 0, 0, 0)],
  [(48, .iaload, 49, 0, 0, 0, 0), (49, .if_icmp .ge 34, 52, 83, 0, 0, 0), (52, .iload 8, 54, 0, 0, 0, 0), (54, .ifCond .eq 29, 57, 83, 0, 0, 0), (57, .aload_n 0, 58, 0, 0, 0, 0), (58, .iload 9, 60, 0, 0, 0, 0), (60, .invokevirtual 111, 63, 60, 2, 0, 1), (63, .aload_n 2, 64, 0, 0, 0, 0)],
  [(64, .iload 9, 66, 0, 0, 0, 0), (66, .iaload, 67, 0, 0, 0, 0), (67, .if_icmp .ne 7, 70, 74, 0, 0, 0), (70, .iconst 1, 71, 1, 0, 0, 0), (71, .goto 4, 74, 75, 0, 0, 0), (74, .iconst 0, 75, 0, 0, 0, 0), (75, .istore 8, 77, 0, 0, 0, 0), (77, .iinc 9 1, 80, 1, 0, 0, 0)],
  [(80, .goto (-36), 83, 44, 0, 0, 0), (83, .iconst 1, 84, 1, 0, 0, 0), (84, .istore 9, 86, 0, 0, 0, 0), (86, .iload 9, 88, 0, 0, 0, 0), (88, .bipush 8, 90, 8, 0, 0, 0), (90, .if_icmp .gt 209, 93, 299, 0, 0, 0), (93, .iload 9, 95, 0, 0, 0, 0), (95, .aload_n 3, 96, 0, 0, 0, 0)],
  [(96, .iconst 2, 97, 2, 0, 0, 0), (97, .iaload, 98, 0, 0, 0, 0), (98, .if_icmp .gt 201, 101, 299, 0, 0, 0), (101, .iload 8, 103, 0, 0, 0, 0), (103, .ifCond .eq 196, 106, 299, 0, 0, 0), (106, .aload_n 1, 107, 0, 0, 0, 0), (107, .aload_n 2, 108, 0, 0, 0, 0), (108, .aload_n 3, 109, 0, 0, 0, 0), (109, .aload 4, 111, 0, 0, 0, 0), (111, .iload 9, 113, 0, 0, 0, 0)],
  [(113, .iconst 1, 114, 1, 0, 0, 0), (114, .invokestatic 114, 117, 100, 6, 0, 3), (117, .aload_n 0, 118, 0, 0, 0, 0), (118, .iload 9, 120, 0, 0, 0, 0), (120, .invokevirtual 118, 123, 62, 2, 0, 2), (123, .aload_n 2, 124, 0, 0, 0, 0), (124, .aload 4, 126, 0, 0, 0, 0), (126, .iload 9, 128, 0, 0, 0, 0)],
  [(128, .invokestatic 121, 131, 101, 3, 0, 0), (131, .if_icmp .ne 21, 134, 152, 0, 0, 0), (134, .aload_n 0, 135, 0, 0, 0, 0), (135, .iload 9, 137, 0, 0, 0, 0), (137, .iconst 1, 138, 1, 0, 0, 0), (138, .invokevirtual 124, 141, 63, 3, 0, 2), (141, .aload 4, 143, 0, 0, 0, 0), (143, .iconst 2, 144, 2, 0, 0, 0)],
  [(144, .iaload, 145, 0, 0, 0, 0), (145, .if_icmp .ne 7, 148, 152, 0, 0, 0), (148, .iconst 1, 149, 1, 0, 0, 0), (149, .goto 4, 152, 153, 0, 0, 0), (152, .iconst 0, 153, 0, 0, 0, 0), (153, .istore 8, 155, 0, 0, 0, 0), (155, .aload_n 1, 156, 0, 0, 0, 0), (156, .aload_n 2, 157, 0, 0, 0, 0), (157, .aload_n 3, 158, 0, 0, 0, 0), (158, .aload 4, 160, 0, 0, 0, 0)],
  [(160, .iload 9, 162, 0, 0, 0, 0), (162, .iconst 0, 163, 0, 0, 0, 0), (163, .invokestatic 114, 166, 100, 6, 0, 3), (166, .aload_n 2, 167, 0, 0, 0, 0), (167, .aload 4, 169, 0, 0, 0, 0), (169, .iload 9, 171, 0, 0, 0, 0), (171, .invokestatic 121, 174, 101, 3, 0, 0), (174, .invokestatic 84, 177, 98, 1, 0, 0)],
  [(177, .istore 10, 179, 0, 0, 0, 0), (179, .iload 8, 181, 0, 0, 0, 0), (181, .ifCond .eq 38, 184, 219, 0, 0, 0), (184, .aload_n 0, 185, 0, 0, 0, 0), (185, .iload 9, 187, 0, 0, 0, 0), (187, .invokevirtual 128, 190, 61, 2, 0, 2), (190, .aload_n 2, 191, 0, 0, 0, 0), (191, .aload 4, 193, 0, 0, 0, 0)],
  [(193, .iload 9, 195, 0, 0, 0, 0), (195, .invokestatic 121, 198, 101, 3, 0, 0), (198, .if_icmp .ne 21, 201, 219, 0, 0, 0), (201, .aload_n 0, 202, 0, 0, 0, 0), (202, .iload 9, 204, 0, 0, 0, 0), (204, .iconst 0, 205, 0, 0, 0, 0), (205, .invokevirtual 124, 208, 63, 3, 0, 2)],
  [(208, .aload 4, 210, 0, 0, 0, 0), (210, .iconst 2, 211, 2, 0, 0, 0), (211, .iaload, 212, 0, 0, 0, 0), (212, .if_icmp .ne 7, 215, 219, 0, 0, 0), (215, .iconst 1, 216, 1, 0, 0, 0), (216, .goto 4, 219, 220, 0, 0, 0), (219, .iconst 0, 220, 0, 0, 0, 0), (220, .istore 8, 222, 0, 0, 0, 0), (222, .iload 5, 224, 0, 0, 0, 0)],
  [(224, .ifCond .lt 18, 227, 242, 0, 0, 0), (227, .iload 10, 229, 0, 0, 0, 0), (229, .iload 7, 231, 0, 0, 0, 0), (231, .imul, 232, 0, 0, 0, 0), (232, .iload 6, 234, 0, 0, 0, 0), (234, .aload 4, 236, 0, 0, 0, 0), (236, .iconst 2, 237, 2, 0, 0, 0), (237, .iaload, 238, 0, 0, 0, 0), (238, .imul, 239, 0, 0, 0, 0), (239, .if_icmp .le 7, 242, 246, 0, 0, 0)],
  [(242, .iconst 1, 243, 1, 0, 0, 0), (243, .goto 4, 246, 247, 0, 0, 0), (246, .iconst 0, 247, 0, 0, 0, 0), (247, .istore 11, 249, 0, 0, 0, 0), (249, .iload 11, 251, 0, 0, 0, 0), (251, .ifCond .eq 8, 254, 259, 0, 0, 0), (254, .iload 9, 256, 0, 0, 0, 0)],
  [(256, .goto 5, 259, 261, 0, 0, 0), (259, .iload 5, 261, 0, 0, 0, 0), (261, .istore 5, 263, 0, 0, 0, 0), (263, .iload 11, 265, 0, 0, 0, 0), (265, .ifCond .eq 8, 268, 273, 0, 0, 0), (268, .iload 10, 270, 0, 0, 0, 0), (270, .goto 5, 273, 275, 0, 0, 0)],
  [(273, .iload 6, 275, 0, 0, 0, 0), (275, .istore 6, 277, 0, 0, 0, 0), (277, .iload 11, 279, 0, 0, 0, 0), (279, .ifCond .eq 10, 282, 289, 0, 0, 0), (282, .aload 4, 284, 0, 0, 0, 0), (284, .iconst 2, 285, 2, 0, 0, 0), (285, .iaload, 286, 0, 0, 0, 0), (286, .goto 5, 289, 291, 0, 0, 0)],
  [(289, .iload 7, 291, 0, 0, 0, 0), (291, .istore 7, 293, 0, 0, 0, 0), (293, .iinc 9 1, 296, 1, 0, 0, 0), (296, .goto (-210), 299, 86, 0, 0, 0), (299, .iload 8, 301, 0, 0, 0, 0), (301, .ifCond .eq 16, 304, 317, 0, 0, 0)],
  [(304, .aload_n 0, 305, 0, 0, 0, 0), (305, .invokevirtual 131, 308, 64, 1, 0, 0), (308, .iload 5, 310, 0, 0, 0, 0), (310, .if_icmp .ne 7, 313, 317, 0, 0, 0), (313, .iconst 1, 314, 1, 0, 0, 0), (314, .goto 4, 317, 318, 0, 0, 0), (317, .iconst 0, 318, 0, 0, 0, 0), (318, .ireturn, 319, 1, 0, 0, 0)]]
def i_L_isChanged : List (List xI) := [[(0, .iload 6, 2, 0, 0, 0, 0), (2, .ifCond .ne 12, 5, 14, 0, 0, 0), (5, .aload 5, 7, 0, 0, 0, 0), (7, .iconst 1, 8, 1, 0, 0, 0), (8, .iaload, 9, 0, 0, 0, 0), (9, .bipush 12, 11, 12, 0, 0, 0), (11, .if_icmp .lt 10, 14, 21, 0, 0, 0), (14, .aload 5, 16, 0, 0, 0, 0)],
  [(16, .iconst 1, 17, 1, 0, 0, 0), (17, .iaload, 18, 0, 0, 0, 0), (18, .ifCond .ne 53, 21, 71, 0, 0, 0), (21, .iconst 5, 22, 5, 0, 0, 0), (22, .aload 5, 24, 0, 0, 0, 0), (24, .iconst 1, 25, 1, 0, 0, 0), (25, .iaload, 26, 0, 0, 0, 0), (26, .imul, 27, 0, 0, 0, 0), (27, .istore 8, 29, 0, 0, 0, 0), (29, .aload_n 3, 30, 0, 0, 0, 0), (30, .iload 8, 32, 0, 0, 0, 0)],
  [(32, .iconst 1, 33, 1, 0, 0, 0), (33, .iload 7, 35, 0, 0, 0, 0), (35, .bipush 9, 37, 9, 0, 0, 0), (37, .irem, 38, 0, 0, 0, 0), (38, .iadd, 39, 0, 0, 0, 0), (39, .iastore, 40, 0, 0, 0, 0), (40, .aload 5, 42, 0, 0, 0, 0), (42, .iconst 1, 43, 1, 0, 0, 0), (43, .dup2, 44, 0, 0, 0, 0), (44, .iaload, 45, 0, 0, 0, 0), (45, .iconst 1, 46, 1, 0, 0, 0), (46, .iadd, 47, 0, 0, 0, 0), (47, .iastore, 48, 0, 0, 0, 0)],
  [(48, .aload_n 0, 49, 0, 0, 0, 0), (49, .aload_n 3, 50, 0, 0, 0, 0), (50, .iload 8, 52, 0, 0, 0, 0), (52, .iaload, 53, 0, 0, 0, 0), (53, .invokevirtual 134, 56, 52, 2, 0, 2), (56, .aload 5, 58, 0, 0, 0, 0), (58, .iconst 1, 59, 1, 0, 0, 0), (59, .iaload, 60, 0, 0, 0, 0), (60, .iconst 1, 61, 1, 0, 0, 0), (61, .isub, 62, 0, 0, 0, 0), (62, .if_icmp .ne 7, 65, 69, 0, 0, 0)],
  [(65, .iconst 1, 66, 1, 0, 0, 0), (66, .goto 4, 69, 70, 0, 0, 0), (69, .iconst 0, 70, 0, 0, 0, 0), (70, .ireturn, 71, 1, 0, 0, 0), (71, .iload 7, 73, 0, 0, 0, 0), (73, .aload 5, 75, 0, 0, 0, 0), (75, .iconst 1, 76, 1, 0, 0, 0), (76, .iaload, 77, 0, 0, 0, 0), (77, .irem, 78, 0, 0, 0, 0), (78, .istore 8, 80, 0, 0, 0, 0)],
  [(80, .iload 7, 82, 0, 0, 0, 0), (82, .bipush 14, 84, 14, 0, 0, 0), (84, .idiv, 85, 0, 0, 0, 0), (85, .aload 5, 87, 0, 0, 0, 0), (87, .iconst 1, 88, 1, 0, 0, 0), (88, .iaload, 89, 0, 0, 0, 0), (89, .irem, 90, 0, 0, 0, 0), (90, .istore 9, 92, 0, 0, 0, 0), (92, .iconst 5, 93, 5, 0, 0, 0), (93, .iload 8, 95, 0, 0, 0, 0), (95, .imul, 96, 0, 0, 0, 0)],
  [(96, .istore 10, 98, 0, 0, 0, 0), (98, .aload_n 3, 99, 0, 0, 0, 0), (99, .iload 10, 101, 0, 0, 0, 0), (101, .iconst 1, 102, 1, 0, 0, 0), (102, .iadd, 103, 0, 0, 0, 0), (103, .iaload, 104, 0, 0, 0, 0), (104, .istore 11, 106, 0, 0, 0, 0), (106, .iload 7, 108, 0, 0, 0, 0), (108, .sipush 200, 111, 200, 0, 0, 0), (111, .idiv, 112, 0, 0, 0, 0)],
  [(112, .iconst 3, 113, 3, 0, 0, 0), (113, .irem, 114, 0, 0, 0, 0), (114, .ifCond .le 7, 117, 121, 0, 0, 0), (117, .iconst 1, 118, 1, 0, 0, 0), (118, .goto 4, 121, 122, 0, 0, 0), (121, .iconst 0, 122, 0, 0, 0, 0), (122, .istore 12, 124, 0, 0, 0, 0), (124, .iload 6, 126, 0, 0, 0, 0), (126, .iconst 2, 127, 2, 0, 0, 0), (127, .if_icmp .ge 106, 130, 233, 0, 0, 0)],
  [(130, .iload 11, 132, 0, 0, 0, 0), (132, .ifCond .ne 21, 135, 153, 0, 0, 0), (135, .aload_n 3, 136, 0, 0, 0, 0), (136, .iload 10, 138, 0, 0, 0, 0), (138, .iconst 3, 139, 3, 0, 0, 0), (139, .iadd, 140, 0, 0, 0, 0), (140, .iaload, 141, 0, 0, 0, 0), (141, .iload 9, 143, 0, 0, 0, 0), (143, .ishr, 144, 0, 0, 0, 0)],
  [(144, .iconst 1, 145, 1, 0, 0, 0), (145, .iand, 146, 0, 0, 0, 0), (146, .ifCond .ne 7, 149, 153, 0, 0, 0), (149, .iconst 1, 150, 1, 0, 0, 0), (150, .goto 4, 153, 154, 0, 0, 0), (153, .iconst 0, 154, 0, 0, 0, 0), (154, .istore 13, 156, 0, 0, 0, 0), (156, .aload_n 3, 157, 0, 0, 0, 0), (157, .iload 10, 159, 0, 0, 0, 0), (159, .iconst 3, 160, 3, 0, 0, 0)],
  [(160, .iadd, 161, 0, 0, 0, 0), (161, .dup2, 162, 0, 0, 0, 0), (162, .iaload, 163, 0, 0, 0, 0), (163, .iload 9, 165, 0, 0, 0, 0), (165, .iload 8, 167, 0, 0, 0, 0), (167, .if_icmp .ge 15, 170, 182, 0, 0, 0), (170, .iload 13, 172, 0, 0, 0, 0), (172, .ifCond .eq 10, 175, 182, 0, 0, 0), (175, .iconst 1, 176, 1, 0, 0, 0)],
  [(176, .iload 9, 178, 0, 0, 0, 0), (178, .ishl, 179, 0, 0, 0, 0), (179, .goto 4, 182, 183, 0, 0, 0), (182, .iconst 0, 183, 0, 0, 0, 0), (183, .ior, 184, 0, 0, 0, 0), (184, .iastore, 185, 0, 0, 0, 0), (185, .aload_n 0, 186, 0, 0, 0, 0), (186, .iload 8, 188, 0, 0, 0, 0), (188, .iload 9, 190, 0, 0, 0, 0), (190, .invokestatic 137, 193, 104, 3, 0, 3)],
  [(193, .iload 9, 195, 0, 0, 0, 0), (195, .iload 8, 197, 0, 0, 0, 0), (197, .if_icmp .lt 8, 200, 205, 0, 0, 0), (200, .bipush (-3), 202, 3, 1, 0, 0), (202, .goto 22, 205, 224, 0, 0, 0), (205, .iload 13, 207, 0, 0, 0, 0), (207, .ifCond .eq 15, 210, 222, 0, 0, 0)],
  [(210, .aload_n 3, 211, 0, 0, 0, 0), (211, .iload 10, 213, 0, 0, 0, 0), (213, .iconst 3, 214, 3, 0, 0, 0), (214, .iadd, 215, 0, 0, 0, 0), (215, .iaload, 216, 0, 0, 0, 0), (216, .invokestatic 84, 219, 98, 1, 0, 0), (219, .goto 5, 222, 224, 0, 0, 0), (222, .bipush (-5), 224, 5, 1, 0, 0)],
  [(224, .if_icmp .ne 7, 227, 231, 0, 0, 0), (227, .iconst 1, 228, 1, 0, 0, 0), (228, .goto 4, 231, 232, 0, 0, 0), (231, .iconst 0, 232, 0, 0, 0, 0), (232, .ireturn, 233, 1, 0, 0, 0), (233, .iload 6, 235, 0, 0, 0, 0), (235, .iconst 2, 236, 2, 0, 0, 0), (236, .if_icmp .ne 98, 239, 334, 0, 0, 0), (239, .aload_n 3, 240, 0, 0, 0, 0)],
  [(240, .iload 10, 242, 0, 0, 0, 0), (242, .iconst 2, 243, 2, 0, 0, 0), (243, .iadd, 244, 0, 0, 0, 0), (244, .iaload, 245, 0, 0, 0, 0), (245, .istore 13, 247, 0, 0, 0, 0), (247, .aload_n 3, 248, 0, 0, 0, 0), (248, .iload 10, 250, 0, 0, 0, 0), (250, .iconst 2, 251, 2, 0, 0, 0), (251, .iadd, 252, 0, 0, 0, 0), (252, .iload 11, 254, 0, 0, 0, 0), (254, .iconst 2, 255, 2, 0, 0, 0), (255, .if_icmp .ne 8, 258, 263, 0, 0, 0)],
  [(258, .iload 13, 260, 0, 0, 0, 0), (260, .goto 24, 263, 284, 0, 0, 0), (263, .iload 12, 265, 0, 0, 0, 0), (265, .ifCond .eq 18, 268, 283, 0, 0, 0), (268, .iload 7, 270, 0, 0, 0, 0), (270, .sipush 600, 273, 600, 0, 0, 0)],
  [(273, .idiv, 274, 0, 0, 0, 0), (274, .iconst 2, 275, 2, 0, 0, 0), (275, .irem, 276, 0, 0, 0, 0), (276, .ifCond .ne 7, 279, 283, 0, 0, 0), (279, .iconst 1, 280, 1, 0, 0, 0), (280, .goto 4, 283, 284, 0, 0, 0), (283, .iconst 0, 284, 0, 0, 0, 0), (284, .iastore, 285, 0, 0, 0, 0), (285, .aload_n 0, 286, 0, 0, 0, 0), (286, .iload 8, 288, 0, 0, 0, 0)],
  [(288, .iload 12, 290, 0, 0, 0, 0), (290, .ifCond .eq 18, 293, 308, 0, 0, 0), (293, .iload 7, 295, 0, 0, 0, 0), (295, .sipush 600, 298, 600, 0, 0, 0), (298, .idiv, 299, 0, 0, 0, 0), (299, .iconst 2, 300, 2, 0, 0, 0), (300, .irem, 301, 0, 0, 0, 0), (301, .ifCond .ne 7, 304, 308, 0, 0, 0)],
  [(304, .iconst 1, 305, 1, 0, 0, 0), (305, .goto 4, 308, 309, 0, 0, 0), (308, .iconst 0, 309, 0, 0, 0, 0), (309, .invokestatic 141, 312, 105, 3, 0, 2), (312, .iload 11, 314, 0, 0, 0, 0), (314, .iconst 2, 315, 2, 0, 0, 0), (315, .if_icmp .ne 8, 318, 323, 0, 0, 0), (318, .bipush (-5), 320, 5, 1, 0, 0)],
  [(320, .goto 5, 323, 325, 0, 0, 0), (323, .iload 13, 325, 0, 0, 0, 0), (325, .if_icmp .ne 7, 328, 332, 0, 0, 0), (328, .iconst 1, 329, 1, 0, 0, 0), (329, .goto 4, 332, 333, 0, 0, 0), (332, .iconst 0, 333, 0, 0, 0, 0), (333, .ireturn, 334, 1, 0, 0, 0), (334, .iload 6, 336, 0, 0, 0, 0)],
  [(336, .iconst 3, 337, 3, 0, 0, 0), (337, .if_icmp .ne 178, 340, 515, 0, 0, 0), (340, .aload_n 3, 341, 0, 0, 0, 0), (341, .iload 10, 343, 0, 0, 0, 0), (343, .iconst 4, 344, 4, 0, 0, 0), (344, .iadd, 345, 0, 0, 0, 0), (345, .iaload, 346, 0, 0, 0, 0), (346, .iload 9, 348, 0, 0, 0, 0), (348, .ishr, 349, 0, 0, 0, 0), (349, .iconst 1, 350, 1, 0, 0, 0), (350, .iand, 351, 0, 0, 0, 0), (351, .istore 13, 353, 0, 0, 0, 0)],
  [(353, .iload 11, 355, 0, 0, 0, 0), (355, .iconst 2, 356, 2, 0, 0, 0), (356, .if_icmp .ne 19, 359, 375, 0, 0, 0), (359, .aload_n 3, 360, 0, 0, 0, 0), (360, .iconst 5, 361, 5, 0, 0, 0), (361, .iload 9, 363, 0, 0, 0, 0), (363, .imul, 364, 0, 0, 0, 0), (364, .iconst 1, 365, 1, 0, 0, 0), (365, .iadd, 366, 0, 0, 0, 0), (366, .iaload, 367, 0, 0, 0, 0), (367, .iconst 2, 368, 2, 0, 0, 0)],
  [(368, .if_icmp .ne 7, 371, 375, 0, 0, 0), (371, .iconst 1, 372, 1, 0, 0, 0), (372, .goto 4, 375, 376, 0, 0, 0), (375, .iconst 0, 376, 0, 0, 0, 0), (376, .istore 14, 378, 0, 0, 0, 0), (378, .iload 8, 380, 0, 0, 0, 0), (380, .iload 9, 382, 0, 0, 0, 0), (382, .if_icmp .eq 90, 385, 472, 0, 0, 0)],
  [(385, .iload 14, 387, 0, 0, 0, 0), (387, .ifCond .ne 85, 390, 472, 0, 0, 0), (390, .aload_n 3, 391, 0, 0, 0, 0), (391, .iload 10, 393, 0, 0, 0, 0), (393, .iconst 4, 394, 4, 0, 0, 0), (394, .iadd, 395, 0, 0, 0, 0), (395, .iload 12, 397, 0, 0, 0, 0), (397, .ifCond .eq 17, 400, 414, 0, 0, 0)],
  [(400, .aload_n 3, 401, 0, 0, 0, 0), (401, .iload 10, 403, 0, 0, 0, 0), (403, .iconst 4, 404, 4, 0, 0, 0), (404, .iadd, 405, 0, 0, 0, 0), (405, .iaload, 406, 0, 0, 0, 0), (406, .iconst 1, 407, 1, 0, 0, 0), (407, .iload 9, 409, 0, 0, 0, 0), (409, .ishl, 410, 0, 0, 0, 0), (410, .ior, 411, 0, 0, 0, 0), (411, .goto 16, 414, 427, 0, 0, 0), (414, .aload_n 3, 415, 0, 0, 0, 0), (415, .iload 10, 417, 0, 0, 0, 0)],
  [(417, .iconst 4, 418, 4, 0, 0, 0), (418, .iadd, 419, 0, 0, 0, 0), (419, .iaload, 420, 0, 0, 0, 0), (420, .iconst 1, 421, 1, 0, 0, 0), (421, .iload 9, 423, 0, 0, 0, 0), (423, .ishl, 424, 0, 0, 0, 0), (424, .iconst (-1), 425, 1, 1, 0, 0), (425, .ixor, 426, 0, 0, 0, 0), (426, .iand, 427, 0, 0, 0, 0), (427, .iastore, 428, 0, 0, 0, 0), (428, .aload_n 3, 429, 0, 0, 0, 0), (429, .iconst 5, 430, 5, 0, 0, 0), (430, .iload 9, 432, 0, 0, 0, 0)],
  [(432, .imul, 433, 0, 0, 0, 0), (433, .iconst 4, 434, 4, 0, 0, 0), (434, .iadd, 435, 0, 0, 0, 0), (435, .iload 12, 437, 0, 0, 0, 0), (437, .ifCond .eq 19, 440, 456, 0, 0, 0), (440, .aload_n 3, 441, 0, 0, 0, 0), (441, .iconst 5, 442, 5, 0, 0, 0), (442, .iload 9, 444, 0, 0, 0, 0), (444, .imul, 445, 0, 0, 0, 0), (445, .iconst 4, 446, 4, 0, 0, 0), (446, .iadd, 447, 0, 0, 0, 0), (447, .iaload, 448, 0, 0, 0, 0)],
  [(448, .iconst 1, 449, 1, 0, 0, 0), (449, .iload 8, 451, 0, 0, 0, 0), (451, .ishl, 452, 0, 0, 0, 0), (452, .ior, 453, 0, 0, 0, 0), (453, .goto 18, 456, 471, 0, 0, 0), (456, .aload_n 3, 457, 0, 0, 0, 0), (457, .iconst 5, 458, 5, 0, 0, 0), (458, .iload 9, 460, 0, 0, 0, 0), (460, .imul, 461, 0, 0, 0, 0), (461, .iconst 4, 462, 4, 0, 0, 0), (462, .iadd, 463, 0, 0, 0, 0), (463, .iaload, 464, 0, 0, 0, 0)],
  [(464, .iconst 1, 465, 1, 0, 0, 0), (465, .iload 8, 467, 0, 0, 0, 0), (467, .ishl, 468, 0, 0, 0, 0), (468, .iconst (-1), 469, 1, 1, 0, 0), (469, .ixor, 470, 0, 0, 0, 0), (470, .iand, 471, 0, 0, 0, 0), (471, .iastore, 472, 0, 0, 0, 0), (472, .aload_n 0, 473, 0, 0, 0, 0), (473, .iload 8, 475, 0, 0, 0, 0), (475, .iload 9, 477, 0, 0, 0, 0), (477, .iload 12, 479, 0, 0, 0, 0), (479, .invokestatic 145, 482, 106, 4, 0, 3)],
  [(482, .iload 8, 484, 0, 0, 0, 0), (484, .iload 9, 486, 0, 0, 0, 0), (486, .if_icmp .ne 8, 489, 494, 0, 0, 0), (489, .bipush (-3), 491, 3, 1, 0, 0), (491, .goto 15, 494, 506, 0, 0, 0), (494, .iload 14, 496, 0, 0, 0, 0)],
  [(496, .ifCond .eq 8, 499, 504, 0, 0, 0), (499, .bipush (-5), 501, 5, 1, 0, 0), (501, .goto 5, 504, 506, 0, 0, 0), (504, .iload 13, 506, 0, 0, 0, 0), (506, .if_icmp .ne 7, 509, 513, 0, 0, 0), (509, .iconst 1, 510, 1, 0, 0, 0), (510, .goto 4, 513, 514, 0, 0, 0)],
  [(513, .iconst 0, 514, 0, 0, 0, 0), (514, .ireturn, 515, 1, 0, 0, 0), (515, .iconst 0, 516, 0, 0, 0, 0), (516, .istore 13, 518, 0, 0, 0, 0), (518, .iload 13, 520, 0, 0, 0, 0), (520, .aload 5, 522, 0, 0, 0, 0), (522, .iconst 1, 523, 1, 0, 0, 0), (523, .iaload, 524, 0, 0, 0, 0), (524, .if_icmp .ge 42, 527, 566, 0, 0, 0), (527, .aload_n 3, 528, 0, 0, 0, 0)],
  [(528, .iconst 5, 529, 5, 0, 0, 0), (529, .iload 8, 531, 0, 0, 0, 0), (531, .imul, 532, 0, 0, 0, 0), (532, .iconst 1, 533, 1, 0, 0, 0), (533, .iadd, 534, 0, 0, 0, 0), (534, .iaload, 535, 0, 0, 0, 0), (535, .iload 6, 537, 0, 0, 0, 0), (537, .iconst 4, 538, 4, 0, 0, 0), (538, .if_icmp .ne 7, 541, 545, 0, 0, 0), (541, .iconst 3, 542, 3, 0, 0, 0), (542, .goto 4, 545, 546, 0, 0, 0)],
  [(545, .iconst 2, 546, 2, 0, 0, 0), (546, .if_icmp .eq 20, 549, 566, 0, 0, 0), (549, .iload 8, 551, 0, 0, 0, 0), (551, .iconst 1, 552, 1, 0, 0, 0), (552, .iadd, 553, 0, 0, 0, 0), (553, .aload 5, 555, 0, 0, 0, 0), (555, .iconst 1, 556, 1, 0, 0, 0), (556, .iaload, 557, 0, 0, 0, 0), (557, .irem, 558, 0, 0, 0, 0), (558, .istore 8, 560, 0, 0, 0, 0)],
  [(560, .iinc 13 1, 563, 1, 0, 0, 0), (563, .goto (-45), 566, 518, 0, 0, 0), (566, .iconst 5, 567, 5, 0, 0, 0), (567, .iload 8, 569, 0, 0, 0, 0), (569, .imul, 570, 0, 0, 0, 0), (570, .istore 10, 572, 0, 0, 0, 0), (572, .iconst 0, 573, 0, 0, 0, 0), (573, .istore 13, 575, 0, 0, 0, 0), (575, .iload 6, 577, 0, 0, 0, 0)],
  [(577, .iconst 4, 578, 4, 0, 0, 0), (578, .if_icmp .ne 126, 581, 704, 0, 0, 0), (581, .iconst 0, 582, 0, 0, 0, 0), (582, .istore 14, 584, 0, 0, 0, 0), (584, .iload 14, 586, 0, 0, 0, 0), (586, .aload 5, 588, 0, 0, 0, 0), (588, .iconst 0, 589, 0, 0, 0, 0), (589, .iaload, 590, 0, 0, 0, 0), (590, .if_icmp .ge 27, 593, 617, 0, 0, 0)],
  [(593, .iload 13, 595, 0, 0, 0, 0), (595, .aload_n 2, 596, 0, 0, 0, 0), (596, .iconst 5, 597, 5, 0, 0, 0), (597, .iload 14, 599, 0, 0, 0, 0), (599, .imul, 600, 0, 0, 0, 0), (600, .iconst 2, 601, 2, 0, 0, 0), (601, .iadd, 602, 0, 0, 0, 0), (602, .iaload, 603, 0, 0, 0, 0), (603, .iload 8, 605, 0, 0, 0, 0), (605, .ishr, 606, 0, 0, 0, 0), (606, .iconst 1, 607, 1, 0, 0, 0), (607, .iand, 608, 0, 0, 0, 0)],
  [(608, .iadd, 609, 0, 0, 0, 0), (609, .istore 13, 611, 0, 0, 0, 0), (611, .iinc 14 1, 614, 1, 0, 0, 0), (614, .goto (-30), 617, 584, 0, 0, 0), (617, .aload_n 3, 618, 0, 0, 0, 0), (618, .iload 10, 620, 0, 0, 0, 0), (620, .iconst 1, 621, 1, 0, 0, 0), (621, .iadd, 622, 0, 0, 0, 0), (622, .iaload, 623, 0, 0, 0, 0), (623, .iconst 3, 624, 3, 0, 0, 0)],
  [(624, .if_icmp .ne 7, 627, 631, 0, 0, 0), (627, .iconst 1, 628, 1, 0, 0, 0), (628, .goto 4, 631, 632, 0, 0, 0), (631, .iconst 0, 632, 0, 0, 0, 0), (632, .istore 14, 634, 0, 0, 0, 0), (634, .aload_n 3, 635, 0, 0, 0, 0), (635, .iload 10, 637, 0, 0, 0, 0), (637, .iconst 1, 638, 1, 0, 0, 0), (638, .iadd, 639, 0, 0, 0, 0), (639, .iload 14, 641, 0, 0, 0, 0)],
  [(641, .ifCond .eq 7, 644, 648, 0, 0, 0), (644, .iconst 0, 645, 0, 0, 0, 0), (645, .goto 9, 648, 654, 0, 0, 0), (648, .aload_n 3, 649, 0, 0, 0, 0), (649, .iload 10, 651, 0, 0, 0, 0), (651, .iconst 1, 652, 1, 0, 0, 0), (652, .iadd, 653, 0, 0, 0, 0), (653, .iaload, 654, 0, 0, 0, 0), (654, .iastore, 655, 0, 0, 0, 0), (655, .aload_n 3, 656, 0, 0, 0, 0)],
  [(656, .iload 10, 658, 0, 0, 0, 0), (658, .iconst 2, 659, 2, 0, 0, 0), (659, .iadd, 660, 0, 0, 0, 0), (660, .iload 14, 662, 0, 0, 0, 0), (662, .ifCond .eq 7, 665, 669, 0, 0, 0), (665, .iconst 0, 666, 0, 0, 0, 0), (666, .goto 9, 669, 675, 0, 0, 0), (669, .aload_n 3, 670, 0, 0, 0, 0), (670, .iload 10, 672, 0, 0, 0, 0)],
  [(672, .iconst 2, 673, 2, 0, 0, 0), (673, .iadd, 674, 0, 0, 0, 0), (674, .iaload, 675, 0, 0, 0, 0), (675, .iastore, 676, 0, 0, 0, 0), (676, .aload_n 0, 677, 0, 0, 0, 0), (677, .iconst 0, 678, 0, 0, 0, 0), (678, .iload 8, 680, 0, 0, 0, 0), (680, .invokestatic 149, 683, 107, 3, 0, 4), (683, .iload 14, 685, 0, 0, 0, 0), (685, .ifCond .eq 8, 688, 693, 0, 0, 0)],
  [(688, .iload 13, 690, 0, 0, 0, 0), (690, .goto 5, 693, 695, 0, 0, 0), (693, .bipush (-5), 695, 5, 1, 0, 0), (695, .if_icmp .ne 7, 698, 702, 0, 0, 0), (698, .iconst 1, 699, 1, 0, 0, 0), (699, .goto 4, 702, 703, 0, 0, 0), (702, .iconst 0, 703, 0, 0, 0, 0), (703, .ireturn, 704, 1, 0, 0, 0)],
  [(704, .aload_n 3, 705, 0, 0, 0, 0), (705, .iload 10, 707, 0, 0, 0, 0), (707, .iconst 1, 708, 1, 0, 0, 0), (708, .iadd, 709, 0, 0, 0, 0), (709, .iaload, 710, 0, 0, 0, 0), (710, .iconst 2, 711, 2, 0, 0, 0), (711, .if_icmp .ne 7, 714, 718, 0, 0, 0), (714, .iconst 1, 715, 1, 0, 0, 0), (715, .goto 4, 718, 719, 0, 0, 0), (718, .iconst 0, 719, 0, 0, 0, 0), (719, .istore 14, 721, 0, 0, 0, 0)],
  [(721, .iconst 0, 722, 0, 0, 0, 0), (722, .istore 15, 724, 0, 0, 0, 0), (724, .iload 15, 726, 0, 0, 0, 0), (726, .aload 5, 728, 0, 0, 0, 0), (728, .iconst 1, 729, 1, 0, 0, 0), (729, .iaload, 730, 0, 0, 0, 0), (730, .if_icmp .ge 50, 733, 780, 0, 0, 0), (733, .iload 14, 735, 0, 0, 0, 0), (735, .ifCond .eq 36, 738, 771, 0, 0, 0)],
  [(738, .aload_n 3, 739, 0, 0, 0, 0), (739, .iconst 5, 740, 5, 0, 0, 0), (740, .iload 15, 742, 0, 0, 0, 0), (742, .imul, 743, 0, 0, 0, 0), (743, .iconst 1, 744, 1, 0, 0, 0), (744, .iadd, 745, 0, 0, 0, 0), (745, .iaload, 746, 0, 0, 0, 0), (746, .iconst 2, 747, 2, 0, 0, 0), (747, .if_icmp .ne 20, 750, 767, 0, 0, 0), (750, .aload_n 3, 751, 0, 0, 0, 0), (751, .iconst 5, 752, 5, 0, 0, 0)],
  [(752, .iload 15, 754, 0, 0, 0, 0), (754, .imul, 755, 0, 0, 0, 0), (755, .iconst 3, 756, 3, 0, 0, 0), (756, .iadd, 757, 0, 0, 0, 0), (757, .iaload, 758, 0, 0, 0, 0), (758, .iload 8, 760, 0, 0, 0, 0), (760, .ishr, 761, 0, 0, 0, 0), (761, .iconst 1, 762, 1, 0, 0, 0), (762, .iand, 763, 0, 0, 0, 0), (763, .iconst 1, 764, 1, 0, 0, 0), (764, .if_icmp .eq 7, 767, 771, 0, 0, 0), (767, .iconst 1, 768, 1, 0, 0, 0)],
  [(768, .goto 4, 771, 772, 0, 0, 0), (771, .iconst 0, 772, 0, 0, 0, 0), (772, .istore 14, 774, 0, 0, 0, 0), (774, .iinc 15 1, 777, 1, 0, 0, 0), (777, .goto (-53), 780, 724, 0, 0, 0), (780, .aload_n 3, 781, 0, 0, 0, 0), (781, .iload 10, 783, 0, 0, 0, 0), (783, .iconst 1, 784, 1, 0, 0, 0)],
  [(784, .iadd, 785, 0, 0, 0, 0), (785, .iload 14, 787, 0, 0, 0, 0), (787, .ifCond .eq 7, 790, 794, 0, 0, 0), (790, .iconst 0, 791, 0, 0, 0, 0), (791, .goto 9, 794, 800, 0, 0, 0), (794, .aload_n 3, 795, 0, 0, 0, 0), (795, .iload 10, 797, 0, 0, 0, 0), (797, .iconst 1, 798, 1, 0, 0, 0), (798, .iadd, 799, 0, 0, 0, 0), (799, .iaload, 800, 0, 0, 0, 0)],
  [(800, .iastore, 801, 0, 0, 0, 0), (801, .iconst 0, 802, 0, 0, 0, 0), (802, .istore 15, 804, 0, 0, 0, 0), (804, .iload 15, 806, 0, 0, 0, 0), (806, .aload 5, 808, 0, 0, 0, 0), (808, .iconst 0, 809, 0, 0, 0, 0), (809, .iaload, 810, 0, 0, 0, 0), (810, .if_icmp .ge 58, 813, 868, 0, 0, 0), (813, .iload 14, 815, 0, 0, 0, 0), (815, .ifCond .eq 53, 818, 868, 0, 0, 0)],
  [(818, .aload_n 2, 819, 0, 0, 0, 0), (819, .iconst 5, 820, 5, 0, 0, 0), (820, .iload 15, 822, 0, 0, 0, 0), (822, .imul, 823, 0, 0, 0, 0), (823, .iconst 1, 824, 1, 0, 0, 0), (824, .iadd, 825, 0, 0, 0, 0), (825, .iaload, 826, 0, 0, 0, 0), (826, .iconst 2, 827, 2, 0, 0, 0), (827, .if_icmp .le 35, 830, 862, 0, 0, 0), (830, .aload_n 2, 831, 0, 0, 0, 0), (831, .iconst 5, 832, 5, 0, 0, 0)],
  [(832, .iload 15, 834, 0, 0, 0, 0), (834, .imul, 835, 0, 0, 0, 0), (835, .iconst 2, 836, 2, 0, 0, 0), (836, .iadd, 837, 0, 0, 0, 0), (837, .iaload, 838, 0, 0, 0, 0), (838, .iload 8, 840, 0, 0, 0, 0), (840, .ishr, 841, 0, 0, 0, 0), (841, .iconst 1, 842, 1, 0, 0, 0), (842, .iand, 843, 0, 0, 0, 0), (843, .iconst 1, 844, 1, 0, 0, 0), (844, .if_icmp .ne 18, 847, 862, 0, 0, 0), (847, .aload_n 1, 848, 0, 0, 0, 0)],
  [(848, .aload_n 2, 849, 0, 0, 0, 0), (849, .aload_n 3, 850, 0, 0, 0, 0), (850, .aload 4, 852, 0, 0, 0, 0), (852, .aload 5, 854, 0, 0, 0, 0), (854, .iload 15, 856, 0, 0, 0, 0), (856, .invokestatic 152, 859, 96, 6, 0, 0), (859, .iinc 13 1, 862, 1, 0, 0, 0), (862, .iinc 15 1, 865, 1, 0, 0, 0)],
  [(865, .goto (-61), 868, 804, 0, 0, 0), (868, .aload_n 0, 869, 0, 0, 0, 0), (869, .iconst 1, 870, 1, 0, 0, 0), (870, .iload 8, 872, 0, 0, 0, 0), (872, .invokestatic 149, 875, 107, 3, 0, 4), (875, .iload 14, 877, 0, 0, 0, 0), (877, .ifCond .eq 8, 880, 885, 0, 0, 0)],
  [(880, .iload 13, 882, 0, 0, 0, 0), (882, .goto 5, 885, 887, 0, 0, 0), (885, .bipush (-5), 887, 5, 1, 0, 0), (887, .if_icmp .ne 7, 890, 894, 0, 0, 0), (890, .iconst 1, 891, 1, 0, 0, 0), (891, .goto 4, 894, 895, 0, 0, 0), (894, .iconst 0, 895, 0, 0, 0, 0), (895, .ireturn, 896, 1, 0, 0, 0)]]
def i_L_isMerged : List (List xI) := [[(0, .iconst 3, 1, 3, 0, 0, 0), (1, .newarray .int, 3, 3, 20, 0, 1), (3, .astore 7, 5, 0, 0, 0, 0), (5, .iconst 1, 6, 1, 0, 0, 0), (6, .iload 6, 8, 0, 0, 0, 0), (8, .bipush 8, 10, 8, 0, 0, 0), (10, .irem, 11, 0, 0, 0, 0), (11, .iadd, 12, 0, 0, 0, 0), (12, .istore 8, 14, 0, 0, 0, 0), (14, .iload 8, 16, 0, 0, 0, 0)],
  [(16, .aload 5, 18, 0, 0, 0, 0), (18, .iconst 2, 19, 2, 0, 0, 0), (19, .iaload, 20, 0, 0, 0, 0), (20, .if_icmp .le 40, 23, 60, 0, 0, 0), (23, .iload 6, 25, 0, 0, 0, 0), (25, .bipush 8, 27, 8, 0, 0, 0), (27, .idiv, 28, 0, 0, 0, 0), (28, .iconst 4, 29, 4, 0, 0, 0), (29, .irem, 30, 0, 0, 0, 0), (30, .ifCond .le 30, 33, 60, 0, 0, 0)],
  [(33, .aload 5, 35, 0, 0, 0, 0), (35, .iconst 2, 36, 2, 0, 0, 0), (36, .iaload, 37, 0, 0, 0, 0), (37, .ifCond .le 23, 40, 60, 0, 0, 0), (40, .aload 5, 42, 0, 0, 0, 0), (42, .iconst 2, 43, 2, 0, 0, 0), (43, .iaload, 44, 0, 0, 0, 0), (44, .bipush 8, 46, 8, 0, 0, 0), (46, .if_icmp .le 8, 49, 54, 0, 0, 0)],
  [(49, .bipush 8, 51, 8, 0, 0, 0), (51, .goto 7, 54, 58, 0, 0, 0), (54, .aload 5, 56, 0, 0, 0, 0), (56, .iconst 2, 57, 2, 0, 0, 0), (57, .iaload, 58, 0, 0, 0, 0), (58, .istore 8, 60, 0, 0, 0, 0), (60, .iload 8, 62, 0, 0, 0, 0), (62, .aload 5, 64, 0, 0, 0, 0)],
  [(64, .iconst 2, 65, 2, 0, 0, 0), (65, .iaload, 66, 0, 0, 0, 0), (66, .if_icmp .le 20, 69, 86, 0, 0, 0), (69, .aload_n 0, 70, 0, 0, 0, 0), (70, .iload 8, 72, 0, 0, 0, 0), (72, .invokestatic 155, 75, 108, 2, 0, 2), (75, .bipush (-5), 77, 5, 1, 0, 0), (77, .if_icmp .ne 7, 80, 84, 0, 0, 0)],
  [(80, .iconst 1, 81, 1, 0, 0, 0), (81, .goto 4, 84, 85, 0, 0, 0), (84, .iconst 0, 85, 0, 0, 0, 0), (85, .ireturn, 86, 1, 0, 0, 0), (86, .aload_n 3, 87, 0, 0, 0, 0), (87, .aload 4, 89, 0, 0, 0, 0), (89, .aload 5, 91, 0, 0, 0, 0), (91, .aload 7, 93, 0, 0, 0, 0), (93, .iload 8, 95, 0, 0, 0, 0), (95, .iconst 0, 96, 0, 0, 0, 0)],
  [(96, .invokestatic 114, 99, 100, 6, 0, 3), (99, .aload 5, 101, 0, 0, 0, 0), (101, .iconst 3, 102, 3, 0, 0, 0), (102, .dup2, 103, 0, 0, 0, 0), (103, .iaload, 104, 0, 0, 0, 0), (104, .aload 7, 106, 0, 0, 0, 0), (106, .iconst 2, 107, 2, 0, 0, 0), (107, .iaload, 108, 0, 0, 0, 0), (108, .iadd, 109, 0, 0, 0, 0), (109, .iastore, 110, 0, 0, 0, 0), (110, .iconst 0, 111, 0, 0, 0, 0), (111, .istore 9, 113, 0, 0, 0, 0)],
  [(113, .iload 9, 115, 0, 0, 0, 0), (115, .iload 8, 117, 0, 0, 0, 0), (117, .if_icmp .ge 41, 120, 158, 0, 0, 0), (120, .aload_n 3, 121, 0, 0, 0, 0), (121, .iconst 5, 122, 5, 0, 0, 0), (122, .aload 4, 124, 0, 0, 0, 0), (124, .iload 9, 126, 0, 0, 0, 0), (126, .iaload, 127, 0, 0, 0, 0), (127, .imul, 128, 0, 0, 0, 0)],
  [(128, .iconst 1, 129, 1, 0, 0, 0), (129, .iadd, 130, 0, 0, 0, 0), (130, .aload 7, 132, 0, 0, 0, 0), (132, .iconst 0, 133, 0, 0, 0, 0), (133, .iaload, 134, 0, 0, 0, 0), (134, .aload 4, 136, 0, 0, 0, 0), (136, .iload 9, 138, 0, 0, 0, 0), (138, .iaload, 139, 0, 0, 0, 0), (139, .ishr, 140, 0, 0, 0, 0), (140, .iconst 1, 141, 1, 0, 0, 0), (141, .iand, 142, 0, 0, 0, 0), (142, .iconst 1, 143, 1, 0, 0, 0), (143, .if_icmp .ne 7, 146, 150, 0, 0, 0)],
  [(146, .iconst 2, 147, 2, 0, 0, 0), (147, .goto 4, 150, 151, 0, 0, 0), (150, .iconst 3, 151, 3, 0, 0, 0), (151, .iastore, 152, 0, 0, 0, 0), (152, .iinc 9 1, 155, 1, 0, 0, 0), (155, .goto (-42), 158, 113, 0, 0, 0), (158, .iload 8, 160, 0, 0, 0, 0)],
  [(160, .istore 9, 162, 0, 0, 0, 0), (162, .iload 9, 164, 0, 0, 0, 0), (164, .aload 5, 166, 0, 0, 0, 0), (166, .iconst 2, 167, 2, 0, 0, 0), (167, .iaload, 168, 0, 0, 0, 0), (168, .if_icmp .ge 22, 171, 190, 0, 0, 0), (171, .aload 4, 173, 0, 0, 0, 0), (173, .iload 9, 175, 0, 0, 0, 0), (175, .iload 8, 177, 0, 0, 0, 0)],
  [(177, .isub, 178, 0, 0, 0, 0), (178, .aload 4, 180, 0, 0, 0, 0), (180, .iload 9, 182, 0, 0, 0, 0), (182, .iaload, 183, 0, 0, 0, 0), (183, .iastore, 184, 0, 0, 0, 0), (184, .iinc 9 1, 187, 1, 0, 0, 0), (187, .goto (-25), 190, 162, 0, 0, 0), (190, .aload 5, 192, 0, 0, 0, 0)],
  [(192, .iconst 2, 193, 2, 0, 0, 0), (193, .dup2, 194, 0, 0, 0, 0), (194, .iaload, 195, 0, 0, 0, 0), (195, .iload 8, 197, 0, 0, 0, 0), (197, .isub, 198, 0, 0, 0, 0), (198, .iastore, 199, 0, 0, 0, 0), (199, .aload_n 3, 200, 0, 0, 0, 0), (200, .aload 5, 202, 0, 0, 0, 0), (202, .iconst 3, 203, 3, 0, 0, 0), (203, .invokestatic 23, 206, 97, 3, 0, 0), (206, .istore 9, 208, 0, 0, 0, 0)],
  [(208, .aload_n 3, 209, 0, 0, 0, 0), (209, .aload 5, 211, 0, 0, 0, 0), (211, .iconst 2, 212, 2, 0, 0, 0), (212, .invokestatic 23, 215, 97, 3, 0, 0), (215, .istore 10, 217, 0, 0, 0, 0), (217, .iconst 0, 218, 0, 0, 0, 0), (218, .istore 11, 220, 0, 0, 0, 0), (220, .iload 11, 222, 0, 0, 0, 0), (222, .aload 5, 224, 0, 0, 0, 0)],
  [(224, .iconst 0, 225, 0, 0, 0, 0), (225, .iaload, 226, 0, 0, 0, 0), (226, .if_icmp .ge 47, 229, 273, 0, 0, 0), (229, .aload_n 2, 230, 0, 0, 0, 0), (230, .iconst 5, 231, 5, 0, 0, 0), (231, .iload 11, 233, 0, 0, 0, 0), (233, .imul, 234, 0, 0, 0, 0), (234, .iconst 1, 235, 1, 0, 0, 0), (235, .iadd, 236, 0, 0, 0, 0), (236, .iaload, 237, 0, 0, 0, 0), (237, .iconst 3, 238, 3, 0, 0, 0), (238, .if_icmp .ne 29, 241, 267, 0, 0, 0)],
  [(241, .aload_n 2, 242, 0, 0, 0, 0), (242, .iconst 5, 243, 5, 0, 0, 0), (243, .iload 11, 245, 0, 0, 0, 0), (245, .imul, 246, 0, 0, 0, 0), (246, .iconst 2, 247, 2, 0, 0, 0), (247, .iadd, 248, 0, 0, 0, 0), (248, .iaload, 249, 0, 0, 0, 0), (249, .iload 9, 251, 0, 0, 0, 0), (251, .iand, 252, 0, 0, 0, 0), (252, .ifCond .eq 15, 255, 267, 0, 0, 0), (255, .aload_n 1, 256, 0, 0, 0, 0)],
  [(256, .aload_n 2, 257, 0, 0, 0, 0), (257, .aload_n 3, 258, 0, 0, 0, 0), (258, .aload 4, 260, 0, 0, 0, 0), (260, .aload 5, 262, 0, 0, 0, 0), (262, .iload 11, 264, 0, 0, 0, 0), (264, .invokestatic 152, 267, 96, 6, 0, 0), (267, .iinc 11 1, 270, 1, 0, 0, 0), (270, .goto (-50), 273, 220, 0, 0, 0)],
  [(273, .iconst 0, 274, 0, 0, 0, 0), (274, .istore 11, 276, 0, 0, 0, 0), (276, .iload 11, 278, 0, 0, 0, 0), (278, .aload 5, 280, 0, 0, 0, 0), (280, .iconst 0, 281, 0, 0, 0, 0), (281, .iaload, 282, 0, 0, 0, 0), (282, .if_icmp .ge 50, 285, 332, 0, 0, 0), (285, .aload_n 2, 286, 0, 0, 0, 0), (286, .iconst 5, 287, 5, 0, 0, 0), (287, .iload 11, 289, 0, 0, 0, 0)],
  [(289, .imul, 290, 0, 0, 0, 0), (290, .iconst 1, 291, 1, 0, 0, 0), (291, .iadd, 292, 0, 0, 0, 0), (292, .iaload, 293, 0, 0, 0, 0), (293, .iconst 3, 294, 3, 0, 0, 0), (294, .if_icmp .ne 32, 297, 326, 0, 0, 0), (297, .aload_n 2, 298, 0, 0, 0, 0), (298, .iconst 5, 299, 5, 0, 0, 0), (299, .iload 11, 301, 0, 0, 0, 0), (301, .imul, 302, 0, 0, 0, 0), (302, .iconst 2, 303, 2, 0, 0, 0), (303, .iadd, 304, 0, 0, 0, 0)],
  [(304, .iaload, 305, 0, 0, 0, 0), (305, .iload 10, 307, 0, 0, 0, 0), (307, .iconst (-1), 308, 1, 1, 0, 0), (308, .ixor, 309, 0, 0, 0, 0), (309, .iand, 310, 0, 0, 0, 0), (310, .ifCond .ne 16, 313, 326, 0, 0, 0), (313, .aload_n 1, 314, 0, 0, 0, 0), (314, .aload_n 2, 315, 0, 0, 0, 0), (315, .aload_n 3, 316, 0, 0, 0, 0), (316, .aload 4, 318, 0, 0, 0, 0), (318, .aload 5, 320, 0, 0, 0, 0)],
  [(320, .iload 11, 322, 0, 0, 0, 0), (322, .iconst 4, 323, 4, 0, 0, 0), (323, .invokestatic 15, 326, 93, 7, 0, 0), (326, .iinc 11 1, 329, 1, 0, 0, 0), (329, .goto (-53), 332, 276, 0, 0, 0), (332, .aload_n 0, 333, 0, 0, 0, 0), (333, .iload 8, 335, 0, 0, 0, 0), (335, .invokestatic 155, 338, 108, 2, 0, 2)],
  [(338, .aload 7, 340, 0, 0, 0, 0), (340, .iconst 1, 341, 1, 0, 0, 0), (341, .iaload, 342, 0, 0, 0, 0), (342, .if_icmp .ne 7, 345, 349, 0, 0, 0), (345, .iconst 1, 346, 1, 0, 0, 0), (346, .goto 4, 349, 350, 0, 0, 0), (349, .iconst 0, 350, 0, 0, 0, 0), (350, .ireturn, 351, 1, 0, 0, 0)]]
def i_L_acts : List (List xI) := [[(0, .iload 6, 2, 0, 0, 0, 0), (2, .ifCond .ne 12, 5, 14, 0, 0, 0), (5, .aload 5, 7, 0, 0, 0, 0), (7, .iconst 0, 8, 0, 0, 0, 0), (8, .iaload, 9, 0, 0, 0, 0), (9, .bipush 10, 11, 10, 0, 0, 0), (11, .if_icmp .lt 10, 14, 21, 0, 0, 0), (14, .aload 5, 16, 0, 0, 0, 0)],
  [(16, .iconst 0, 17, 0, 0, 0, 0), (17, .iaload, 18, 0, 0, 0, 0), (18, .ifCond .ne 58, 21, 76, 0, 0, 0), (21, .aload_n 2, 22, 0, 0, 0, 0), (22, .iconst 5, 23, 5, 0, 0, 0), (23, .aload 5, 25, 0, 0, 0, 0), (25, .iconst 0, 26, 0, 0, 0, 0), (26, .iaload, 27, 0, 0, 0, 0), (27, .imul, 28, 0, 0, 0, 0), (28, .iload 7, 30, 0, 0, 0, 0), (30, .bipush 10, 32, 10, 0, 0, 0)],
  [(32, .irem, 33, 0, 0, 0, 0), (33, .iastore, 34, 0, 0, 0, 0), (34, .aload_n 1, 35, 0, 0, 0, 0), (35, .aload 5, 37, 0, 0, 0, 0), (37, .iconst 0, 38, 0, 0, 0, 0), (38, .iaload, 39, 0, 0, 0, 0), (39, .aload 5, 41, 0, 0, 0, 0), (41, .iconst 0, 42, 0, 0, 0, 0), (42, .iaload, 43, 0, 0, 0, 0), (43, .iastore, 44, 0, 0, 0, 0), (44, .aload 5, 46, 0, 0, 0, 0), (46, .iconst 0, 47, 0, 0, 0, 0), (47, .dup2, 48, 0, 0, 0, 0)],
  [(48, .iaload, 49, 0, 0, 0, 0), (49, .iconst 1, 50, 1, 0, 0, 0), (50, .iadd, 51, 0, 0, 0, 0), (51, .iastore, 52, 0, 0, 0, 0), (52, .aload_n 0, 53, 0, 0, 0, 0), (53, .iload 7, 55, 0, 0, 0, 0), (55, .bipush 10, 57, 10, 0, 0, 0), (57, .irem, 58, 0, 0, 0, 0), (58, .invokevirtual 159, 61, 47, 2, 0, 2), (61, .aload 5, 63, 0, 0, 0, 0), (63, .iconst 0, 64, 0, 0, 0, 0)],
  [(64, .iaload, 65, 0, 0, 0, 0), (65, .iconst 1, 66, 1, 0, 0, 0), (66, .isub, 67, 0, 0, 0, 0), (67, .if_icmp .ne 7, 70, 74, 0, 0, 0), (70, .iconst 1, 71, 1, 0, 0, 0), (71, .goto 4, 74, 75, 0, 0, 0), (74, .iconst 0, 75, 0, 0, 0, 0), (75, .ireturn, 76, 1, 0, 0, 0), (76, .iload 6, 78, 0, 0, 0, 0), (78, .iconst 4, 79, 4, 0, 0, 0), (79, .if_icmp .ge 31, 82, 110, 0, 0, 0)],
  [(82, .aload_n 0, 83, 0, 0, 0, 0), (83, .aload_n 1, 84, 0, 0, 0, 0), (84, .aload_n 2, 85, 0, 0, 0, 0), (85, .aload_n 3, 86, 0, 0, 0, 0), (86, .aload 4, 88, 0, 0, 0, 0), (88, .aload 5, 90, 0, 0, 0, 0), (90, .iload 6, 92, 0, 0, 0, 0), (92, .iconst 2, 93, 2, 0, 0, 0), (93, .if_icmp .ge 7, 96, 100, 0, 0, 0)],
  [(96, .iconst 0, 97, 0, 0, 0, 0), (97, .goto 7, 100, 104, 0, 0, 0), (100, .iload 6, 102, 0, 0, 0, 0), (102, .iconst 2, 103, 2, 0, 0, 0), (103, .isub, 104, 0, 0, 0, 0), (104, .iload 7, 106, 0, 0, 0, 0), (106, .invokestatic 162, 109, 111, 8, 0, 18), (109, .ireturn, 110, 1, 0, 0, 0), (110, .iload 7, 112, 0, 0, 0, 0)],
  [(112, .aload 5, 114, 0, 0, 0, 0), (114, .iconst 0, 115, 0, 0, 0, 0), (115, .iaload, 116, 0, 0, 0, 0), (116, .irem, 117, 0, 0, 0, 0), (117, .istore 8, 119, 0, 0, 0, 0), (119, .iconst 5, 120, 5, 0, 0, 0), (120, .iload 8, 122, 0, 0, 0, 0), (122, .imul, 123, 0, 0, 0, 0), (123, .istore 9, 125, 0, 0, 0, 0), (125, .iload 6, 127, 0, 0, 0, 0), (127, .bipush 9, 129, 9, 0, 0, 0)],
  [(129, .if_icmp .ge 147, 132, 276, 0, 0, 0), (132, .aload 5, 134, 0, 0, 0, 0), (134, .iconst 1, 135, 1, 0, 0, 0), (135, .iaload, 136, 0, 0, 0, 0), (136, .ifCond .le 140, 139, 276, 0, 0, 0), (139, .iload 7, 141, 0, 0, 0, 0), (141, .bipush 10, 143, 10, 0, 0, 0), (143, .idiv, 144, 0, 0, 0, 0)],
  [(144, .aload 5, 146, 0, 0, 0, 0), (146, .iconst 1, 147, 1, 0, 0, 0), (147, .iaload, 148, 0, 0, 0, 0), (148, .irem, 149, 0, 0, 0, 0), (149, .istore 10, 151, 0, 0, 0, 0), (151, .iload 7, 153, 0, 0, 0, 0), (153, .sipush 140, 156, 140, 0, 0, 0), (156, .idiv, 157, 0, 0, 0, 0), (157, .iconst 5, 158, 5, 0, 0, 0), (158, .irem, 159, 0, 0, 0, 0), (159, .ifCond .le 7, 162, 166, 0, 0, 0)],
  [(162, .iconst 1, 163, 1, 0, 0, 0), (163, .goto 4, 166, 167, 0, 0, 0), (166, .iconst 0, 167, 0, 0, 0, 0), (167, .istore 11, 169, 0, 0, 0, 0), (169, .aload_n 2, 170, 0, 0, 0, 0), (170, .iload 9, 172, 0, 0, 0, 0), (172, .iconst 1, 173, 1, 0, 0, 0), (173, .iadd, 174, 0, 0, 0, 0), (174, .iaload, 175, 0, 0, 0, 0), (175, .iconst 2, 176, 2, 0, 0, 0)],
  [(176, .if_icmp .ge 7, 179, 183, 0, 0, 0), (179, .iconst 1, 180, 1, 0, 0, 0), (180, .goto 4, 183, 184, 0, 0, 0), (183, .iconst 0, 184, 0, 0, 0, 0), (184, .istore 12, 186, 0, 0, 0, 0), (186, .aload_n 2, 187, 0, 0, 0, 0), (187, .iload 9, 189, 0, 0, 0, 0), (189, .iconst 2, 190, 2, 0, 0, 0), (190, .iadd, 191, 0, 0, 0, 0), (191, .iload 12, 193, 0, 0, 0, 0)],
  [(193, .ifCond .ne 12, 196, 205, 0, 0, 0), (196, .aload_n 2, 197, 0, 0, 0, 0), (197, .iload 9, 199, 0, 0, 0, 0), (199, .iconst 2, 200, 2, 0, 0, 0), (200, .iadd, 201, 0, 0, 0, 0), (201, .iaload, 202, 0, 0, 0, 0), (202, .goto 35, 205, 237, 0, 0, 0), (205, .iload 11, 207, 0, 0, 0, 0), (207, .ifCond .eq 17, 210, 224, 0, 0, 0)],
  [(210, .aload_n 2, 211, 0, 0, 0, 0), (211, .iload 9, 213, 0, 0, 0, 0), (213, .iconst 2, 214, 2, 0, 0, 0), (214, .iadd, 215, 0, 0, 0, 0), (215, .iaload, 216, 0, 0, 0, 0), (216, .iconst 1, 217, 1, 0, 0, 0), (217, .iload 10, 219, 0, 0, 0, 0), (219, .ishl, 220, 0, 0, 0, 0), (220, .ior, 221, 0, 0, 0, 0), (221, .goto 16, 224, 237, 0, 0, 0)],
  [(224, .aload_n 2, 225, 0, 0, 0, 0), (225, .iload 9, 227, 0, 0, 0, 0), (227, .iconst 2, 228, 2, 0, 0, 0), (228, .iadd, 229, 0, 0, 0, 0), (229, .iaload, 230, 0, 0, 0, 0), (230, .iconst 1, 231, 1, 0, 0, 0), (231, .iload 10, 233, 0, 0, 0, 0), (233, .ishl, 234, 0, 0, 0, 0), (234, .iconst (-1), 235, 1, 1, 0, 0), (235, .ixor, 236, 0, 0, 0, 0), (236, .iand, 237, 0, 0, 0, 0), (237, .iastore, 238, 0, 0, 0, 0), (238, .aload_n 0, 239, 0, 0, 0, 0), (239, .iload 8, 241, 0, 0, 0, 0)],
  [(241, .iload 10, 243, 0, 0, 0, 0), (243, .iload 11, 245, 0, 0, 0, 0), (245, .invokestatic 166, 248, 103, 4, 0, 3), (248, .iload 12, 250, 0, 0, 0, 0), (250, .ifCond .eq 15, 253, 265, 0, 0, 0), (253, .aload_n 2, 254, 0, 0, 0, 0), (254, .iload 9, 256, 0, 0, 0, 0)],
  [(256, .iconst 2, 257, 2, 0, 0, 0), (257, .iadd, 258, 0, 0, 0, 0), (258, .iaload, 259, 0, 0, 0, 0), (259, .invokestatic 84, 262, 98, 1, 0, 0), (262, .goto 5, 265, 267, 0, 0, 0), (265, .bipush (-5), 267, 5, 1, 0, 0), (267, .if_icmp .ne 7, 270, 274, 0, 0, 0), (270, .iconst 1, 271, 1, 0, 0, 0), (271, .goto 4, 274, 275, 0, 0, 0)],
  [(274, .iconst 0, 275, 0, 0, 0, 0), (275, .ireturn, 276, 1, 0, 0, 0), (276, .iload 6, 278, 0, 0, 0, 0), (278, .bipush 18, 280, 18, 0, 0, 0), (280, .if_icmp .ge 193, 283, 473, 0, 0, 0), (283, .aload_n 2, 284, 0, 0, 0, 0), (284, .aload_n 3, 285, 0, 0, 0, 0), (285, .aload 5, 287, 0, 0, 0, 0), (287, .iload 8, 289, 0, 0, 0, 0)],
  [(289, .invokestatic 78, 292, 99, 4, 0, 0), (292, .istore 10, 294, 0, 0, 0, 0), (294, .iload 10, 296, 0, 0, 0, 0), (296, .ifCond .eq 145, 299, 441, 0, 0, 0), (299, .aload_n 1, 300, 0, 0, 0, 0), (300, .aload_n 2, 301, 0, 0, 0, 0), (301, .aload_n 3, 302, 0, 0, 0, 0), (302, .aload 4, 304, 0, 0, 0, 0)],
  [(304, .aload 5, 306, 0, 0, 0, 0), (306, .iload 8, 308, 0, 0, 0, 0), (308, .aload_n 2, 309, 0, 0, 0, 0), (309, .iload 9, 311, 0, 0, 0, 0), (311, .iconst 1, 312, 1, 0, 0, 0), (312, .iadd, 313, 0, 0, 0, 0), (313, .iaload, 314, 0, 0, 0, 0), (314, .iconst 1, 315, 1, 0, 0, 0), (315, .iadd, 316, 0, 0, 0, 0), (316, .invokestatic 15, 319, 93, 7, 0, 0), (319, .iconst 0, 320, 0, 0, 0, 0)],
  [(320, .istore 11, 322, 0, 0, 0, 0), (322, .iload 11, 324, 0, 0, 0, 0), (324, .aload 5, 326, 0, 0, 0, 0), (326, .iconst 1, 327, 1, 0, 0, 0), (327, .iaload, 328, 0, 0, 0, 0), (328, .if_icmp .ge 71, 331, 399, 0, 0, 0), (331, .aload_n 2, 332, 0, 0, 0, 0), (332, .iload 9, 334, 0, 0, 0, 0), (334, .iconst 1, 335, 1, 0, 0, 0), (335, .iadd, 336, 0, 0, 0, 0)],
  [(336, .iaload, 337, 0, 0, 0, 0), (337, .iconst 3, 338, 3, 0, 0, 0), (338, .if_icmp .ne 61, 341, 399, 0, 0, 0), (341, .aload_n 2, 342, 0, 0, 0, 0), (342, .iload 9, 344, 0, 0, 0, 0), (344, .iconst 2, 345, 2, 0, 0, 0), (345, .iadd, 346, 0, 0, 0, 0), (346, .iaload, 347, 0, 0, 0, 0), (347, .iload 11, 349, 0, 0, 0, 0), (349, .ishr, 350, 0, 0, 0, 0), (350, .iconst 1, 351, 1, 0, 0, 0), (351, .iand, 352, 0, 0, 0, 0)],
  [(352, .iconst 1, 353, 1, 0, 0, 0), (353, .if_icmp .ne 40, 356, 393, 0, 0, 0), (356, .aload_n 3, 357, 0, 0, 0, 0), (357, .iconst 5, 358, 5, 0, 0, 0), (358, .iload 11, 360, 0, 0, 0, 0), (360, .imul, 361, 0, 0, 0, 0), (361, .iconst 1, 362, 1, 0, 0, 0), (362, .iadd, 363, 0, 0, 0, 0), (363, .iaload, 364, 0, 0, 0, 0), (364, .ifCond .ne 29, 367, 393, 0, 0, 0), (367, .aload_n 3, 368, 0, 0, 0, 0)],
  [(368, .iconst 5, 369, 5, 0, 0, 0), (369, .iload 11, 371, 0, 0, 0, 0), (371, .imul, 372, 0, 0, 0, 0), (372, .iconst 1, 373, 1, 0, 0, 0), (373, .iadd, 374, 0, 0, 0, 0), (374, .iconst 1, 375, 1, 0, 0, 0), (375, .iastore, 376, 0, 0, 0, 0), (376, .aload 4, 378, 0, 0, 0, 0), (378, .aload 5, 380, 0, 0, 0, 0), (380, .iconst 2, 381, 2, 0, 0, 0), (381, .iaload, 382, 0, 0, 0, 0), (382, .iload 11, 384, 0, 0, 0, 0)],
  [(384, .iastore, 385, 0, 0, 0, 0), (385, .aload 5, 387, 0, 0, 0, 0), (387, .iconst 2, 388, 2, 0, 0, 0), (388, .dup2, 389, 0, 0, 0, 0), (389, .iaload, 390, 0, 0, 0, 0), (390, .iconst 1, 391, 1, 0, 0, 0), (391, .iadd, 392, 0, 0, 0, 0), (392, .iastore, 393, 0, 0, 0, 0), (393, .iinc 11 1, 396, 1, 0, 0, 0), (396, .goto (-74), 399, 322, 0, 0, 0), (399, .aload_n 2, 400, 0, 0, 0, 0)],
  [(400, .iload 9, 402, 0, 0, 0, 0), (402, .iconst 1, 403, 1, 0, 0, 0), (403, .iadd, 404, 0, 0, 0, 0), (404, .iaload, 405, 0, 0, 0, 0), (405, .iconst 3, 406, 3, 0, 0, 0), (406, .if_icmp .ne 35, 409, 441, 0, 0, 0), (409, .aload_n 2, 410, 0, 0, 0, 0), (410, .iload 9, 412, 0, 0, 0, 0), (412, .iconst 2, 413, 2, 0, 0, 0), (413, .iadd, 414, 0, 0, 0, 0), (414, .iaload, 415, 0, 0, 0, 0), (415, .aload_n 3, 416, 0, 0, 0, 0)],
  [(416, .aload 5, 418, 0, 0, 0, 0), (418, .iconst 2, 419, 2, 0, 0, 0), (419, .invokestatic 23, 422, 97, 3, 0, 0), (422, .iconst (-1), 423, 1, 1, 0, 0), (423, .ixor, 424, 0, 0, 0, 0), (424, .iand, 425, 0, 0, 0, 0), (425, .ifCond .ne 16, 428, 441, 0, 0, 0), (428, .aload_n 1, 429, 0, 0, 0, 0), (429, .aload_n 2, 430, 0, 0, 0, 0), (430, .aload_n 3, 431, 0, 0, 0, 0), (431, .aload 4, 433, 0, 0, 0, 0)],
  [(433, .aload 5, 435, 0, 0, 0, 0), (435, .iload 8, 437, 0, 0, 0, 0), (437, .iconst 4, 438, 4, 0, 0, 0), (438, .invokestatic 15, 441, 93, 7, 0, 0), (441, .aload_n 0, 442, 0, 0, 0, 0), (442, .iconst 0, 443, 0, 0, 0, 0), (443, .iload 8, 445, 0, 0, 0, 0), (445, .invokestatic 169, 448, 102, 3, 0, 4)],
  [(448, .iload 10, 450, 0, 0, 0, 0), (450, .ifCond .eq 12, 453, 462, 0, 0, 0), (453, .aload_n 2, 454, 0, 0, 0, 0), (454, .iload 9, 456, 0, 0, 0, 0), (456, .iconst 1, 457, 1, 0, 0, 0), (457, .iadd, 458, 0, 0, 0, 0), (458, .iaload, 459, 0, 0, 0, 0), (459, .goto 5, 462, 464, 0, 0, 0), (462, .bipush (-5), 464, 5, 1, 0, 0)],
  [(464, .if_icmp .ne 7, 467, 471, 0, 0, 0), (467, .iconst 1, 468, 1, 0, 0, 0), (468, .goto 4, 471, 472, 0, 0, 0), (471, .iconst 0, 472, 0, 0, 0, 0), (472, .ireturn, 473, 1, 0, 0, 0), (473, .iload 6, 475, 0, 0, 0, 0), (475, .bipush 18, 477, 18, 0, 0, 0), (477, .if_icmp .ne 106, 480, 583, 0, 0, 0)],
  [(480, .aload_n 2, 481, 0, 0, 0, 0), (481, .iload 9, 483, 0, 0, 0, 0), (483, .iconst 1, 484, 1, 0, 0, 0), (484, .iadd, 485, 0, 0, 0, 0), (485, .iaload, 486, 0, 0, 0, 0), (486, .istore 10, 488, 0, 0, 0, 0), (488, .iload 10, 490, 0, 0, 0, 0), (490, .ifCond .le 39, 493, 529, 0, 0, 0), (493, .iload 10, 495, 0, 0, 0, 0), (495, .iconst 4, 496, 4, 0, 0, 0)],
  [(496, .if_icmp .ge 33, 499, 529, 0, 0, 0), (499, .iload 10, 501, 0, 0, 0, 0), (501, .iconst 1, 502, 1, 0, 0, 0), (502, .if_icmp .eq 23, 505, 525, 0, 0, 0), (505, .aload_n 2, 506, 0, 0, 0, 0), (506, .aload 5, 508, 0, 0, 0, 0), (508, .iload 10, 510, 0, 0, 0, 0), (510, .iconst 1, 511, 1, 0, 0, 0), (511, .isub, 512, 0, 0, 0, 0)],
  [(512, .invokestatic 9, 515, 94, 3, 0, 0), (515, .aload 5, 517, 0, 0, 0, 0), (517, .iconst 2, 518, 2, 0, 0, 0), (518, .iload 10, 520, 0, 0, 0, 0), (520, .iadd, 521, 0, 0, 0, 0), (521, .iaload, 522, 0, 0, 0, 0), (522, .if_icmp .ge 7, 525, 529, 0, 0, 0), (525, .iconst 1, 526, 1, 0, 0, 0), (526, .goto 4, 529, 530, 0, 0, 0)],
  [(529, .iconst 0, 530, 0, 0, 0, 0), (530, .istore 11, 532, 0, 0, 0, 0), (532, .iload 11, 534, 0, 0, 0, 0), (534, .ifCond .eq 19, 537, 553, 0, 0, 0), (537, .aload_n 1, 538, 0, 0, 0, 0), (538, .aload_n 2, 539, 0, 0, 0, 0), (539, .aload_n 3, 540, 0, 0, 0, 0), (540, .aload 4, 542, 0, 0, 0, 0), (542, .aload 5, 544, 0, 0, 0, 0)],
  [(544, .iload 8, 546, 0, 0, 0, 0), (546, .iload 10, 548, 0, 0, 0, 0), (548, .iconst 1, 549, 1, 0, 0, 0), (549, .isub, 550, 0, 0, 0, 0), (550, .invokestatic 15, 553, 93, 7, 0, 0), (553, .aload_n 0, 554, 0, 0, 0, 0), (554, .iconst 1, 555, 1, 0, 0, 0), (555, .iload 8, 557, 0, 0, 0, 0), (557, .invokestatic 169, 560, 102, 3, 0, 4)],
  [(560, .iload 11, 562, 0, 0, 0, 0), (562, .ifCond .eq 10, 565, 572, 0, 0, 0), (565, .iload 10, 567, 0, 0, 0, 0), (567, .iconst 1, 568, 1, 0, 0, 0), (568, .isub, 569, 0, 0, 0, 0), (569, .goto 5, 572, 574, 0, 0, 0), (572, .bipush (-5), 574, 5, 1, 0, 0), (574, .if_icmp .ne 7, 577, 581, 0, 0, 0)],
  [(577, .iconst 1, 578, 1, 0, 0, 0), (578, .goto 4, 581, 582, 0, 0, 0), (581, .iconst 0, 582, 0, 0, 0, 0), (582, .ireturn, 583, 1, 0, 0, 0), (583, .iload 6, 585, 0, 0, 0, 0), (585, .bipush 19, 587, 19, 0, 0, 0), (587, .if_icmp .ne 117, 590, 704, 0, 0, 0), (590, .iconst 1, 591, 1, 0, 0, 0), (591, .iload 7, 593, 0, 0, 0, 0)],
  [(593, .iconst 3, 594, 3, 0, 0, 0), (594, .irem, 595, 0, 0, 0, 0), (595, .iadd, 596, 0, 0, 0, 0), (596, .istore 10, 598, 0, 0, 0, 0), (598, .aload 5, 600, 0, 0, 0, 0), (600, .iconst 3, 601, 3, 0, 0, 0), (601, .iload 10, 603, 0, 0, 0, 0), (603, .iadd, 604, 0, 0, 0, 0), (604, .iaload, 605, 0, 0, 0, 0), (605, .istore 11, 607, 0, 0, 0, 0), (607, .aload 5, 609, 0, 0, 0, 0)],
  [(609, .iconst 3, 610, 3, 0, 0, 0), (610, .iload 10, 612, 0, 0, 0, 0), (612, .iadd, 613, 0, 0, 0, 0), (613, .iconst 1, 614, 1, 0, 0, 0), (614, .iload 7, 616, 0, 0, 0, 0), (616, .iconst 3, 617, 3, 0, 0, 0), (617, .idiv, 618, 0, 0, 0, 0), (618, .iload 7, 620, 0, 0, 0, 0), (620, .iconst 2, 621, 2, 0, 0, 0), (621, .irem, 622, 0, 0, 0, 0), (622, .ifCond .ne 7, 625, 629, 0, 0, 0)],
  [(625, .iconst 3, 626, 3, 0, 0, 0), (626, .goto 5, 629, 631, 0, 0, 0), (629, .bipush 9, 631, 9, 0, 0, 0), (631, .irem, 632, 0, 0, 0, 0), (632, .iadd, 633, 0, 0, 0, 0), (633, .iastore, 634, 0, 0, 0, 0), (634, .aload_n 2, 635, 0, 0, 0, 0), (635, .aload 5, 637, 0, 0, 0, 0), (637, .iload 10, 639, 0, 0, 0, 0), (639, .invokestatic 9, 642, 94, 3, 0, 0)],
  [(642, .aload 5, 644, 0, 0, 0, 0), (644, .iconst 3, 645, 3, 0, 0, 0), (645, .iload 10, 647, 0, 0, 0, 0), (647, .iadd, 648, 0, 0, 0, 0), (648, .iaload, 649, 0, 0, 0, 0), (649, .if_icmp .le 18, 652, 667, 0, 0, 0), (652, .aload_n 1, 653, 0, 0, 0, 0), (653, .aload_n 2, 654, 0, 0, 0, 0), (654, .aload_n 3, 655, 0, 0, 0, 0), (655, .aload 4, 657, 0, 0, 0, 0)],
  [(657, .aload 5, 659, 0, 0, 0, 0), (659, .iload 10, 661, 0, 0, 0, 0), (661, .invokestatic 19, 664, 95, 6, 0, 0), (664, .goto (-30), 667, 634, 0, 0, 0), (667, .aload_n 0, 668, 0, 0, 0, 0), (668, .iload 10, 670, 0, 0, 0, 0), (670, .iconst 1, 671, 1, 0, 0, 0), (671, .iload 7, 673, 0, 0, 0, 0)],
  [(673, .iconst 3, 674, 3, 0, 0, 0), (674, .idiv, 675, 0, 0, 0, 0), (675, .iload 7, 677, 0, 0, 0, 0), (677, .iconst 2, 678, 2, 0, 0, 0), (678, .irem, 679, 0, 0, 0, 0), (679, .ifCond .ne 7, 682, 686, 0, 0, 0), (682, .iconst 3, 683, 3, 0, 0, 0), (683, .goto 5, 686, 688, 0, 0, 0), (686, .bipush 9, 688, 9, 0, 0, 0)],
  [(688, .irem, 689, 0, 0, 0, 0), (689, .iadd, 690, 0, 0, 0, 0), (690, .invokevirtual 172, 693, 51, 3, 0, 2), (693, .iload 11, 695, 0, 0, 0, 0), (695, .if_icmp .ne 7, 698, 702, 0, 0, 0), (698, .iconst 1, 699, 1, 0, 0, 0), (699, .goto 4, 702, 703, 0, 0, 0), (702, .iconst 0, 703, 0, 0, 0, 0), (703, .ireturn, 704, 1, 0, 0, 0)],
  [(704, .iload 6, 706, 0, 0, 0, 0), (706, .bipush 24, 708, 24, 0, 0, 0), (708, .if_icmp .ge 19, 711, 727, 0, 0, 0), (711, .aload_n 0, 712, 0, 0, 0, 0), (712, .aload_n 1, 713, 0, 0, 0, 0), (713, .aload_n 2, 714, 0, 0, 0, 0), (714, .aload_n 3, 715, 0, 0, 0, 0), (715, .aload 4, 717, 0, 0, 0, 0), (717, .aload 5, 719, 0, 0, 0, 0), (719, .iload 7, 721, 0, 0, 0, 0)],
  [(721, .invokestatic 175, 724, 112, 7, 0, 10), (724, .goto 21, 727, 745, 0, 0, 0), (727, .aload_n 0, 728, 0, 0, 0, 0), (728, .aload_n 1, 729, 0, 0, 0, 0), (729, .aload_n 2, 730, 0, 0, 0, 0), (730, .aload_n 3, 731, 0, 0, 0, 0), (731, .aload 4, 733, 0, 0, 0, 0), (733, .aload 5, 735, 0, 0, 0, 0), (735, .iload 6, 737, 0, 0, 0, 0)],
  [(737, .bipush 22, 739, 22, 0, 0, 0), (739, .isub, 740, 0, 0, 0, 0), (740, .iload 7, 742, 0, 0, 0, 0), (742, .invokestatic 162, 745, 111, 8, 0, 18), (745, .ireturn, 746, 1, 0, 0, 0)]]
def i_L_holds : List (List xI) := [[(0, .new 27, 3, 0, 0, 0, 2), (3, .dup, 4, 0, 0, 0, 0), (4, .invokespecial 179, 7, 0, 0, 0, 0), (7, .astore_n 1, 8, 0, 0, 0, 0), (8, .bipush 10, 10, 10, 0, 0, 0), (10, .newarray .int, 12, 10, 0, 0, 2), (12, .astore_n 2, 13, 0, 0, 0, 0), (13, .bipush 50, 15, 50, 0, 0, 0), (15, .newarray .int, 17, 50, 0, 0, 9)],
  [(17, .astore_n 3, 18, 0, 0, 0, 0), (18, .bipush 60, 20, 60, 0, 0, 0), (20, .newarray .int, 22, 60, 0, 0, 10), (22, .astore 4, 24, 0, 0, 0, 0), (24, .bipush 12, 26, 12, 0, 0, 0), (26, .newarray .int, 28, 12, 0, 0, 2), (28, .astore 5, 30, 0, 0, 0, 0), (30, .bipush 7, 32, 7, 0, 0, 0)],
  [(32, .newarray .int, 34, 7, 0, 0, 2), (34, .astore 6, 36, 0, 0, 0, 0), (36, .iconst 1, 37, 1, 0, 0, 0), (37, .istore 7, 39, 0, 0, 0, 0), (39, .aload 6, 41, 0, 0, 0, 0), (41, .iconst 4, 42, 4, 0, 0, 0), (42, .iconst 3, 43, 3, 0, 0, 0), (43, .iastore, 44, 0, 0, 0, 0), (44, .aload 6, 46, 0, 0, 0, 0), (46, .iconst 5, 47, 5, 0, 0, 0), (47, .iconst 3, 48, 3, 0, 0, 0)],
  [(48, .iastore, 49, 0, 0, 0, 0), (49, .aload 6, 51, 0, 0, 0, 0), (51, .bipush 6, 53, 6, 0, 0, 0), (53, .iconst 3, 54, 3, 0, 0, 0), (54, .iastore, 55, 0, 0, 0, 0), (55, .iconst 0, 56, 0, 0, 0, 0), (56, .istore 8, 58, 0, 0, 0, 0), (58, .iload 8, 60, 0, 0, 0, 0), (60, .sipush 130, 63, 130, 0, 0, 0), (63, .if_icmp .ge 129, 66, 192, 0, 0, 0)],
  [(66, .iload 7, 68, 0, 0, 0, 0), (68, .ifCond .eq 124, 71, 192, 0, 0, 0), (71, .aload_n 0, 72, 0, 0, 0, 0), (72, .iconst 2, 73, 2, 0, 0, 0), (73, .iload 8, 75, 0, 0, 0, 0), (75, .imul, 76, 0, 0, 0, 0), (76, .iconst 1, 77, 1, 0, 0, 0), (77, .iadd, 78, 0, 0, 0, 0), (78, .ldc 180, 80, 10000000, 0, 0, 0)],
  [(80, .invokestatic 181, 83, 92, 3, 0, 0), (83, .istore 9, 85, 0, 0, 0, 0), (85, .aload_n 1, 86, 0, 0, 0, 0), (86, .aload_n 2, 87, 0, 0, 0, 0), (87, .aload_n 3, 88, 0, 0, 0, 0), (88, .aload 4, 90, 0, 0, 0, 0), (90, .aload 5, 92, 0, 0, 0, 0), (92, .aload 6, 94, 0, 0, 0, 0), (94, .iload 8, 96, 0, 0, 0, 0)],
  [(96, .iconst 5, 97, 5, 0, 0, 0), (97, .if_icmp .ge 7, 100, 104, 0, 0, 0), (100, .iconst 0, 101, 0, 0, 0, 0), (101, .goto 24, 104, 125, 0, 0, 0), (104, .iload 8, 106, 0, 0, 0, 0), (106, .bipush 10, 108, 10, 0, 0, 0), (108, .if_icmp .ge 7, 111, 115, 0, 0, 0), (111, .iconst 1, 112, 1, 0, 0, 0)],
  [(112, .goto 13, 115, 125, 0, 0, 0), (115, .aload_n 0, 116, 0, 0, 0, 0), (116, .iconst 2, 117, 2, 0, 0, 0), (117, .iload 8, 119, 0, 0, 0, 0), (119, .imul, 120, 0, 0, 0, 0), (120, .bipush 28, 122, 28, 0, 0, 0), (122, .invokestatic 181, 125, 92, 3, 0, 0), (125, .iload 9, 127, 0, 0, 0, 0), (127, .invokestatic 185, 130, 113, 8, 0, 61)],
  [(130, .ifCond .eq 53, 133, 183, 0, 0, 0), (133, .iload 8, 135, 0, 0, 0, 0), (135, .iconst 3, 136, 3, 0, 0, 0), (136, .irem, 137, 0, 0, 0, 0), (137, .iconst 2, 138, 2, 0, 0, 0), (138, .if_icmp .lt 18, 141, 156, 0, 0, 0), (141, .aload_n 1, 142, 0, 0, 0, 0), (142, .aload_n 2, 143, 0, 0, 0, 0), (143, .aload_n 3, 144, 0, 0, 0, 0)],
  [(144, .aload 4, 146, 0, 0, 0, 0), (146, .aload 6, 148, 0, 0, 0, 0), (148, .iload 9, 150, 0, 0, 0, 0), (150, .invokestatic 188, 153, 109, 6, 0, 110), (153, .ifCond .eq 30, 156, 183, 0, 0, 0), (156, .iload 8, 158, 0, 0, 0, 0), (158, .bipush 9, 160, 9, 0, 0, 0)],
  [(160, .irem, 161, 0, 0, 0, 0), (161, .bipush 8, 163, 8, 0, 0, 0), (163, .if_icmp .lt 16, 166, 179, 0, 0, 0), (166, .aload_n 1, 167, 0, 0, 0, 0), (167, .aload 4, 169, 0, 0, 0, 0), (169, .aload 5, 171, 0, 0, 0, 0), (171, .aload 6, 173, 0, 0, 0, 0), (173, .invokestatic 192, 176, 110, 4, 0, 140)],
  [(176, .ifCond .eq 7, 179, 183, 0, 0, 0), (179, .iconst 1, 180, 1, 0, 0, 0), (180, .goto 4, 183, 184, 0, 0, 0), (183, .iconst 0, 184, 0, 0, 0, 0), (184, .istore 7, 186, 0, 0, 0, 0), (186, .iinc 8 1, 189, 1, 0, 0, 0), (189, .goto (-131), 192, 58, 0, 0, 0)],
  [(192, .iload 7, 194, 0, 0, 0, 0), (194, .ifCond .eq 34, 197, 228, 0, 0, 0), (197, .aload_n 1, 198, 0, 0, 0, 0), (198, .aload_n 2, 199, 0, 0, 0, 0), (199, .aload_n 3, 200, 0, 0, 0, 0), (200, .aload 4, 202, 0, 0, 0, 0), (202, .aload 6, 204, 0, 0, 0, 0), (204, .iconst 3, 205, 3, 0, 0, 0), (205, .invokestatic 188, 208, 109, 6, 0, 110)],
  [(208, .ifCond .eq 20, 211, 228, 0, 0, 0), (211, .aload_n 1, 212, 0, 0, 0, 0), (212, .aload 4, 214, 0, 0, 0, 0), (214, .aload 5, 216, 0, 0, 0, 0), (216, .aload 6, 218, 0, 0, 0, 0), (218, .invokestatic 192, 221, 110, 4, 0, 140), (221, .ifCond .eq 7, 224, 228, 0, 0, 0)],
  [(224, .iconst 1, 225, 1, 0, 0, 0), (225, .goto 4, 228, 229, 0, 0, 0), (228, .iconst 0, 229, 0, 0, 0, 0), (229, .ireturn, 230, 1, 0, 0, 0)]]
def i_L_isHeld : List (List xI) := [[(0, .aload_n 0, 1, 0, 0, 0, 0), (1, .invokestatic 196, 4, 114, 1, 0, 60000), (4, .ireturn, 5, 1, 0, 0, 0), (5, .astore_n 1, 6, 0, 0, 0, 0), (6, .iconst 0, 7, 0, 0, 0, 0), (7, .ireturn, 8, 1, 0, 0, 0), (8, .astore_n 1, 9, 0, 0, 0, 0), (9, .iconst 0, 10, 0, 0, 0, 0), (10, .ireturn, 11, 1, 0, 0, 0), (11, .astore_n 1, 12, 0, 0, 0, 0), (12, .iconst 0, 13, 0, 0, 0, 0), (13, .ireturn, 14, 1, 0, 0, 0)]]
set_option maxRecDepth 100000 in
def i_L_law : List (List xI) := [[(0, .aload_n 0, 1, 0, 0, 0, 0), (1, .invokestatic 202, 4, 115, 1, 0, 60000), (4, .ireturn, 5, 1, 0, 0, 0)]]
def m_is : List (List (List (List xI))) := [[[], i_X0_has, i_X0_add, i_X0_put, i_X0_whereIs, i_X0_sizeOf, i_X0_cardInOrder, i_X0_countAheadOf, i_X0_isAtLimit, i_X0_isAboveLimit, i_X0_replaceLimit, i_X0_setName, i_X0_namesOf, i_X0_namedIn, i_X0_countNaming, i_X0_countFall],
  [i_X0_fallsOf, i_X0_countPush, i_X0_pushesOf, [], i_X1_has, i_X1_add, i_X1_weightOf, i_X1_stateOf, i_X1_setState, i_X1_allOf, i_X1_needsOf, i_X1_addNeed, i_X1_isNeededByOneIn, i_X1_replaceBroken, i_X1_replaceClash, i_X1_areReady],
  [i_X1_changeAt, i_X1_enqueue, i_X1_unqueue, i_X1_settle, i_X1_foreseeRow, i_X1_foreseeOneByOne, i_X1_passedPlaces, i_X1_startTrial, i_X1_tryAndHalve, i_X1_tryHalves, i_X1_passes, i_X1_holdsBehind, i_X1_setOfRow, i_X1_weightOfRow, [], i_X2_card],
  [i_X2_name, i_X2_move, i_X2_moveBack, i_X2_setLimit, i_X2_change, i_X2_need, i_X2_setBroken, i_X2_setClash, i_X2_mend, i_X2_takeOut, i_X2_merge, i_X2_queued, i_X2_queuedAt, i_X2_wouldPass, i_X2_wouldPassOneByOne, i_X2_wouldTake],
  [i_X2_bestLength, i_X2_hours, i_X2_cards, i_X2_changes, i_X2_columnOf, i_X2_cardsIn, i_X2_cardAt, i_X2_canMove, i_X2_lacks, i_X2_falls, i_X2_pushes, i_X2_state, i_X2_namedBy, i_X2_requireCard, i_X2_requireChange, i_X2_requireColumn],
  [i_X2_requireRange, i_X2_requireRow, i_X2_isMovable, i_X2_shift, i_X2_pushBackFrom, i_X2_dropCards, i_X2_passOn, i_X2_hasLimit, i_X2_bit, i_X2_contains, i_X2_with, i_J6_bitCount_0f7a4, i_L_from, i_L_come, i_L_count, i_L_push],
  [i_L_fall, i_L_withState, i_L_ones, i_L_canMove, i_L_work, i_L_passed, i_L_moved, i_L_named, i_L_needed, i_L_broke, i_L_clashed, i_L_did, i_L_merged, i_L_areCards, i_L_isQueue, i_L_isChanged],
  [i_L_isMerged, i_L_acts, i_L_holds, i_L_isHeld, i_L_law]]
def m_fs : List (List xM) := [[(yX0_init, cX0_init, 2, none, none, 0, RX0, []), (yX0_has, cX0_has, 2, (some .boolean), none, 0, RX0, []), (yX0_add, cX0_add, 3, (some .int), none, 0, RX0, []), (yX0_put, cX0_put, 3, none, none, 0, RX0, []), (yX0_whereIs, cX0_whereIs, 2, (some .int), none, 0, RX0, []), (yX0_sizeOf, cX0_sizeOf, 4, (some .int), none, 0, RX0, []), (yX0_cardInOrder, cX0_cardInOrder, 4, (some .int), none, 0, RX0, []), (yX0_countAheadOf, cX0_countAheadOf, 6, (some .int), none, 0, RX0, []), (yX0_isAtLimit, cX0_isAtLimit, 2, (some .boolean), none, 0, RX0, []), (yX0_isAboveLimit, cX0_isAboveLimit, 2, (some .boolean), none, 0, RX0, []), (yX0_replaceLimit, cX0_replaceLimit, 4, (some .int), none, 0, RX0, []), (yX0_setName, cX0_setName, 4, none, none, 0, RX0, []), (yX0_namesOf, cX0_namesOf, 2, (some .int), none, 0, RX0, []), (yX0_namedIn, cX0_namedIn, 4, (some .int), none, 0, RX0, []), (yX0_countNaming, cX0_countNaming, 4, (some .int), none, 0, RX0, []), (yX0_countFall, cX0_countFall, 2, none, none, 0, RX0, [])],
  [(yX0_fallsOf, cX0_fallsOf, 2, (some .int), none, 0, RX0, []), (yX0_countPush, cX0_countPush, 2, none, none, 0, RX0, []), (yX0_pushesOf, cX0_pushesOf, 2, (some .int), none, 0, RX0, []), (yX1_init, cX1_init, 1, none, none, 0, RX1, []), (yX1_has, cX1_has, 2, (some .boolean), none, 0, RX1, []), (yX1_add, cX1_add, 3, (some .int), none, 0, RX1, []), (yX1_weightOf, cX1_weightOf, 2, (some .int), none, 0, RX1, []), (yX1_stateOf, cX1_stateOf, 2, (some .int), none, 0, RX1, []), (yX1_setState, cX1_setState, 3, none, none, 0, RX1, []), (yX1_allOf, cX1_allOf, 4, (some .int), none, 0, RX1, []), (yX1_needsOf, cX1_needsOf, 2, (some .int), none, 0, RX1, []), (yX1_addNeed, cX1_addNeed, 3, none, none, 0, RX1, []), (yX1_isNeededByOneIn, cX1_isNeededByOneIn, 3, (some .boolean), none, 0, RX1, []), (yX1_replaceBroken, cX1_replaceBroken, 4, (some .boolean), none, 0, RX1, []), (yX1_replaceClash, cX1_replaceClash, 5, (some .boolean), none, 0, RX1, []), (yX1_areReady, cX1_areReady, 5, (some .boolean), none, 0, RX1, [])],
  [(yX1_changeAt, cX1_changeAt, 2, (some .int), none, 0, RX1, []), (yX1_enqueue, cX1_enqueue, 4, none, none, 0, RX1, []), (yX1_unqueue, cX1_unqueue, 5, none, none, 0, RX1, []), (yX1_settle, cX1_settle, 5, none, none, 0, RX1, []), (yX1_foreseeRow, cX1_foreseeRow, 2, none, none, 0, RX1, []), (yX1_foreseeOneByOne, cX1_foreseeOneByOne, 3, none, none, 0, RX1, []), (yX1_passedPlaces, cX1_passedPlaces, 4, (some .int), none, 0, RX1, []), (yX1_startTrial, cX1_startTrial, 1, none, none, 0, RX1, []), (yX1_tryAndHalve, cX1_tryAndHalve, 3, none, none, 0, RX1, []), (yX1_tryHalves, cX1_tryHalves, 4, none, none, 0, RX1, []), (yX1_passes, cX1_passes, 4, (some .boolean), none, 0, RX1, []), (yX1_holdsBehind, cX1_holdsBehind, 4, (some .boolean), none, 0, RX1, []), (yX1_setOfRow, cX1_setOfRow, 5, (some .int), none, 0, RX1, []), (yX1_weightOfRow, cX1_weightOfRow, 5, (some .int), none, 0, RX1, []), (yX2_init, cX2_init, 1, none, none, 0, RX2, []), (yX2_card, cX2_card, 2, (some .int), none, 2, RX2, [])],
  [(yX2_name, cX2_name, 5, (some .int), none, 3, RX2, []), (yX2_move, cX2_move, 3, (some .int), none, 2, RX2, []), (yX2_moveBack, cX2_moveBack, 3, (some .int), none, 2, RX2, []), (yX2_setLimit, cX2_setLimit, 5, (some .int), none, 2, RX2, []), (yX2_change, cX2_change, 2, (some .int), none, 2, RX2, []), (yX2_need, cX2_need, 3, (some .int), none, 3, RX2, []), (yX2_setBroken, cX2_setBroken, 3, (some .boolean), none, 2, RX2, []), (yX2_setClash, cX2_setClash, 4, (some .boolean), none, 3, RX2, []), (yX2_mend, cX2_mend, 2, (some .int), none, 2, RX2, []), (yX2_takeOut, cX2_takeOut, 2, (some .int), none, 2, RX2, []), (yX2_merge, cX2_merge, 3, (some .int), none, 2, RX2, []), (yX2_queued, cX2_queued, 1, (some .int), none, 0, RX2, []), (yX2_queuedAt, cX2_queuedAt, 2, (some .int), none, 1, RX2, []), (yX2_wouldPass, cX2_wouldPass, 2, (some .int), none, 2, RX2, []), (yX2_wouldPassOneByOne, cX2_wouldPassOneByOne, 2, (some .int), none, 2, RX2, []), (yX2_wouldTake, cX2_wouldTake, 3, (some .int), none, 2, RX2, [])],
  [(yX2_bestLength, cX2_bestLength, 6, (some .int), none, 0, RX2, []), (yX2_hours, cX2_hours, 1, (some .int), none, 0, RX2, []), (yX2_cards, cX2_cards, 1, (some .int), none, 0, RX2, []), (yX2_changes, cX2_changes, 1, (some .int), none, 0, RX2, []), (yX2_columnOf, cX2_columnOf, 2, (some .int), none, 1, RX2, []), (yX2_cardsIn, cX2_cardsIn, 2, (some .int), none, 1, RX2, []), (yX2_cardAt, cX2_cardAt, 3, (some .int), none, 2, RX2, []), (yX2_canMove, cX2_canMove, 2, (some .boolean), none, 1, RX2, []), (yX2_lacks, cX2_lacks, 2, (some .int), none, 1, RX2, []), (yX2_falls, cX2_falls, 2, (some .int), none, 1, RX2, []), (yX2_pushes, cX2_pushes, 2, (some .int), none, 1, RX2, []), (yX2_state, cX2_state, 2, (some .int), none, 1, RX2, []), (yX2_namedBy, cX2_namedBy, 2, (some .int), none, 1, RX2, []), (yX2_requireCard, cX2_requireCard, 2, none, none, 1, RX2, []), (yX2_requireChange, cX2_requireChange, 2, none, none, 1, RX2, []), (yX2_requireColumn, cX2_requireColumn, 1, none, none, 1, RX2, [])],
  [(yX2_requireRange, cX2_requireRange, 3, none, none, 1, RX2, []), (yX2_requireRow, cX2_requireRow, 2, none, none, 2, RX2, []), (yX2_isMovable, cX2_isMovable, 3, (some .boolean), none, 0, RX2, []), (yX2_shift, cX2_shift, 4, none, none, 0, RX2, []), (yX2_pushBackFrom, cX2_pushBackFrom, 4, none, none, 0, RX2, []), (yX2_dropCards, cX2_dropCards, 7, (some .int), none, 0, RX2, []), (yX2_passOn, cX2_passOn, 3, none, none, 0, RX2, []), (yX2_hasLimit, cX2_hasLimit, 1, (some .boolean), none, 0, RX2, []), (yX2_bit, cX2_bit, 1, (some .int), none, 0, RX2, []), (yX2_contains, cX2_contains, 2, (some .boolean), none, 0, RX2, []), (yX2_with, cX2_with, 3, (some .int), none, 0, RX2, []), (yJ6_bitCount_0f7a4, cJ6_bitCount_0f7a4, 1, (some .int), none, 0, RJ6, []), (yL_from, cL_from, 4, (some .int), none, 0, RL, []), (yL_come, cL_come, 13, none, none, 0, RL, []), (yL_count, cL_count, 5, (some .int), none, 0, RL, []), (yL_push, cL_push, 9, none, none, 0, RL, [])],
  [(yL_fall, cL_fall, 6, none, none, 0, RL, []), (yL_withState, cL_withState, 5, (some .int), none, 0, RL, []), (yL_ones, cL_ones, 3, (some .int), none, 0, RL, []), (yL_canMove, cL_canMove, 10, (some .boolean), none, 0, RL, []), (yL_work, cL_work, 14, none, none, 3, RL, []), (yL_passed, cL_passed, 5, (some .int), none, 0, RL, []), (yL_moved, cL_moved, 4, (some .int), (some [(0, 17, 18, 35)]), 4, RL, [(1, 19, 3)]), (yL_named, cL_named, 5, (some .int), (some [(0, 7, 8, 35)]), 3, RL, [(1, 10, 4)]), (yL_needed, cL_needed, 4, (some .int), (some [(0, 6, 7, 45), (0, 6, 11, 35)]), 3, RL, [(0, 8, 3), (1, 12, 3)]), (yL_broke, cL_broke, 4, (some .int), (some [(0, 14, 15, 35)]), 2, RL, [(1, 16, 3)]), (yL_clashed, cL_clashed, 5, (some .int), (some [(0, 15, 16, 45), (0, 15, 21, 35)]), 3, RL, [(0, 18, 4), (1, 23, 4)]), (yL_did, cL_did, 4, (some .int), (some [(0, 17, 18, 35)]), 4, RL, [(1, 19, 3)]), (yL_merged, cL_merged, 3, (some .int), (some [(0, 5, 6, 35)]), 2, RL, [(1, 7, 2)]), (yL_areCards, cL_areCards, 11, (some .boolean), none, 110, RL, []), (yL_isQueue, cL_isQueue, 12, (some .boolean), none, 140, RL, []), (yL_isChanged, cL_isChanged, 16, (some .boolean), none, 18, RL, [])],
  [(yL_isMerged, cL_isMerged, 12, (some .boolean), none, 10, RL, []), (yL_acts, cL_acts, 13, (some .boolean), none, 61, RL, []), (yL_holds, cL_holds, 10, (some .boolean), none, 60000, RL, []), (yL_isHeld, cL_isHeld, 2, (some .boolean), (some [(0, 4, 5, 200), (0, 4, 8, 45), (0, 4, 11, 35)]), 60000, RL, [(2, 6, 1), (0, 9, 1), (1, 12, 1)]), (yL_law, cL_law, 7, (some .boolean), none, 60000, RL, [])]]
def m_i (k : Nat) : List (List xI) := match m_is[k / 16]? with
  | some b => (match b[k % 16]? with | some x => x | none => [])
  | none => []
def m_f (k : Nat) : xM := match m_fs[k / 16]? with
  | some b => (match b[k % 16]? with | some x => x | none => (⟨"", "", ""⟩, ⟨#[]⟩, 0, none, none, 0, "", []))
  | none => (⟨"", "", ""⟩, ⟨#[]⟩, 0, none, none, 0, "", [])
def m_y (k : Nat) : MethodName := (m_f k).1
def m_c (k : Nat) : ByteArray := (m_f k).2.1
def m_L (k : Nat) : Nat := (m_f k).2.2.1
def m_r (k : Nat) : Option FieldType := (m_f k).2.2.2.1
def m_h (k : Nat) : Option (List (Nat × Nat × Nat × Nat)) := (m_f k).2.2.2.2.1
def m_b (k : Nat) : Nat := (m_f k).2.2.2.2.2.1
def m_o (k : Nat) : String := (m_f k).2.2.2.2.2.2.1
def m_hd (k : Nat) : List (Nat × Nat × Nat) := (m_f k).2.2.2.2.2.2.2
def m_t (k : Nat) : Option Nat := match Nat.beq k k_L_work, Nat.beq k k_L_isQueue || Nat.beq k k_L_isMerged with
  | true, _ => some 21
  | false, true => some 20
  | false, false => none
def xexc (k : Nat) : String := match k with
  | 0 => "java/lang/IllegalArgumentException"
  | 1 => "java/lang/IllegalStateException"
  | _ => "java/lang/IndexOutOfBoundsException"
def xstr : List (String × Nat × String) := [("Cardgate", 222, "out of range"), ("Cardgate", 36, "there are 20 cards"), ("Cardgate", 109, "there are 30 changes"), ("Cardgate", 218, "no such change"), ("Cardgate", 114, "a change needs lower ones only"), ("Cardgate", 127, "the change is not open, or needs the other already"), ("Cardgate", 132, "the change is in"), ("Cardgate", 138, "a change does not clash with itself"), ("Cardgate", 140, "both changes are in"), ("Cardgate", 146, "the change is not refused"), ("Cardgate", 157, "the change is not in, or one that is in needs it"), ("Cardgate", 215, "no such card"), ("Cardgate", 55, "the card is beyond the column 1"), ("Cardgate", 73, "the card can't move on"), ("Cardgate", 88, "the card can't move back"), ("Cardgate", 95, "no such column with a limit"), ("Cardgate", 224, "so many changes are not queued"), ("Cardgate", 220, "no such column"), ("Cardgate", 201, "no such place in the column"), ("Cardgate", 187, "no such place in the queue")]
def xnc : List (Nat × Nat) := [(0, 1), (0, 2), (1, 0), (1, 2), (2, 0), (2, 1)]
def vwCl : List vw_C := [(RX2, TX2, 3), (RX0, TX0, 9), (RX1, TX1, 11)]
end
section
/-! a machine of places: the world is a list of cells, a reference is a place; one step; the least set of states from which Q is come to -/
section AM
abbrev xC : Type := (Nat × vp_A) ⊕ (Nat × List Value)
abbrev xW : Type := List xC
abbrev xL : Type := List (Option Value)
abbrev xS : Type := Nat × xL × List Value × xW × Nat
abbrev xR : Type := Option Value ⊕ Nat
abbrev xJ : Type := Nat × List Value × Nat × xL × List Value × xW × Nat
abbrev xT : Type := Option (Nat × (Nat → Int32)) × Option Nat
abbrev xO : Type := xS ⊕ ((Prop × xS) ⊕ ((Prop × xS × xS) ⊕ ((Prop × xJ) ⊕ (Prop × xR × xW))))
def xat (I : List (List xI)) (pc : Nat) : Option xI := match I[pc / 16]? with
  | some b => b.find? (fun e => Nat.beq e.1 pc)
  | none => none
def xk (r1 r2 : Nat) : Int32 := match r2 with
  | 0 => nI r1
  | _ => -(nI r1)
def xz (x : Int32) : Prop := x = nI 0 ∨ x = nI 1
def xargs : Nat → List Value → List Value → Option (List Value × List Value)
  | 0, acc, st => some (acc, st)
  | n + 1, acc, .int x :: st => xargs n (.int x :: acc) st
  | n + 1, acc, .ref x :: st => xargs n (.ref x :: acc) st
  | _ + 1, _, _ => none
def xsw (pc : Nat) (d lo hi : Int) (offs : Array Int) (x : Int32) : Nat := if x.toInt < lo ∨ hi < x.toInt then (pc + d).toNat else match offs[(x.toInt - lo).toNat]? with
  | some o => (pc + o).toNat
  | none => 0
def xldi (L : xL) (k : Nat) (nx : Nat) (stk : List Value) (w : xW) (u : Nat) : Option xO := match L[k]? with
  | some (some (.int x)) => some (.inl (nx, L, .int x :: stk, w, u))
  | _ => none
def xlda (L : xL) (k : Nat) (nx : Nat) (stk : List Value) (w : xW) (u : Nat) : Option xO := match L[k]? with
  | some (some (.ref x)) => some (.inl (nx, L, .ref x :: stk, w, u))
  | _ => none
def xsti (L : xL) (k : Nat) (nx : Nat) (stk : List Value) (w : xW) (u : Nat) : Option xO := match stk with
  | .int x :: st => some (.inl (nx, L.set k (some (.int x)), st, w, u))
  | _ => none
def xsta (L : xL) (k : Nat) (nx : Nat) (stk : List Value) (w : xW) (u : Nat) : Option xO := match stk with
  | .ref x :: st => some (.inl (nx, L.set k (some (.ref x)), st, w, u))
  | _ => none
def xbin (f : Int32 → Int32 → Int32) (L : xL) (nx : Nat) (stk : List Value) (w : xW) (u : Nat) : Option xO := match stk with
  | .int y :: .int x :: st => some (.inl (nx, L, .int (f x y) :: st, w, u))
  | _ => none
def xco (cd : Jvm.ClassFile.Cond) (x y : Int32) : Prop × Bool := match cd with
  | .eq => (x = y, true)
  | .ne => (x = y, false)
  | .lt => (x < y, true)
  | .ge => (y ≤ x, true)
  | .gt => (y < x, true)
  | .le => (x ≤ y, true)
def xbr (q : Prop × Bool) (a b : xS) : Option xO := match q with
  | (c, true) => some (.inr (.inr (.inl (c, a, b))))
  | (c, false) => some (.inr (.inr (.inl (c, b, a))))
/-- what may lie on the stack below a static call -/
def xdp (st : List Value) : Bool := Nat.ble st.length 4 || (Nat.ble st.length 8 && st.all (fun v => Nat.ble v.category 1))
def xnr (N : Nat) (v : Value) : Bool := match v with
  | .ref i => !(Nat.beq i N)
  | _ => true
def xnrC (N : Nat) (c : xC) : Bool := match c with
  | .inl _ => true
  | .inr (_, fs) => fs.all (xnr N)
/-- place N is named nowhere -/
def xfree (N : Nat) (L : xL) (st : List Value) (w : xW) : Bool := L.all (fun o => match o with | some v => xnr N v | none => true) && (st.all (xnr N) && w.all (xnrC N))
def xlw (n : Nat) (v : Value) : Bool := match v with
  | .ref i => Nat.blt i n
  | _ => true
def xlow (n : Nat) (c : xC) : Bool := match c with
  | .inl _ => true
  | .inr (_, fs) => fs.all (xlw n)
/-- the end: what was made here is forgotten -/
def xend (tn : Option Nat) (g : Prop) (r : xR) (w : xW) : Option xO := match tn with
  | none => some (.inr (.inr (.inr (.inr (g, (r, w))))))
  | some n => match (w.take n).all (xlow n) with
    | true => some (.inr (.inr (.inr (.inr (g, (r, w.take n))))))
    | false => none
def xo (I : List (List xI)) (bm : Nat) (scr : xT) : xS → Option xO := fun s => match s with
  | (pc, L, stk, w, u) => match xat I pc with
    | none => none
    | some (_, ins, nx, r1, r2, r3, r4) => match ins with
      | .iconst _ => some (.inl (nx, L, .int (xk r1 r2) :: stk, w, u))
      | .bipush _ => some (.inl (nx, L, .int (xk r1 r2) :: stk, w, u))
      | .sipush _ => some (.inl (nx, L, .int (xk r1 r2) :: stk, w, u))
      | .ldc _ => (match r4 with
        | 0 => some (.inl (nx, L, .int (xk r1 r2) :: stk, w, u))
        | _ + 1 => none)
      | .ldc_w _ => (match r4 with
        | 0 => some (.inl (nx, L, .int (xk r1 r2) :: stk, w, u))
        | _ + 1 => none)
      | .lconst n => some (.inl (nx, L, .long (Int64.ofNat (n : Nat)) :: stk, w, u))
      | .iload_n k => xldi L k nx stk w u
      | .iload k => xldi L k nx stk w u
      | .aload_n k => xlda L k nx stk w u
      | .aload k => xlda L k nx stk w u
      | .istore_n k => xsti L k nx stk w u
      | .istore k => xsti L k nx stk w u
      | .astore_n k => xsta L k nx stk w u
      | .astore k => xsta L k nx stk w u
      | .iinc k _ => (match L[k]? with
        | some (some (.int x)) => some (.inl (nx, L.set k (some (.int (x + xk r1 r2))), stk, w, u))
        | _ => none)
      | .iadd => xbin (fun x y => x + y) L nx stk w u
      | .isub => xbin (fun x y => x - y) L nx stk w u
      | .imul => xbin (fun x y => x * y) L nx stk w u
      | .iand => xbin (fun x y => x &&& y) L nx stk w u
      | .ior => xbin (fun x y => x ||| y) L nx stk w u
      | .ixor => xbin (fun x y => x ^^^ y) L nx stk w u
      | .ishl => xbin (fun x y => x <<< (y &&& 31)) L nx stk w u
      | .iushr => xbin (fun x y => (x.toUInt32 >>> (y.toUInt32 &&& Int32.toUInt32 31)).toInt32) L nx stk w u
      | .idiv => (match stk with
        | .int y :: .int x :: st => some (.inr (.inl (¬ y = 0, (nx, L, .int (x / y) :: st, w, u))))
        | _ => none)
      | .irem => (match stk with
        | .int y :: .int x :: st => some (.inr (.inl (¬ y = 0, (nx, L, .int (x - x / y * y) :: st, w, u))))
        | _ => none)
      | .ishr => xbin (fun x y => x >>> (y &&& 31)) L nx stk w u
      | .newarray .int => (match stk with
        | .int x :: st => (match scr.2, xfree r2 L st w && (Nat.beq w.length r2 && Nat.ble r2 60) with
          | some n0, true => (match Nat.ble n0 r2 with
            | true => some (.inr (.inl ((x = nI r1 ∧ u + r4 ≤ bm), (nx, L, .ref r2 :: st, w ++ [.inl (0, r1, .inl (fun _ => 0))], u + r4))))
            | false => none)
          | _, _ => none)
        | _ => none)
      | .i2l => (match stk with
        | .int x :: st => some (.inl (nx, L, .long x.toInt64 :: st, w, u))
        | _ => none)
      | .lcmp => (match stk with
        | .long y :: .long x :: st => some (.inl (nx, L, .int (lg_cmp x y) :: st, w, u))
        | _ => none)
      | .dup => (match stk with
        | .int x :: st => some (.inl (nx, L, .int x :: .int x :: st, w, u))
        | .ref x :: st => some (.inl (nx, L, .ref x :: .ref x :: st, w, u))
        | _ => none)
      | .dup2 => (match stk with
        | .int x :: .ref y :: st => some (.inl (nx, L, .int x :: .ref y :: .int x :: .ref y :: st, w, u))
        | _ => none)
      | .pop => (match stk with
        | .int _ :: st => some (.inl (nx, L, st, w, u))
        | _ => none)
      | .goto _ => some (.inl (r1, L, stk, w, u))
      | .ifCond cd _ => (match stk with
        | .int x :: st => xbr (xco cd x 0) (r1, L, st, w, u) (nx, L, st, w, u)
        | _ => none)
      | .if_icmp cd _ => (match stk with
        | .int y :: .int x :: st => xbr (xco cd x y) (r1, L, st, w, u) (nx, L, st, w, u)
        | _ => none)
      | .tableswitch d lo hi offs => (match stk with
        | .int x :: st => some (.inl (xsw pc d lo hi offs x, L, st, w, u))
        | _ => none)
      | .getfield _ => (match stk with
        | .ref a :: st => (match w[a]? with
          | some (.inr (ci, fs)) => (match Nat.beq ci r1, fs[r2]? with
            | true, some v => some (.inl (nx, L, v :: st, w, u))
            | _, _ => none)
          | _ => none)
        | _ => none)
      | .putfield _ => (match stk with
        | .int x :: .ref a :: st => (match w[a]? with
          | some (.inr (ci, fs)) => (match Nat.beq ci r1, fs[r2]? with
            | true, some _ => some (.inl (nx, L, st, w.set a (.inr (ci, fs.set r2 (.int x))), u))
            | _, _ => none)
          | _ => none)
        | _ => none)
      | .iaload => (match stk with
        | .int i :: .ref a :: st => (match w[a]? with
          | some (.inl (0, n, .inl f)) => some (.inr (.inl (vp_in i n, (nx, L, .int (f i.toNatClampNeg) :: st, w, u))))
          | some _ => none
          | none => (match scr.1, Nat.beq a 77 with
            | some (n, xs), true => some (.inr (.inl (vp_in i n, (nx, L, .int (xs i.toNatClampNeg) :: st, w, u))))
            | _, _ => none))
        | _ => none)
      | .baload => (match stk with
        | .int i :: .ref a :: st => (match w[a]? with
          | some (.inl (1, n, .inl f)) => some (.inr (.inl (vp_in i n, (nx, L, .int (f i.toNatClampNeg) :: st, w, u))))
          | _ => none)
        | _ => none)
      | .laload => (match stk with
        | .int i :: .ref a :: st => (match w[a]? with
          | some (.inl (2, n, .inr (.inl f))) => some (.inr (.inl (vp_in i n, (nx, L, .long (f i.toNatClampNeg) :: st, w, u))))
          | _ => none)
        | _ => none)
      | .iastore => (match stk with
        | .int x :: .int i :: .ref a :: st => (match w[a]? with
          | some (.inl (0, n, .inl f)) => some (.inr (.inl (vp_in i n, (nx, L, st, w.set a (.inl (0, n, .inl (upd f i.toNatClampNeg x))), u))))
          | _ => none)
        | _ => none)
      | .bastore => (match stk with
        | .int x :: .int i :: .ref a :: st => (match w[a]? with
          | some (.inl (1, n, .inl f)) => some (.inr (.inl (vp_in i n ∧ xz x, (nx, L, st, w.set a (.inl (1, n, .inl (upd f i.toNatClampNeg x))), u))))
          | _ => none)
        | _ => none)
      | .lastore => (match stk with
        | .long x :: .int i :: .ref a :: st => (match w[a]? with
          | some (.inl (2, n, .inr (.inl f))) => some (.inr (.inl (vp_in i n, (nx, L, st, w.set a (.inl (2, n, .inr (.inl (vp_updL f i.toNatClampNeg x)))), u))))
          | _ => none)
        | _ => none)
      | .arraylength => (match stk with
        | .ref a :: st => (match w[a]? with
          | some (.inl (0, n, _)) => some (.inl (nx, L, .int (Int32.ofNat n) :: st, w, u))
          | some _ => none
          | none => (match scr.1, Nat.beq a 77 with
            | some (n, _), true => some (.inl (nx, L, .int (Int32.ofNat n) :: st, w, u))
            | _, _ => none))
        | _ => none)
      | .invokevirtual _ => (match xargs r2 [] stk with
        | some (.ref b :: as, st) => (match w[b]? with
          | some (.inr (ci, _)) => (match Nat.beq ci r3, Nat.ble st.length 4 with
            | true, true => some (.inr (.inr (.inr (.inl (u + r4 ≤ bm, (r1, .ref b :: as, nx, L, st, w, u + r4))))))
            | _, _ => none)
          | _ => none)
        | _ => none)
      | .invokestatic _ => (match xargs r2 [] stk with
        | some (as, st) => (match xdp st with
          | true => some (.inr (.inr (.inr (.inl (u + r4 ≤ bm, (r1, as, nx, L, st, w, u + r4))))))
          | false => none)
        | none => none)
      | .new _ => (match stk, Nat.ble r4 1, scr.2 with
        | [], true, none => some (.inr (.inr (.inr (.inr (u + 1 ≤ bm, ((Sum.inr r1 : xR), w))))))
        | _, _, _ => none)
      | .ireturn => (match stk with
        | [.int x] => xend scr.2 (r1 = 0 ∨ xz x) (Sum.inl (some (.int x)) : xR) w
        | _ => none)
      | .return_ => (match stk with
        | [] => xend scr.2 True (Sum.inl none : xR) w
        | _ => none)
      | _ => none
/-- what is behind a call: it returned, or it threw and this method catches it (the reference to the exception is never read), or not -/
def xH (tn : Option Nat) (hd : List (Nat × Nat × Nat)) (K : xS → Prop) (Q : xR → xW → Prop) (nx : Nat) (L : xL) (st : List Value) (u : Nat) (r : xR) (w : xW) : Prop := match r with
  | .inl v => K (nx, L, v.toList ++ st, w, u)
  | .inr e => match hd.find? (fun q => Nat.beq q.1 e) with
    | none => hd = [] ∧ tn = none ∧ Q (.inr e) w
    | some (_, hp, k) => K (hp, L.set k none, [], w, u)
def xFo (tn : Option Nat) (hd : List (Nat × Nat × Nat)) (call : Nat → List Value → xW → (xR → xW → Prop) → Prop) (Q : xR → xW → Prop) (K : xS → Prop) (o : Option xO) : Prop := match o with
  | none => False
  | some (.inl s') => K s'
  | some (.inr (.inl (g, s'))) => g ∧ K s'
  | some (.inr (.inr (.inl (c, a, b)))) => (c → K a) ∧ (¬ c → K b)
  | some (.inr (.inr (.inr (.inl (g, (k, as, nx, L, st, w, u)))))) => g ∧ ∃ P : xR → xW → Prop, call k as w P ∧ ∀ r w', P r w' → xH tn hd K Q nx L st u r w'
  | some (.inr (.inr (.inr (.inr (g, (r, w)))))) => g ∧ Q r w
def xF (I : List (List xI)) (bm : Nat) (scr : xT) (hd : List (Nat × Nat × Nat)) (call : Nat → List Value → xW → (xR → xW → Prop) → Prop) (Q : xR → xW → Prop) (K : xS → Prop) (s : xS) : Prop := xFo scr.2 hd call Q K (xo I bm scr s)
theorem xH_mono {tn : Option Nat} {hd : List (Nat × Nat × Nat)} {K K' : xS → Prop} {Q Q' : xR → xW → Prop} (hK : ∀ s, K s → K' s) (hQ : ∀ r w, Q r w → Q' r w) {nx : Nat} {L : xL} {st : List Value} {u : Nat} {r : xR} {w : xW} (h : xH tn hd K Q nx L st u r w) : xH tn hd K' Q' nx L st u r w := by
  unfold xH at h ⊢
  split
  · exact hK _ h
  · split
    · rename_i hf
      simp only [hf] at h
      exact ⟨h.1, h.2.1, hQ _ _ h.2.2⟩
    · rename_i hf
      simp only [hf] at h
      exact hK _ h
theorem xF_mono {I : List (List xI)} {bm : Nat} {scr : xT} {hd : List (Nat × Nat × Nat)} {call call' : Nat → List Value → xW → (xR → xW → Prop) → Prop} {Q Q' : xR → xW → Prop} {K K' : xS → Prop}
    (hc : ∀ k as w P, call k as w P → call' k as w P) (hK : ∀ s, K s → K' s) (hQ : ∀ r w, Q r w → Q' r w) {s : xS} (h : xF I bm scr hd call Q K s) : xF I bm scr hd call' Q' K' s := by
  unfold xF xFo at h ⊢
  generalize xo I bm scr s = o at h ⊢
  rcases o with _ | s' | ⟨g, s'⟩ | ⟨c, a, b⟩ | ⟨g, k, as, nx, L, st, w, u⟩ | ⟨g, r, w⟩
  · exact h
  · exact hK _ h
  · exact ⟨h.1, hK _ h.2⟩
  · exact ⟨fun x => hK _ (h.1 x), fun x => hK _ (h.2 x)⟩
  · exact ⟨h.1, h.2.elim fun P hP => ⟨P, hc _ _ _ _ hP.1, fun r w' hr => xH_mono hK hQ (hP.2 r w' hr)⟩⟩
  · exact ⟨h.1, hQ _ _ h.2⟩
/-- from this state the method comes to its end with Q -/
def xWp (I : List (List xI)) (bm : Nat) (scr : xT) (hd : List (Nat × Nat × Nat)) (call : Nat → List Value → xW → (xR → xW → Prop) → Prop) (Q : xR → xW → Prop) (s : xS) : Prop :=
  ∀ K : xS → Prop, (∀ s', xF I bm scr hd call Q K s' → K s') → K s
def xini (n : Nat) (as : List Value) : xL := as.map some ++ List.replicate (n - as.length) none
/-- method k, called with as in the world w, comes to its end with Q, at most n calls deep -/
def xCW (sc : Option (Nat × (Nat → Int32))) : Nat → Nat → List Value → xW → (xR → xW → Prop) → Prop
  | 0 => fun _ _ _ _ => False
  | n + 1 => fun k as w Q => xWp (m_i k) (m_b k) (sc, m_t k) (m_hd k) (xCW sc n) Q (0, xini (m_L k) as, [], w, 0)
section Rules
variable {I : List (List xI)} {bm : Nat} {scr : xT} {hd : List (Nat × Nat × Nat)} {cl : Nat → List Value → xW → (xR → xW → Prop) → Prop} {Q : xR → xW → Prop} {s : xS}
theorem xWp.mk (h : xF I bm scr hd cl Q (xWp I bm scr hd cl Q) s) : xWp I bm scr hd cl Q s := fun K hK => hK s (xF_mono (fun _ _ _ _ h => h) (fun s' h' => h' K hK) (fun _ _ h => h) h)
theorem xWp.mono {Q' : xR → xW → Prop} {cl' : Nat → List Value → xW → (xR → xW → Prop) → Prop} (h : xWp I bm scr hd cl Q s) (hc : ∀ k as w P, cl k as w P → cl' k as w P) (hQ : ∀ r w, Q r w → Q' r w) : xWp I bm scr hd cl' Q' s :=
  fun K hK => h K (fun s' h' => hK s' (xF_mono hc (fun _ h => h) hQ h'))
theorem xCW.mono {sc : Option (Nat × (Nat → Int32))} : ∀ {n k : Nat} {as : List Value} {w : xW} {Q Q' : xR → xW → Prop}, xCW sc n k as w Q → (∀ r w, Q r w → Q' r w) → xCW sc n k as w Q'
  | 0, _, _, _, _, _, h, _ => h
  | _ + 1, _, _, _, _, _, h, hQ => xWp.mono h (fun _ _ _ _ h => h) hQ
theorem xCW.up {sc : Option (Nat × (Nat → Int32))} : ∀ {n k : Nat} {as : List Value} {w : xW} {Q : xR → xW → Prop}, xCW sc n k as w Q → xCW sc (n + 1) k as w Q
  | 0, _, _, _, _, h => h.elim
  | _ + 1, _, _, _, _, h => xWp.mono h (fun _ _ _ _ h => xCW.up h) (fun _ _ h => h)
/-- several steps at once, without a branch or a call among them -/
def xr (I : List (List xI)) (bm : Nat) (scr : xT) : Nat → xS → Option (Prop × xS)
  | 0, s => some (True, s)
  | n + 1, s => match xo I bm scr s with
    | some (.inl s') => xr I bm scr n s'
    | some (.inr (.inl (g, s'))) => (match xr I bm scr n s' with
      | some (g', s'') => some (g ∧ g', s'')
      | none => none)
    | _ => none
theorem xWp.run : ∀ (n : Nat) {s s' : xS} {g : Prop}, xr I bm scr n s = some (g, s') → g → xWp I bm scr hd cl Q s' → xWp I bm scr hd cl Q s
  | 0, s, s', g, h, _, k => by
    simp only [xr, Option.some.injEq, Prod.mk.injEq] at h
    rw [h.2]; exact k
  | n + 1, s, s', g, h, hg, k => by
    unfold xr at h
    refine xWp.mk ?_
    unfold xF xFo
    generalize xo I bm scr s = o at h ⊢
    rcases o with _ | s1 | ⟨g1, s1⟩ | ⟨c, a, b⟩ | ⟨g, k, as, nx, L, st, w, u⟩ | ⟨g, r, w⟩
    · cases h
    · exact xWp.run n h hg k
    · dsimp only at h ⊢
      cases e : xr I bm scr n s1 with
      | none => rw [e] at h; cases h
      | some q =>
        rw [e] at h
        obtain ⟨g2, s2⟩ := q
        simp only [Option.some.injEq, Prod.mk.injEq] at h
        obtain ⟨h1, h2⟩ := h
        subst h2
        rw [← h1] at hg
        exact ⟨hg.1, xWp.run n e hg.2 k⟩
    · cases h
    · cases h
    · cases h
theorem xWp.br {c : Prop} {a b : xS} (h : xo I bm scr s = some (.inr (.inr (.inl (c, a, b))))) (ka : c → xWp I bm scr hd cl Q a) (kb : ¬ c → xWp I bm scr hd cl Q b) : xWp I bm scr hd cl Q s := by
  refine xWp.mk ?_
  unfold xF xFo
  rw [h]
  exact ⟨ka, kb⟩
theorem xWp.call {g : Prop} {k nx u : Nat} {as st : List Value} {L : xL} {w : xW} (h : xo I bm scr s = some (.inr (.inr (.inr (.inl (g, (k, as, nx, L, st, w, u))))))) (hg : g) (P : xR → xW → Prop) (hc : cl k as w P) (kk : ∀ r w', P r w' → xH scr.2 hd (xWp I bm scr hd cl Q) Q nx L st u r w') : xWp I bm scr hd cl Q s := by
  refine xWp.mk ?_
  unfold xF xFo
  rw [h]
  exact ⟨hg, P, hc, kk⟩
theorem xWp.fin {g : Prop} {r : xR} {w : xW} (h : xo I bm scr s = some (.inr (.inr (.inr (.inr (g, (r, w))))))) (hg : g) (hq : Q r w) : xWp I bm scr hd cl Q s := by
  refine xWp.mk ?_
  unfold xF xFo
  rw [h]
  exact ⟨hg, hq⟩
end Rules
end AM
end
section
/-! plain facts to paste, each family by itself; over the kit's nI, lN and upd -/
/-! ===== drawers: more things than places ===== -/
theorem fb_holes : ∀ (m n : Nat) (f : Nat → Nat), (∀ i, i < n → f i < m) → (∀ i j, i < j → j < n → f i ≠ f j) → n ≤ m := by
  intro m
  induction m with
  | zero =>
    intro n f h1 _
    rcases Nat.eq_zero_or_pos n with h | h
    · omega
    · exact absurd (h1 0 h) (Nat.not_lt_zero _)
  | succ m ih =>
    intro n f h1 h2
    by_cases hx : ∃ i, i < n ∧ f i = m
    · obtain ⟨a, ha, hfa⟩ := hx
      have hg := ih (n - 1) (fun i => if i < a then f i else f (i + 1)) (by
        intro i hi
        by_cases q : i < a
        · simp only [if_pos q]
          have b1 := h1 i (by omega)
          have b2 := h2 i a q ha
          omega
        · simp only [if_neg q]
          have b1 := h1 (i + 1) (by omega)
          have b2 := h2 a (i + 1) (by omega) (by omega)
          omega) (by
        intro i j hij hj
        by_cases q : i < a
        · by_cases r : j < a
          · simp only [if_pos q, if_pos r]
            exact h2 i j hij (by omega)
          · simp only [if_pos q, if_neg r]
            exact h2 i (j + 1) (by omega) (by omega)
        · have r : ¬ j < a := by omega
          simp only [if_neg q, if_neg r]
          exact h2 (i + 1) (j + 1) (by omega) (by omega))
      omega
    · have hg := ih n f (fun i hi => by
        have b1 := h1 i hi
        have b2 : f i ≠ m := fun e => hx ⟨i, hi, e⟩
        omega) h2
      omega
/-- two of them in one place -/
theorem fb_twice {m n : Nat} {f : Nat → Nat} (h : ∀ i, i < n → f i < m) (hm : m < n) : ∃ i j, i < j ∧ j < n ∧ f i = f j := by
  refine Classical.byContradiction fun hx => ?_
  have := fb_holes m n f h (fun i j hij hj e => hx ⟨i, j, hij, hj, e⟩)
  omega
/-- as many as places, none twice: each place is taken -/
theorem fb_onto {n : Nat} {f : Nat → Nat} (h : ∀ i, i < n → f i < n) (h2 : ∀ i j, i < j → j < n → f i ≠ f j) {y : Nat} (hy : y < n) : ∃ i, i < n ∧ f i = y := by
  refine Classical.byContradiction fun hx => ?_
  have hne : ∀ i, i < n → f i ≠ y := fun i hi e => hx ⟨i, hi, e⟩
  have := fb_holes (n - 1) n (fun i => if f i < y then f i else f i - 1) (by
    intro i hi
    have b1 := h i hi
    have b2 := hne i hi
    by_cases q : f i < y
    · simp only [if_pos q]; omega
    · simp only [if_neg q]; omega) (by
    intro i j hij hj
    have b1 := hne i (by omega)
    have b2 := hne j hj
    have b3 := h2 i j hij hj
    by_cases q : f i < y
    · by_cases r : f j < y
      · simp only [if_pos q, if_pos r]; exact b3
      · simp only [if_pos q, if_neg r]; omega
    · by_cases r : f j < y
      · simp only [if_neg q, if_pos r]; omega
      · simp only [if_neg q, if_neg r]; omega)
  omega
/-! ===== how many places have a property ===== -/
def fb_ct (p : Nat → Bool) : Nat → Nat
  | 0 => 0
  | n + 1 => fb_ct p n + (if p n then 1 else 0)
theorem fb_ct_succ (p : Nat → Bool) (n : Nat) : fb_ct p (n + 1) = fb_ct p n + (if p n then 1 else 0) := rfl
theorem fb_ct_le (p : Nat → Bool) : ∀ n, fb_ct p n ≤ n
  | 0 => Nat.le_refl _
  | n + 1 => by
    have h := fb_ct_le p n
    rw [fb_ct_succ]
    split <;> omega
theorem fb_ct_step (p : Nat → Bool) (m : Nat) : ∀ n, fb_ct p m ≤ fb_ct p (m + n)
  | 0 => Nat.le_refl _
  | n + 1 => by
    have h := fb_ct_step p m n
    show fb_ct p m ≤ fb_ct p (m + n + 1)
    rw [fb_ct_succ]
    omega
theorem fb_ct_mono (p : Nat → Bool) {m n : Nat} (h : m ≤ n) : fb_ct p m ≤ fb_ct p n := by
  have := fb_ct_step p m (n - m)
  rwa [Nat.add_sub_cancel' h] at this
theorem fb_ct_cong {p q : Nat → Bool} : ∀ {n : Nat}, (∀ k, k < n → p k = q k) → fb_ct p n = fb_ct q n
  | 0, _ => rfl
  | n + 1, h => by
    rw [fb_ct_succ, fb_ct_succ, fb_ct_cong (fun k hk => h k (by omega)), h n (by omega)]
/-- one place changed -/
theorem fb_ct_out (p : Nat → Bool) (b : Bool) {i n : Nat} (h : n ≤ i) : fb_ct (fun k => if k = i then b else p k) n = fb_ct p n :=
  fb_ct_cong fun k hk => if_neg (by omega)
theorem fb_ct_upd (p : Nat → Bool) (b : Bool) {i : Nat} : ∀ {n : Nat}, i < n → fb_ct (fun k => if k = i then b else p k) n + (if p i then 1 else 0) = fb_ct p n + (if b then 1 else 0)
  | 0, h => absurd h (Nat.not_lt_zero i)
  | n + 1, h => by
    rw [fb_ct_succ, fb_ct_succ]
    rcases Nat.lt_or_ge i n with q | q
    · have := fb_ct_upd p b q
      have e : (if n = i then b else p n) = p n := if_neg (by omega)
      rw [e]
      omega
    · have e : i = n := by omega
      subst e
      rw [fb_ct_out p b (Nat.le_refl _)]
      simp only [if_true]
      omega
theorem fb_ct_sub {p q : Nat → Bool} : ∀ {n : Nat}, (∀ k, k < n → p k = true → q k = true) → fb_ct p n ≤ fb_ct q n
  | 0, _ => Nat.le_refl _
  | n + 1, h => by
    have h1 := fb_ct_sub (n := n) (p := p) (q := q) (fun k hk => h k (by omega))
    have h2 := h n (by omega)
    rw [fb_ct_succ, fb_ct_succ]
    cases hp : p n <;> cases hq : q n <;> simp_all <;> omega
theorem fb_ct_or {p q : Nat → Bool} : ∀ {n : Nat}, (∀ k, k < n → ¬ (p k = true ∧ q k = true)) → fb_ct (fun k => p k || q k) n = fb_ct p n + fb_ct q n
  | 0, _ => rfl
  | n + 1, h => by
    have h1 := fb_ct_or (n := n) (p := p) (q := q) (fun k hk => h k (by omega))
    have h2 := h n (by omega)
    rw [fb_ct_succ, fb_ct_succ, fb_ct_succ, h1]
    cases hp : p n <;> cases hq : q n <;> simp_all <;> omega
theorem fb_ct_not (p : Nat → Bool) : ∀ n, fb_ct p n + fb_ct (fun k => !p k) n = n
  | 0 => rfl
  | n + 1 => by
    have h := fb_ct_not p n
    rw [fb_ct_succ, fb_ct_succ]
    cases p n <;> simp <;> omega
theorem fb_ct_split (p : Nat → Bool) (m : Nat) : ∀ n, fb_ct p (m + n) = fb_ct p m + fb_ct (fun k => p (m + k)) n
  | 0 => rfl
  | n + 1 => by
    have h := fb_ct_split p m n
    show fb_ct p (m + n + 1) = _
    rw [fb_ct_succ, fb_ct_succ, h, Nat.add_assoc]
theorem fb_ct_zero {p : Nat → Bool} : ∀ {n : Nat}, fb_ct p n = 0 ↔ ∀ k, k < n → p k = false
  | 0 => ⟨fun _ k hk => absurd hk (Nat.not_lt_zero k), fun _ => rfl⟩
  | n + 1 => by
    have h := fb_ct_zero (p := p) (n := n)
    rw [fb_ct_succ]
    constructor
    · intro e k hk
      have e1 : fb_ct p n = 0 := by omega
      rcases Nat.lt_or_ge k n with q | q
      · exact h.mp e1 k q
      · have ek : k = n := by omega
        subst ek
        cases hp : p k
        · rfl
        · simp [hp] at e
    · intro a
      rw [h.mpr (fun k hk => a k (by omega)), a n (by omega)]
      rfl
theorem fb_ct_pos {p : Nat → Bool} {n : Nat} : 0 < fb_ct p n ↔ ∃ k, k < n ∧ p k = true := by
  constructor
  · intro h
    refine Classical.byContradiction fun hx => ?_
    have := fb_ct_zero.mpr (fun k hk => by
      cases hp : p k
      · rfl
      · exact absurd ⟨k, hk, hp⟩ hx : ∀ k, k < n → p k = false)
    omega
  · rintro ⟨k, hk, hp⟩
    rcases Nat.eq_zero_or_pos (fb_ct p n) with e | e
    · have := fb_ct_zero.mp e k hk
      rw [this] at hp
      cases hp
    · exact e
theorem fb_ct_all {p : Nat → Bool} {n : Nat} : fb_ct p n = n ↔ ∀ k, k < n → p k = true := by
  have h := fb_ct_not p n
  constructor
  · intro e k hk
    have z : fb_ct (fun k => !p k) n = 0 := by omega
    have := fb_ct_zero.mp z k hk
    cases hp : p k
    · simp [hp] at this
    · rfl
  · intro a
    have z : fb_ct (fun k => !p k) n = 0 := fb_ct_zero.mpr (fun k hk => by simp [a k hk])
    omega
/-- the k-th place with the property -/
theorem fb_ct_kth {p : Nat → Bool} {k : Nat} : ∀ {n : Nat}, k < fb_ct p n → ∃ i, i < n ∧ p i = true ∧ fb_ct p i = k
  | 0, h => absurd h (Nat.not_lt_zero k)
  | n + 1, h => by
    rcases Nat.lt_or_ge k (fb_ct p n) with q | q
    · obtain ⟨i, h1, h2⟩ := fb_ct_kth q
      exact ⟨i, by omega, h2⟩
    · rw [fb_ct_succ] at h
      cases hp : p n
      · simp [hp] at h; omega
      · simp [hp] at h
        exact ⟨n, by omega, hp, by omega⟩
theorem fb_ct_kth_one {p : Nat → Bool} {i j : Nat} (hi : p i = true) (hj : p j = true) (e : fb_ct p i = fb_ct p j) : i = j := by
  have key : ∀ a b : Nat, a < b → p a = true → fb_ct p a < fb_ct p b := by
    intro a b hab ha
    have h := fb_ct_mono p (show a + 1 ≤ b from hab)
    rw [fb_ct_succ, ha] at h
    simp at h
    omega
  rcases Nat.lt_trichotomy i j with q | q | q
  · have := key i j q hi; omega
  · exact q
  · have := key j i q hj; omega
/-! ===== sums over a range: one place changed, parts, bounds ===== -/
def fb_sm (f : Nat → Nat) : Nat → Nat
  | 0 => 0
  | n + 1 => fb_sm f n + f n
theorem fb_sm_succ (f : Nat → Nat) (n : Nat) : fb_sm f (n + 1) = fb_sm f n + f n := rfl
theorem fb_sm_cong {f g : Nat → Nat} : ∀ {n : Nat}, (∀ k, k < n → f k = g k) → fb_sm f n = fb_sm g n
  | 0, _ => rfl
  | n + 1, h => by rw [fb_sm_succ, fb_sm_succ, fb_sm_cong (fun k hk => h k (by omega)), h n (by omega)]
theorem fb_sm_out (f : Nat → Nat) (v : Nat) {i n : Nat} (h : n ≤ i) : fb_sm (fun k => if k = i then v else f k) n = fb_sm f n :=
  fb_sm_cong fun k hk => if_neg (by omega)
theorem fb_sm_upd (f : Nat → Nat) (v : Nat) {i : Nat} : ∀ {n : Nat}, i < n → fb_sm (fun k => if k = i then v else f k) n + f i = fb_sm f n + v
  | 0, h => absurd h (Nat.not_lt_zero i)
  | n + 1, h => by
    rw [fb_sm_succ, fb_sm_succ]
    rcases Nat.lt_or_ge i n with q | q
    · have := fb_sm_upd f v q
      have e : (if n = i then v else f n) = f n := if_neg (by omega)
      rw [e]
      omega
    · have e : i = n := by omega
      subst e
      rw [fb_sm_out f v (Nat.le_refl _)]
      simp only [if_true]
      omega
theorem fb_sm_add (f g : Nat → Nat) : ∀ n, fb_sm (fun k => f k + g k) n = fb_sm f n + fb_sm g n
  | 0 => rfl
  | n + 1 => by
    have h := fb_sm_add f g n
    rw [fb_sm_succ, fb_sm_succ, fb_sm_succ, h]
    omega
theorem fb_sm_le {f g : Nat → Nat} : ∀ {n : Nat}, (∀ k, k < n → f k ≤ g k) → fb_sm f n ≤ fb_sm g n
  | 0, _ => Nat.le_refl _
  | n + 1, h => by
    have h1 := fb_sm_le (n := n) (f := f) (g := g) (fun k hk => h k (by omega))
    have h2 := h n (by omega)
    rw [fb_sm_succ, fb_sm_succ]
    omega
theorem fb_sm_const (c : Nat) : ∀ n, fb_sm (fun _ => c) n = n * c
  | 0 => by rw [Nat.zero_mul]; rfl
  | n + 1 => by rw [fb_sm_succ, fb_sm_const c n, Nat.succ_mul]
theorem fb_sm_bound {f : Nat → Nat} {c n : Nat} (h : ∀ k, k < n → f k ≤ c) : fb_sm f n ≤ n * c := by
  rw [← fb_sm_const c n]
  exact fb_sm_le h
theorem fb_sm_mono (f : Nat → Nat) (m : Nat) : ∀ n, fb_sm f m ≤ fb_sm f (m + n)
  | 0 => Nat.le_refl _
  | n + 1 => by
    have h := fb_sm_mono f m n
    show fb_sm f m ≤ fb_sm f (m + n + 1)
    rw [fb_sm_succ]
    omega
theorem fb_sm_part (f : Nat → Nat) {i n : Nat} (h : i < n) : fb_sm f i + f i ≤ fb_sm f n := by
  have := fb_sm_mono f (i + 1) (n - (i + 1))
  rw [fb_sm_succ, show i + 1 + (n - (i + 1)) = n by omega] at this
  exact this
theorem fb_sm_split (f : Nat → Nat) (m : Nat) : ∀ n, fb_sm f (m + n) = fb_sm f m + fb_sm (fun k => f (m + k)) n
  | 0 => rfl
  | n + 1 => by
    have h := fb_sm_split f m n
    show fb_sm f (m + n + 1) = _
    rw [fb_sm_succ, fb_sm_succ, h, Nat.add_assoc]
theorem fb_sm_zero {f : Nat → Nat} {n : Nat} (h : fb_sm f n = 0) : ∀ k, k < n → f k = 0 := fun k hk => by
  have := fb_sm_part f hk
  omega
/-- the same over whole numbers -/
def fb_si (f : Nat → Int) : Nat → Int
  | 0 => 0
  | n + 1 => fb_si f n + f n
theorem fb_si_succ (f : Nat → Int) (n : Nat) : fb_si f (n + 1) = fb_si f n + f n := rfl
theorem fb_si_cong {f g : Nat → Int} : ∀ {n : Nat}, (∀ k, k < n → f k = g k) → fb_si f n = fb_si g n
  | 0, _ => rfl
  | n + 1, h => by rw [fb_si_succ, fb_si_succ, fb_si_cong (fun k hk => h k (by omega)), h n (by omega)]
theorem fb_si_out (f : Nat → Int) (v : Int) {i n : Nat} (h : n ≤ i) : fb_si (fun k => if k = i then v else f k) n = fb_si f n :=
  fb_si_cong fun k hk => if_neg (by omega)
theorem fb_si_upd (f : Nat → Int) (v : Int) {i : Nat} : ∀ {n : Nat}, i < n → fb_si (fun k => if k = i then v else f k) n = fb_si f n - f i + v
  | 0, h => absurd h (Nat.not_lt_zero i)
  | n + 1, h => by
    rw [fb_si_succ, fb_si_succ]
    rcases Nat.lt_or_ge i n with q | q
    · have := fb_si_upd f v q
      have e : (if n = i then v else f n) = f n := if_neg (by omega)
      rw [e]
      omega
    · have e : i = n := by omega
      subst e
      rw [fb_si_out f v (Nat.le_refl _)]
      simp only [if_true]
      omega
theorem fb_si_add (f g : Nat → Int) : ∀ n, fb_si (fun k => f k + g k) n = fb_si f n + fb_si g n
  | 0 => rfl
  | n + 1 => by
    have h := fb_si_add f g n
    rw [fb_si_succ, fb_si_succ, fb_si_succ, h]
    omega
theorem fb_si_sub (f g : Nat → Int) : ∀ n, fb_si (fun k => f k - g k) n = fb_si f n - fb_si g n
  | 0 => rfl
  | n + 1 => by
    have h := fb_si_sub f g n
    rw [fb_si_succ, fb_si_succ, fb_si_succ, h]
    omega
theorem fb_si_mul (c : Int) (f : Nat → Int) : ∀ n, fb_si (fun k => c * f k) n = c * fb_si f n
  | 0 => (Int.mul_zero c).symm
  | n + 1 => by
    have h := fb_si_mul c f n
    rw [fb_si_succ, fb_si_succ, h, Int.mul_add]
theorem fb_si_split (f : Nat → Int) (m : Nat) : ∀ n, fb_si f (m + n) = fb_si f m + fb_si (fun k => f (m + k)) n
  | 0 => (Int.add_zero _).symm
  | n + 1 => by
    have h := fb_si_split f m n
    show fb_si f (m + n + 1) = _
    rw [fb_si_succ, fb_si_succ, h, Int.add_assoc]
theorem fb_si_nat (f : Nat → Nat) : ∀ n, fb_si (fun k => (f k : Int)) n = (fb_sm f n : Int)
  | 0 => rfl
  | n + 1 => by
    have h := fb_si_nat f n
    rw [fb_si_succ, fb_sm_succ, h]
    omega
theorem fb_si_bound {f : Nat → Int} {c : Int} (hc : 0 ≤ c) : ∀ {n : Nat}, (∀ k, k < n → -c ≤ f k ∧ f k ≤ c) → -(n * c) ≤ fb_si f n ∧ fb_si f n ≤ n * c
  | 0, _ => by simp [fb_si]
  | n + 1, h => by
    have h1 := fb_si_bound (n := n) (f := f) hc (fun k hk => h k (by omega))
    have h2 := h n (by omega)
    have e : ((n + 1 : Nat) : Int) * c = n * c + c := by rw [Int.natCast_add, Int.add_mul]; simp
    rw [fb_si_succ, e]
    omega
/-! ===== bits of a long that isn't negative ===== -/
theorem fb_andL (a b : Nat) : lN a &&& lN b = lN (a &&& b) := by
  apply Int64.toBitVec_inj.1
  show BitVec.ofNat 64 a &&& BitVec.ofNat 64 b = BitVec.ofNat 64 (a &&& b)
  apply BitVec.eq_of_getLsbD_eq
  intro i hi
  simp [hi]
theorem fb_orL (a b : Nat) : lN a ||| lN b = lN (a ||| b) := by
  apply Int64.toBitVec_inj.1
  show BitVec.ofNat 64 a ||| BitVec.ofNat 64 b = BitVec.ofNat 64 (a ||| b)
  apply BitVec.eq_of_getLsbD_eq
  intro i hi
  simp [hi]
theorem fb_xorL (a b : Nat) : lN a ^^^ lN b = lN (a ^^^ b) := by
  apply Int64.toBitVec_inj.1
  show BitVec.ofNat 64 a ^^^ BitVec.ofNat 64 b = BitVec.ofNat 64 (a ^^^ b)
  apply BitVec.eq_of_getLsbD_eq
  intro i hi
  simp [hi]
theorem fb_xorI (a b : Nat) : nI a ^^^ nI b = nI (a ^^^ b) := by
  apply Int32.toBitVec_inj.1
  show BitVec.ofNat 32 a ^^^ BitVec.ofNat 32 b = BitVec.ofNat 32 (a ^^^ b)
  apply BitVec.eq_of_getLsbD_eq
  intro i hi
  simp [hi]
theorem fb_maskL (n k : Nat) : lN n &&& lN (2 ^ k - 1) = lN (n % 2 ^ k) := by rw [fb_andL, Nat.and_two_pow_sub_one_eq_mod]
theorem fb_or_sumL {a k : Nat} (b : Nat) (h : a < 2 ^ k) : lN (2 ^ k * b) ||| lN a = lN (2 ^ k * b + a) := by rw [fb_orL, Nat.two_pow_add_eq_or_of_lt h]
theorem fb_lN_inj {a b : Nat} (ha : a < 2 ^ 63) (hb : b < 2 ^ 63) : lN a = lN b ↔ a = b := by
  constructor
  · intro h
    have h1 : (BitVec.ofNat 64 a).toNat = (BitVec.ofNat 64 b).toNat := congrArg (fun x : Int64 => x.toBitVec.toNat) h
    rw [BitVec.toNat_ofNat, BitVec.toNat_ofNat, Nat.mod_eq_of_lt (by omega), Nat.mod_eq_of_lt (by omega)] at h1
    exact h1
  · rintro rfl; rfl
theorem fb_bit_nat (n j : Nat) : n &&& 2 ^ j = 0 ↔ n.testBit j = false := by
  constructor
  · intro h
    have h1 : (n &&& 2 ^ j).testBit j = false := by rw [h]; simp
    rw [Nat.testBit_and] at h1
    simpa using h1
  · intro h
    apply Nat.eq_of_testBit_eq
    intro i
    rw [Nat.testBit_and]
    by_cases hi : j = i
    · subst hi; simp [h]
    · first | (simp [Nat.testBit_two_pow, hi]; done) | (simp [Nat.testBit_two_pow_of_ne hi]; done)
/-- one bit of a long -/
theorem fb_bitL {n j : Nat} (hj : j < 63) : lN n &&& lN (2 ^ j) = 0 ↔ n.testBit j = false := by
  have h2 : (2 : Nat) ^ j < 2 ^ 63 := Nat.pow_lt_pow_right (by decide) hj
  have hle : n &&& 2 ^ j ≤ 2 ^ j := Nat.and_le_right
  rw [fb_andL, ← fb_bit_nat, show (0 : Int64) = lN 0 from rfl]
  exact fb_lN_inj (by omega) (by decide)
/-- a bit set, a bit taken off -/
theorem fb_bit_set (n j i : Nat) : (n ||| 2 ^ j).testBit i = (n.testBit i || decide (i = j)) := by
  rw [Nat.testBit_or]
  by_cases h : j = i
  · subst h; simp
  · have h2 : ¬ i = j := fun e => h e.symm
    first | (simp [Nat.testBit_two_pow, h, h2]; done) | (simp [Nat.testBit_two_pow_of_ne h, h2]; done)
theorem fb_bit_flip (n j i : Nat) : (n ^^^ 2 ^ j).testBit i = (n.testBit i ^^ decide (i = j)) := by
  rw [Nat.testBit_xor]
  by_cases h : j = i
  · subst h; simp
  · have h2 : ¬ i = j := fun e => h e.symm
    first | (simp [Nat.testBit_two_pow, h, h2]; done) | (simp [Nat.testBit_two_pow_of_ne h, h2]; done)
/-! ===== a stretch of an array written over by a function ===== -/
def fb_put {α : Type} (f g : Nat → α) (a n : Nat) : Nat → α := fun k => if a ≤ k ∧ k < a + n then g (k - a) else f k
theorem fb_put_0 {α : Type} (f g : Nat → α) (a : Nat) : fb_put f g a 0 = f := funext fun k => if_neg (by omega)
theorem fb_put_in {α : Type} {f g : Nat → α} {a n k : Nat} (h1 : a ≤ k) (h2 : k < a + n) : fb_put f g a n k = g (k - a) := if_pos ⟨h1, h2⟩
theorem fb_put_out {α : Type} {f g : Nat → α} {a n k : Nat} (h : k < a ∨ a + n ≤ k) : fb_put f g a n k = f k := if_neg (by omega)
theorem fb_put_succ (f g : Nat → Int32) (a n : Nat) : upd (fb_put f g a n) (a + n) (g n) = fb_put f g a (n + 1) := by
  funext k
  by_cases h : k = a + n
  · subst h
    simp [upd, fb_put]
  · by_cases h1 : a ≤ k ∧ k < a + n
    · have h2 : a ≤ k ∧ k < a + (n + 1) := by omega
      simp only [upd, fb_put, if_neg h, if_pos h1, if_pos h2]
    · have h2 : ¬ (a ≤ k ∧ k < a + (n + 1)) := by omega
      simp only [upd, fb_put, if_neg h, if_neg h1, if_neg h2]
/-- .. from the far end down -/
theorem fb_put_down (f g : Nat → Int32) {a n m : Nat} (h : m < n) : upd (fb_put f (fun k => g (k + (m + 1))) (a + (m + 1)) (n - (m + 1))) (a + m) (g m) = fb_put f (fun k => g (k + m)) (a + m) (n - m) := by
  funext k
  by_cases h0 : k = a + m
  · subst h0
    simp only [upd, if_true]
    rw [fb_put_in (by omega) (by omega)]
    exact congrArg g (by omega)
  · simp only [upd, if_neg h0]
    by_cases h1 : a + (m + 1) ≤ k ∧ k < a + (m + 1) + (n - (m + 1))
    · rw [fb_put_in h1.1 h1.2, fb_put_in (by omega) (by omega)]
      exact congrArg g (by omega)
    · rw [fb_put_out (by omega), fb_put_out (by omega)]
theorem fb_put_cong {α : Type} {f f2 g g2 : Nat → α} {a n : Nat} (hf : ∀ k, (k < a ∨ a + n ≤ k) → f k = f2 k) (hg : ∀ k, k < n → g k = g2 k) : fb_put f g a n = fb_put f2 g2 a n := by
  funext k
  by_cases h : a ≤ k ∧ k < a + n
  · rw [fb_put_in h.1 h.2, fb_put_in h.1 h.2, hg _ (by omega)]
  · rw [fb_put_out (by omega), fb_put_out (by omega), hf _ (by omega)]
/-! ===== the least, the first, the best so far; that there is one alone ===== -/
theorem fb_first {p : Nat → Prop} [DecidablePred p] : ∀ {n : Nat}, (∃ i, i < n ∧ p i) → ∃ i, i < n ∧ p i ∧ ∀ j, j < i → ¬ p j
  | 0, h => by obtain ⟨i, hi, -⟩ := h; exact absurd hi (Nat.not_lt_zero i)
  | n + 1, h => by
    by_cases q : ∃ i, i < n ∧ p i
    · obtain ⟨i, h1, h2⟩ := fb_first q
      exact ⟨i, by omega, h2⟩
    · obtain ⟨i, h1, h2⟩ := h
      have e : i = n := by
        rcases Nat.lt_or_ge i n with r | r
        · exact absurd ⟨i, r, h2⟩ q
        · omega
      subst e
      exact ⟨i, by omega, h2, fun j hj hp => q ⟨j, hj, hp⟩⟩
theorem fb_first_one {p : Nat → Prop} {i j : Nat} (hi : p i) (hi2 : ∀ k, k < i → ¬ p k) (hj : p j) (hj2 : ∀ k, k < j → ¬ p k) : i = j := by
  rcases Nat.lt_trichotomy i j with q | q | q
  · exact absurd hi (hj2 i q)
  · exact q
  · exact absurd hj (hi2 j q)
theorem fb_last {p : Nat → Prop} [DecidablePred p] : ∀ {n : Nat}, (∃ i, i < n ∧ p i) → ∃ i, i < n ∧ p i ∧ ∀ j, i < j → j < n → ¬ p j
  | 0, h => by obtain ⟨i, hi, -⟩ := h; exact absurd hi (Nat.not_lt_zero i)
  | n + 1, h => by
    by_cases q : p n
    · exact ⟨n, by omega, q, fun j h1 h2 => by omega⟩
    · obtain ⟨i, h1, h2⟩ := h
      have hi : i < n := by
        rcases Nat.lt_or_ge i n with r | r
        · exact r
        · have e : i = n := by omega
          subst e
          exact absurd h2 q
      obtain ⟨i2, a1, a2, a3⟩ := fb_last (n := n) ⟨i, hi, h2⟩
      refine ⟨i2, by omega, a2, fun j b1 b2 => ?_⟩
      rcases Nat.lt_or_ge j n with r | r
      · exact a3 j b1 r
      · have e : j = n := by omega
        subst e
        exact q
/-- the first greatest -/
theorem fb_best (f : Nat → Int) : ∀ {n : Nat}, 0 < n → ∃ i, i < n ∧ (∀ j, j < n → f j ≤ f i) ∧ ∀ j, j < i → f j < f i
  | 0, h => absurd h (Nat.lt_irrefl 0)
  | 1, _ => ⟨0, by omega, fun j hj => by have e : j = 0 := by omega
                                         subst e; exact Int.le_refl _, fun j hj => absurd hj (Nat.not_lt_zero j)⟩
  | n + 2, _ => by
    obtain ⟨i, h1, h2, h3⟩ := fb_best f (n := n + 1) (by omega)
    by_cases q : f i < f (n + 1)
    · refine ⟨n + 1, by omega, fun j hj => ?_, fun j hj => ?_⟩
      · rcases Nat.lt_or_ge j (n + 1) with r | r
        · have := h2 j r; omega
        · have e : j = n + 1 := by omega
          subst e; exact Int.le_refl _
      · have := h2 j hj; omega
    · refine ⟨i, by omega, fun j hj => ?_, h3⟩
      rcases Nat.lt_or_ge j (n + 1) with r | r
      · exact h2 j r
      · have e : j = n + 1 := by omega
        subst e; omega
theorem fb_best_one {f : Nat → Int} {n i j : Nat} (hi : i < n) (hi2 : ∀ k, k < n → f k ≤ f i) (hi3 : ∀ k, k < i → f k < f i) (hj : j < n) (hj2 : ∀ k, k < n → f k ≤ f j) (hj3 : ∀ k, k < j → f k < f j) : i = j := by
  rcases Nat.lt_trichotomy i j with q | q | q
  · have a := hj3 i q
    have b := hi2 j hj
    omega
  · exact q
  · have a := hi3 j q
    have b := hj2 i hi
    omega
/-- the first least -/
theorem fb_low (f : Nat → Int) {n : Nat} (h : 0 < n) : ∃ i, i < n ∧ (∀ j, j < n → f i ≤ f j) ∧ ∀ j, j < i → f i < f j := by
  obtain ⟨i, h1, h2, h3⟩ := fb_best (fun k => -f k) h
  exact ⟨i, h1, fun j hj => by have := h2 j hj; omega, fun j hj => by have := h3 j hj; omega⟩
/-! ===== signed ints as whole numbers, within bounds ===== -/
theorem fb_rng (x : Int32) : -2147483648 ≤ x.toInt ∧ x.toInt < 2147483648 := by
  have h1 := Int32.le_toInt x
  have h2 := Int32.toInt_lt x
  omega
theorem fb_bmod {z : Int} (h1 : -2147483648 ≤ z) (h2 : z < 2147483648) : z.bmod (2 ^ 32) = z := by
  rw [Int.bmod_eq_of_le (by omega) (by omega)]
theorem fb_addI {x y : Int32} (h1 : -2147483648 ≤ x.toInt + y.toInt) (h2 : x.toInt + y.toInt < 2147483648) : (x + y).toInt = x.toInt + y.toInt := by
  rw [Int32.toInt_add, fb_bmod h1 h2]
theorem fb_subI {x y : Int32} (h1 : -2147483648 ≤ x.toInt - y.toInt) (h2 : x.toInt - y.toInt < 2147483648) : (x - y).toInt = x.toInt - y.toInt := by
  rw [Int32.toInt_sub, fb_bmod h1 h2]
theorem fb_mulI {x y : Int32} (h1 : -2147483648 ≤ x.toInt * y.toInt) (h2 : x.toInt * y.toInt < 2147483648) : (x * y).toInt = x.toInt * y.toInt := by
  rw [Int32.toInt_mul, fb_bmod h1 h2]
theorem fb_negI {x : Int32} (h : x.toInt ≠ -2147483648) : (-x).toInt = -x.toInt := by
  have := fb_rng x
  rw [Int32.toInt_neg, fb_bmod (by omega) (by omega)]
theorem fb_ofI {z : Int} (h1 : -2147483648 ≤ z) (h2 : z < 2147483648) : (Int32.ofInt z).toInt = z := by
  rw [Int32.toInt_ofInt, fb_bmod h1 h2]
theorem fb_asI (x : Int32) : Int32.ofInt x.toInt = x := Int32.ofInt_toInt x
theorem fb_rngL (x : Int64) : -9223372036854775808 ≤ x.toInt ∧ x.toInt < 9223372036854775808 := by
  have h1 := Int64.le_toInt x
  have h2 := Int64.toInt_lt x
  omega
theorem fb_bmodL {z : Int} (h1 : -9223372036854775808 ≤ z) (h2 : z < 9223372036854775808) : z.bmod (2 ^ 64) = z := by
  rw [Int.bmod_eq_of_le (by omega) (by omega)]
theorem fb_addL {x y : Int64} (h1 : -9223372036854775808 ≤ x.toInt + y.toInt) (h2 : x.toInt + y.toInt < 9223372036854775808) : (x + y).toInt = x.toInt + y.toInt := by
  rw [Int64.toInt_add, fb_bmodL h1 h2]
theorem fb_subL {x y : Int64} (h1 : -9223372036854775808 ≤ x.toInt - y.toInt) (h2 : x.toInt - y.toInt < 9223372036854775808) : (x - y).toInt = x.toInt - y.toInt := by
  rw [Int64.toInt_sub, fb_bmodL h1 h2]
theorem fb_mulL {x y : Int64} (h1 : -9223372036854775808 ≤ x.toInt * y.toInt) (h2 : x.toInt * y.toInt < 9223372036854775808) : (x * y).toInt = x.toInt * y.toInt := by
  rw [Int64.toInt_mul, fb_bmodL h1 h2]
/-! ===== cuts of what is narrow already ===== -/
theorem fb_byte {x : Int32} (h1 : -128 ≤ x.toInt) (h2 : x.toInt < 128) : x.toInt8.toInt32 = x := by
  apply Int32.toInt_inj.1
  rw [Int8.toInt_toInt32, Int32.toInt_toInt8, Int.bmod_eq_of_le (by omega) (by omega)]
theorem fb_short {x : Int32} (h1 : -32768 ≤ x.toInt) (h2 : x.toInt < 32768) : x.toInt16.toInt32 = x := by
  apply Int32.toInt_inj.1
  rw [Int16.toInt_toInt32, Int32.toInt_toInt16, Int.bmod_eq_of_le (by omega) (by omega)]
theorem fb_byte_rng (x : Int32) : -128 ≤ x.toInt8.toInt32.toInt ∧ x.toInt8.toInt32.toInt < 128 := by
  rw [Int8.toInt_toInt32]
  have h1 := Int8.le_toInt x.toInt8
  have h2 := Int8.toInt_lt x.toInt8
  omega
theorem fb_short_rng (x : Int32) : -32768 ≤ x.toInt16.toInt32.toInt ∧ x.toInt16.toInt32.toInt < 32768 := by
  rw [Int16.toInt_toInt32]
  have h1 := Int16.le_toInt x.toInt16
  have h2 := Int16.toInt_lt x.toInt16
  omega
theorem fb_byte_twice (x : Int32) : x.toInt8.toInt32.toInt8.toInt32 = x.toInt8.toInt32 := fb_byte (fb_byte_rng x).1 (fb_byte_rng x).2
theorem fb_short_twice (x : Int32) : x.toInt16.toInt32.toInt16.toInt32 = x.toInt16.toInt32 := fb_short (fb_short_rng x).1 (fb_short_rng x).2
theorem fb_char {n : Nat} (h : n < 65536) : (nI n).toUInt32.toUInt16.toUInt32.toInt32 = nI n := by
  apply Int32.toBitVec_inj.1
  apply BitVec.eq_of_toNat_eq
  have e1 : (nI n).toBitVec.toNat = n := by
    show (BitVec.ofNat 32 n).toNat = n
    rw [BitVec.toNat_ofNat, Nat.mod_eq_of_lt (by omega)]
  have e2 : ((nI n).toUInt32.toUInt16.toUInt32).toNat = n := by
    rw [UInt16.toNat_toUInt32, UInt32.toNat_toUInt16]
    show (nI n).toBitVec.toNat % 2 ^ 16 = n
    rw [e1, Nat.mod_eq_of_lt (by omega)]
  rw [e1]
  exact e2
end
section
/-! plain facts on numbers and arrays, to paste: each family by itself; over the kit's rows on nI and upd -/
/-! ===== order of ints, in all its forms, and through longs ===== -/
theorem fa_lt (a b : Int32) : a < b ↔ a.toInt < b.toInt := Int32.lt_iff_toInt_lt
theorem fa_le (a b : Int32) : a ≤ b ↔ a.toInt ≤ b.toInt := Int32.le_iff_toInt_le
theorem fa_eq (a b : Int32) : a = b ↔ a.toInt = b.toInt := Int32.toInt_inj.symm
theorem fa_lt64 (a b : Int64) : a < b ↔ a.toInt < b.toInt := Int64.lt_iff_toInt_lt
theorem fa_le64 (a b : Int64) : a ≤ b ↔ a.toInt ≤ b.toInt := Int64.le_iff_toInt_le
theorem fa_eq64 (a b : Int64) : a = b ↔ a.toInt = b.toInt := Int64.toInt_inj.symm
/-- a comparison of two ints taken as longs -/
theorem fa_wide_lt (a b : Int32) : a.toInt64 < b.toInt64 ↔ a < b := by rw [fa_lt64, fa_lt, Int32.toInt_toInt64, Int32.toInt_toInt64]
theorem fa_wide_le (a b : Int32) : a.toInt64 ≤ b.toInt64 ↔ a ≤ b := by rw [fa_le64, fa_le, Int32.toInt_toInt64, Int32.toInt_toInt64]
theorem fa_wide_eq (a b : Int32) : a.toInt64 = b.toInt64 ↔ a = b := by rw [fa_eq64, fa_eq, Int32.toInt_toInt64, Int32.toInt_toInt64]
/-- one strict comparison gives all the others -/
theorem fa_of_lt {a b : Int32} (h : a < b) : a ≤ b ∧ ¬ b ≤ a ∧ ¬ b < a ∧ a ≠ b ∧ b ≠ a := by
  rw [fa_lt] at h
  refine ⟨?_, ?_, ?_, ?_, ?_⟩
  · rw [fa_le]; omega
  · rw [fa_le]; omega
  · rw [fa_lt]; omega
  · intro e; rw [fa_eq] at e; omega
  · intro e; rw [fa_eq] at e; omega
theorem fa_of_nlt {a b : Int32} (h : ¬ a < b) : b ≤ a := by
  rw [fa_lt] at h
  rw [fa_le]
  omega
theorem fa_of_nle {a b : Int32} (h : ¬ a ≤ b) : b < a := by
  rw [fa_le] at h
  rw [fa_lt]
  omega
theorem fa_le_ne {a b : Int32} (h : a ≤ b) (h2 : a ≠ b) : a < b := by
  rw [fa_le] at h
  rw [fa_lt]
  have h3 : a.toInt ≠ b.toInt := fun e => h2 ((fa_eq a b).mpr e)
  omega
theorem fa_three (a b : Int32) : a < b ∨ a = b ∨ b < a := by
  rw [fa_lt, fa_lt, fa_eq]
  omega
theorem fa_trans {a b c : Int32} (h : a < b) (h2 : b ≤ c) : a < c := by
  rw [fa_lt] at *
  rw [fa_le] at h2
  omega
/-! ===== small literals as numbers ===== -/
theorem fa_lit (n : Nat) : (OfNat.ofNat n : Int32) = nI n := rfl
theorem fa_litL (n : Nat) : (OfNat.ofNat n : Int64) = lN n := rfl
/-! ===== bits of a number: 'or', masks, one bit ===== -/
theorem fa_and (a b : Nat) : nI a &&& nI b = nI (a &&& b) := by
  apply Int32.toBitVec_inj.1
  show BitVec.ofNat 32 a &&& BitVec.ofNat 32 b = BitVec.ofNat 32 (a &&& b)
  apply BitVec.eq_of_getLsbD_eq
  intro i hi
  simp [hi]
theorem fa_or (a b : Nat) : nI a ||| nI b = nI (a ||| b) := by
  apply Int32.toBitVec_inj.1
  show BitVec.ofNat 32 a ||| BitVec.ofNat 32 b = BitVec.ofNat 32 (a ||| b)
  apply BitVec.eq_of_getLsbD_eq
  intro i hi
  simp [hi]
/-- a remainder by a power of two, as a mask -/
theorem fa_mask (n k : Nat) : nI n &&& nI (2 ^ k - 1) = nI (n % 2 ^ k) := by rw [fa_and, Nat.and_two_pow_sub_one_eq_mod]
/-- 'or' of a high part and a low one that don't meet is their sum -/
theorem fa_or_sum {a k : Nat} (b : Nat) (h : a < 2 ^ k) : nI (2 ^ k * b) ||| nI a = nI (2 ^ k * b + a) := by rw [fa_or, Nat.two_pow_add_eq_or_of_lt h]
/-- one bit, by 'and' with a power of two -/
theorem fa_bit {n j : Nat} (hj : j < 31) : nI n &&& nI (2 ^ j) = 0 ↔ n.testBit j = false := by
  have h2 : (2 : Nat) ^ j < 2 ^ 31 := Nat.pow_lt_pow_right (by decide) hj
  have hle : n &&& 2 ^ j ≤ 2 ^ j := Nat.and_le_right
  have e : n &&& 2 ^ j = 0 ↔ n.testBit j = false := by
    constructor
    · intro h
      have h1 : (n &&& 2 ^ j).testBit j = false := by rw [h]; simp
      rw [Nat.testBit_and] at h1
      first | simpa using h1 | simpa [Nat.testBit_two_pow_self] using h1 | simpa [Nat.testBit_two_pow] using h1
    · intro h
      apply Nat.eq_of_testBit_eq
      intro i
      rw [Nat.testBit_and]
      by_cases hi : j = i
      · subst hi; simp [h]
      · first | (simp [Nat.testBit_two_pow, hi]; done) | (simp [Nat.testBit_two_pow_of_ne hi]; done)
  rw [fa_and]
  constructor
  · intro h
    apply e.mp
    rcases Nat.eq_zero_or_pos (n &&& 2 ^ j) with z | z
    · exact z
    · exact absurd h (nI_ne0 z (Nat.lt_of_le_of_lt hle h2))
  · intro h
    rw [e.mpr h]; exact nI_0
/-- a remainder by a power of two of a number that isn't negative, as Java divides -/
theorem fa_rem {a k : Nat} (ha : a < 2 ^ 31) (hk : k < 31) : nI a - nI a / nI (2 ^ k) * nI (2 ^ k) = nI (a % 2 ^ k) := pk_rem ha (Nat.two_pow_pos k) (Nat.pow_lt_pow_right (by decide) hk)
/-! ===== cuts to a byte, a short ===== -/
theorem fa_byte_xor (x y : Int32) : (x ^^^ y).toInt8 = x.toInt8 ^^^ y.toInt8 := by
  apply Int8.toBitVec_inj.1
  apply BitVec.eq_of_getLsbD_eq
  intro i hi
  first | (simp [hi]; done) | (simp [hi, BitVec.getLsbD_setWidth, BitVec.getLsbD_signExtend]; done)
theorem fa_short_xor (x y : Int32) : (x ^^^ y).toInt16 = x.toInt16 ^^^ y.toInt16 := by
  apply Int16.toBitVec_inj.1
  apply BitVec.eq_of_getLsbD_eq
  intro i hi
  first | (simp [hi]; done) | (simp [hi, BitVec.getLsbD_setWidth, BitVec.getLsbD_signExtend]; done)
/-- the cut to a byte sees the low byte alone -/
theorem fa_byte_low (x : Int32) : (x &&& 255).toInt8 = x.toInt8 := by
  apply Int8.toBitVec_inj.1
  apply BitVec.eq_of_getLsbD_eq
  intro i hi
  have h2 : (255 : Int32).toBitVec.getLsbD i = true := by
    have : ∀ j : Fin 8, (255 : Int32).toBitVec.getLsbD j.val = true := by decide +kernel
    exact this ⟨i, hi⟩
  have h4 : (x &&& 255).toBitVec.getLsbD i = x.toBitVec.getLsbD i := by
    show (x.toBitVec &&& (255 : Int32).toBitVec).getLsbD i = _
    rw [BitVec.getLsbD_and, h2, Bool.and_true]
  have h3 : i < 32 := by omega
  first
    | (show (((x &&& 255).toBitVec).signExtend 8).getLsbD i = (x.toBitVec.signExtend 8).getLsbD i; rw [BitVec.getLsbD_signExtend, BitVec.getLsbD_signExtend, if_pos h3, if_pos h3, h4])
    | (show (((x &&& 255).toBitVec).setWidth 8).getLsbD i = (x.toBitVec.setWidth 8).getLsbD i; rw [BitVec.getLsbD_setWidth, BitVec.getLsbD_setWidth, h4])
    | (simp [hi, h3, h4]; done)
theorem fa_short_low (x : Int32) : (x &&& 65535).toInt16 = x.toInt16 := by
  apply Int16.toBitVec_inj.1
  apply BitVec.eq_of_getLsbD_eq
  intro i hi
  have h2 : (65535 : Int32).toBitVec.getLsbD i = true := by
    have : ∀ j : Fin 16, (65535 : Int32).toBitVec.getLsbD j.val = true := by decide +kernel
    exact this ⟨i, hi⟩
  have h4 : (x &&& 65535).toBitVec.getLsbD i = x.toBitVec.getLsbD i := by
    show (x.toBitVec &&& (65535 : Int32).toBitVec).getLsbD i = _
    rw [BitVec.getLsbD_and, h2, Bool.and_true]
  have h3 : i < 32 := by omega
  first
    | (show (((x &&& 65535).toBitVec).signExtend 16).getLsbD i = (x.toBitVec.signExtend 16).getLsbD i; rw [BitVec.getLsbD_signExtend, BitVec.getLsbD_signExtend, if_pos h3, if_pos h3, h4])
    | (show (((x &&& 65535).toBitVec).setWidth 16).getLsbD i = (x.toBitVec.setWidth 16).getLsbD i; rw [BitVec.getLsbD_setWidth, BitVec.getLsbD_setWidth, h4])
    | (simp [hi, h3, h4]; done)
/-- a small number is its own byte, its own short -/
theorem fa_byte_small {n : Nat} (h : n < 128) : (nI n).toInt8.toInt32 = nI n := by
  have : ∀ j : Fin 128, (nI j.val).toInt8.toInt32 = nI j.val := by decide +kernel
  exact this ⟨n, h⟩
/-! ===== absolute difference ===== -/
theorem fa_absdiff {a b : Nat} (ha : a < 2 ^ 31) (hb : b < 2 ^ 31) : (if nI a < nI b then nI b - nI a else nI a - nI b) = nI (if a < b then b - a else a - b) := by
  by_cases h : a < b
  · rw [if_pos (nI_lt h hb), if_pos h]
    exact pk_sub (Nat.le_of_lt h)
  · rw [if_neg (nI_nlt (Nat.le_of_not_lt h) ha), if_neg h]
    exact pk_sub (Nat.le_of_not_lt h)
/-! ===== an array behind i stores, a conditional store, a row copied ===== -/
/-- f where k < i, what stood there else -/
def fa_fill {α : Type} (f g : Nat → α) (i : Nat) : Nat → α := fun k => if k < i then f k else g k
theorem fa_fill_0 {α : Type} (f g : Nat → α) : fa_fill f g 0 = g := funext fun k => if_neg (Nat.not_lt_zero k)
theorem fa_fill_in {α : Type} {f g : Nat → α} {i k : Nat} (h : k < i) : fa_fill f g i k = f k := if_pos h
theorem fa_fill_out {α : Type} {f g : Nat → α} {i k : Nat} (h : i ≤ k) : fa_fill f g i k = g k := if_neg (Nat.not_lt.mpr h)
theorem fa_fill_succ (f g : Nat → Int32) (i : Nat) : upd (fa_fill f g i) i (f i) = fa_fill f g (i + 1) := by
  funext k
  by_cases e : k = i
  · subst e
    rw [pk_us]
    exact (if_pos (Nat.lt_succ_self k)).symm
  · rw [pk_un e]
    by_cases h : k < i
    · rw [fa_fill_in h, fa_fill_in (Nat.lt_succ_of_lt h)]
    · rw [fa_fill_out (Nat.le_of_not_lt h), fa_fill_out (by omega)]
/-- a store that changes nothing -/
theorem fa_upd_same {f : Nat → Int32} {i : Nat} {x : Int32} (h : f i = x) : upd f i x = f := by
  funext k
  by_cases e : k = i
  · subst e
    rw [pk_us, h]
  · rw [pk_un e]
/-- a store under a condition, told as one -/
theorem fa_upd_if (c : Prop) [Decidable c] (f : Nat → Int32) (i : Nat) (x : Int32) : (if c then upd f i x else f) = upd f i (if c then x else f i) := by
  by_cases h : c
  · rw [if_pos h, if_pos h]
  · rw [if_neg h, if_neg h, fa_upd_same rfl]
/-- two stores at one place, at two -/
theorem fa_upd_twice (f : Nat → Int32) (i : Nat) (x y : Int32) : upd (upd f i x) i y = upd f i y := by
  funext k
  by_cases e : k = i
  · subst e
    rw [pk_us, pk_us]
  · rw [pk_un e, pk_un e, pk_un e]
theorem fa_upd_swap (f : Nat → Int32) {i j : Nat} (h : i ≠ j) (x y : Int32) : upd (upd f i x) j y = upd (upd f j y) i x := by
  funext k
  by_cases e : k = i
  · subst e
    rw [pk_un h, pk_us, pk_us]
  · by_cases e2 : k = j
    · subst e2
      rw [pk_us, pk_un e, pk_us]
    · rw [pk_un e2, pk_un e, pk_un e, pk_un e2]
/-! ===== the first index with a property; a count ===== -/
/-- the first k < n with p k, n if there is none -/
def fa_first (p : Nat → Bool) : Nat → Nat
  | 0 => 0
  | n + 1 => if fa_first p n < n then fa_first p n else if p n then n else n + 1
theorem fa_first_le (p : Nat → Bool) : ∀ n, fa_first p n ≤ n
  | 0 => Nat.le_refl 0
  | n + 1 => by
    have ih := fa_first_le p n
    unfold fa_first
    split
    · omega
    · split
      · omega
      · omega
theorem fa_first_no (p : Nat → Bool) : ∀ n k, k < fa_first p n → p k = false
  | 0, k, h => absurd h (Nat.not_lt_zero k)
  | n + 1, k, h => by
    have ih := fa_first_no p n
    have hl := fa_first_le p n
    unfold fa_first at h
    split at h
    · exact ih k h
    · rename_i h1
      split at h
      · exact ih k (by omega)
      · rename_i h2
        by_cases e : k = n
        · subst e
          exact Bool.eq_false_iff.mpr h2
        · exact ih k (by omega)
theorem fa_first_yes (p : Nat → Bool) : ∀ n, fa_first p n < n → p (fa_first p n) = true
  | 0, h => absurd h (Nat.not_lt_zero _)
  | n + 1, h => by
    have ih := fa_first_yes p n
    have hl := fa_first_le p n
    unfold fa_first at h ⊢
    split at h
    · rename_i h1
      rw [if_pos h1]
      exact ih h1
    · rename_i h1
      rw [if_neg h1]
      split at h
      · rename_i h2
        rw [if_pos h2]
        exact h2
      · omega
/-- how many k < n have p k -/
def fa_cnt (p : Nat → Bool) : Nat → Nat
  | 0 => 0
  | n + 1 => fa_cnt p n + if p n then 1 else 0
theorem fa_cnt_le (p : Nat → Bool) : ∀ n, fa_cnt p n ≤ n
  | 0 => Nat.le_refl 0
  | n + 1 => by
    have ih := fa_cnt_le p n
    unfold fa_cnt
    split
    · omega
    · omega
theorem fa_cnt_yes {p : Nat → Bool} {n : Nat} (h : p n = true) : fa_cnt p (n + 1) = fa_cnt p n + 1 := by rw [fa_cnt, if_pos h]
theorem fa_cnt_no {p : Nat → Bool} {n : Nat} (h : p n = false) : fa_cnt p (n + 1) = fa_cnt p n := by rw [fa_cnt, if_neg (by rw [h]; decide)]; rfl
theorem fa_cnt_cong {p q : Nat → Bool} : ∀ {n : Nat}, (∀ k, k < n → p k = q k) → fa_cnt p n = fa_cnt q n
  | 0, _ => rfl
  | n + 1, h => by rw [fa_cnt, fa_cnt, fa_cnt_cong (fun k hk => h k (Nat.lt_succ_of_lt hk)), h n (Nat.lt_succ_self n)]
/-! ===== an answer carried into a post; a branch on a boolean answer ===== -/
theorem fa_post {α : Type} {P : α → Prop} {x y : α} (h : x = y) (hp : P y) : P x := h ▸ hp
theorem fa_post2 {α β : Type} {P : α → β → Prop} {x y : α} {u v : β} (h : x = y) (h2 : u = v) (hp : P y v) : P x u := h ▸ h2 ▸ hp
theorem fa_bool {r : Int32} {b : Bool} (h : r = if b then 1 else 0) : (r = 0 ↔ b = false) ∧ (¬ r = 0 ↔ b = true) := by
  subst h
  cases b
  · exact ⟨⟨fun _ => rfl, fun _ => rfl⟩, ⟨fun h => absurd rfl h, fun h => absurd h (by decide)⟩⟩
  · exact ⟨⟨fun h => absurd h (by decide), fun h => absurd h (by decide)⟩, ⟨fun _ => rfl, fun _ => by decide⟩⟩
/-- a boolean's narrowing changes nothing -/
theorem fa_bool_and {r : Int32} (h : r = 0 ∨ r = 1) : r &&& 1 = r := by
  rcases h with rfl | rfl
  · decide
  · decide
theorem fa_bool_prop {c : Prop} [Decidable c] {r : Int32} (h : r = if c then 1 else 0) : (r = 0 ↔ ¬ c) ∧ (¬ r = 0 ↔ c) := by
  subst h
  by_cases hc : c
  · rw [if_pos hc]
    exact ⟨⟨fun h => absurd h (by decide), fun h => absurd hc h⟩, ⟨fun _ => hc, fun _ => by decide⟩⟩
  · rw [if_neg hc]
    exact ⟨⟨fun _ => hc, fun _ => rfl⟩, ⟨fun h => absurd rfl h, fun h => absurd h hc⟩⟩
end
section
/-! rows on bits, shifts and unsigned numbers, to paste: each family out of a closed proof of our own, whole with what it rests on; each by itself clean at Lean in its own claim (generation 39, form 5). Take a family whole -/
/-! ===== Int32 by its bits: bt x i ===== -/
def bt (x : Int32) (i : Nat) : Bool := x.toBitVec.getLsbD i
theorem b_ext {x y : Int32} (h : ∀ i, i < 32 → bt x i = bt y i) : x = y := Int32.toBitVec_inj.mp (BitVec.eq_of_getLsbD_eq (fun i hi => h i hi))
theorem b_or (x y : Int32) (i : Nat) : bt (x ||| y) i = (bt x i || bt y i) := by unfold bt; rw [Int32.toBitVec_or, BitVec.getLsbD_or]
theorem b_and (x y : Int32) (i : Nat) : bt (x &&& y) i = (bt x i && bt y i) := by unfold bt; rw [Int32.toBitVec_and, BitVec.getLsbD_and]
theorem b_xor (x y : Int32) (i : Nat) : bt (x ^^^ y) i = (bt x i ^^ bt y i) := by unfold bt; rw [Int32.toBitVec_xor, BitVec.getLsbD_xor]
theorem b_big {x : Int32} {i : Nat} (h : 32 ≤ i) : bt x i = false := BitVec.getLsbD_of_ge _ _ h
theorem b_255 (i : Nat) : bt 255 i = decide (i < 8) := by
  rcases Nat.lt_or_ge i 32 with h | h
  · exact (by decide +kernel : ∀ i, i < 32 → bt 255 i = decide (i < 8)) i h
  · rw [b_big h, decide_eq_false (by omega)]
theorem b_65535 (i : Nat) : bt 65535 i = decide (i < 16) := by
  rcases Nat.lt_or_ge i 32 with h | h
  · exact (by decide +kernel : ∀ i, i < 32 → bt 65535 i = decide (i < 16)) i h
  · rw [b_big h, decide_eq_false (by omega)]
theorem b_m1 : ∀ i, i < 32 → bt (-1) i = true := by decide +kernel
theorem b_0 (i : Nat) : bt 0 i = false := BitVec.getLsbD_zero
theorem s_l : ∀ n, n < 32 → ((nI n &&& 31).toBitVec.smod 32).toNat = n := by decide +kernel
theorem s_u : ∀ n, n < 32 → (((nI n).toUInt32 &&& Int32.toUInt32 31).toBitVec % 32).toNat = n := by decide +kernel
theorem b_shl (n : Nat) (hn : n < 32) (x : Int32) {i : Nat} (hi : i < 32) : bt (x <<< (nI n &&& 31)) i = (decide (n ≤ i) && bt x (i - n)) := by
  unfold bt
  rw [Int32.toBitVec_shiftLeft]
  show (x.toBitVec <<< ((nI n &&& 31).toBitVec.smod 32).toNat).getLsbD i = _
  rw [s_l n hn, BitVec.getLsbD_shiftLeft]
  rcases Nat.lt_or_ge i n with h | h
  · simp [h, Nat.not_le.mpr h]
  · simp [hi, h, Nat.not_lt.mpr h]
theorem b_ushr (n : Nat) (hn : n < 32) (x : Int32) (i : Nat) : bt ((x.toUInt32 >>> ((nI n).toUInt32 &&& Int32.toUInt32 31)).toInt32) i = bt x (n + i) := by
  show (x.toUInt32 >>> ((nI n).toUInt32 &&& Int32.toUInt32 31)).toBitVec.getLsbD i = x.toUInt32.toBitVec.getLsbD (n + i)
  rw [UInt32.toBitVec_shiftRight]
  show (x.toUInt32.toBitVec >>> (((nI n).toUInt32 &&& Int32.toUInt32 31).toBitVec % 32).toNat).getLsbD i = _
  rw [s_u n hn, BitVec.getLsbD_ushiftRight]
theorem b_sshr (n : Nat) (hn : n < 32) (x : Int32) {i : Nat} (hi : i < 32) : bt (x >>> (nI n &&& 31)) i = if n + i < 32 then bt x (n + i) else bt x 31 := by
  unfold bt
  rw [Int32.toBitVec_shiftRight]
  show (x.toBitVec.sshiftRight ((nI n &&& 31).toBitVec.smod 32).toNat).getLsbD i = _
  rw [s_l n hn, BitVec.getLsbD_sshiftRight, BitVec.msb_eq_getLsbD_last]
  simp [hi]
theorem b_shl8 (x : Int32) {i : Nat} (hi : i < 32) : bt (x <<< ((8 : Int32) &&& 31)) i = (decide (8 ≤ i) && bt x (i - 8)) := b_shl 8 (by omega) x hi
theorem b_shl16 (x : Int32) {i : Nat} (hi : i < 32) : bt (x <<< ((16 : Int32) &&& 31)) i = (decide (16 ≤ i) && bt x (i - 16)) := b_shl 16 (by omega) x hi
theorem b_shl24 (x : Int32) {i : Nat} (hi : i < 32) : bt (x <<< ((24 : Int32) &&& 31)) i = (decide (24 ≤ i) && bt x (i - 24)) := b_shl 24 (by omega) x hi
theorem b_sshr8 (x : Int32) {i : Nat} (hi : i < 32) : bt (x >>> ((8 : Int32) &&& 31)) i = if 8 + i < 32 then bt x (8 + i) else bt x 31 := b_sshr 8 (by omega) x hi
/-! ===== nI under and, xor, >>>, one bit, 65535 ===== -/
theorem nx_and (a b : Nat) : nI a &&& nI b = nI (a &&& b) := by
  apply Int32.toBitVec_inj.1
  show BitVec.ofNat 32 a &&& BitVec.ofNat 32 b = BitVec.ofNat 32 (a &&& b)
  apply BitVec.eq_of_getLsbD_eq
  intro i hi
  simp [hi]
theorem nx_xor (a b : Nat) : nI a ^^^ nI b = nI (a ^^^ b) := by
  apply Int32.toBitVec_inj.1
  show BitVec.ofNat 32 a ^^^ BitVec.ofNat 32 b = BitVec.ofNat 32 (a ^^^ b)
  apply BitVec.eq_of_getLsbD_eq
  intro i hi
  simp [hi]
theorem nx_cnt : ∀ j : Fin 32, (UInt32.ofNat j.val &&& Int32.toUInt32 31).toNat % 32 = j.val := by decide +kernel
theorem nx_ush {k j : Nat} (hk : k < 65536) (hj : j < 32) : ((nI k).toUInt32 >>> ((nI j).toUInt32 &&& Int32.toUInt32 31)).toInt32 = nI (k >>> j) := by
  have hs : k >>> j ≤ k := by
    rw [Nat.shiftRight_eq_div_pow]
    exact Nat.div_le_self _ _
  have e2 : UInt32.ofNat k >>> (UInt32.ofNat j &&& Int32.toUInt32 31) = UInt32.ofNat (k >>> j) := by
    apply UInt32.toNat_inj.1
    have h1 : (UInt32.ofNat k).toNat = k := Nat.mod_eq_of_lt (by omega)
    have h2 : (UInt32.ofNat (k >>> j)).toNat = k >>> j := Nat.mod_eq_of_lt (by omega)
    rw [UInt32.toNat_shiftRight, nx_cnt ⟨j, hj⟩, h1, h2]
  show (UInt32.ofNat k >>> (UInt32.ofNat j &&& Int32.toUInt32 31)).toInt32 = _
  rw [e2]
  rfl
theorem nx_bit {k j : Nat} (hk : k < 65536) (hj : j < 16) : (((nI k).toUInt32 >>> ((nI j).toUInt32 &&& Int32.toUInt32 31)).toInt32 &&& 1) = 0 ↔ k.testBit j = false := by
  rw [nx_ush hk (by omega)]
  show nI (k >>> j) &&& nI 1 = 0 ↔ _
  rw [nx_and, Nat.and_one_is_mod, ← nI_0, nI_eq (by omega) (by omega), Nat.testBit_eq_decide_div_mod_eq, Nat.shiftRight_eq_div_pow, decide_eq_false_iff_not]
  generalize k / 2 ^ j = z
  omega
theorem nx_mod (k : Nat) : nI k &&& 65535 = nI (k % 65536) := by
  show nI k &&& nI 65535 = _
  rw [nx_and, show (65535 : Nat) = 2 ^ 16 - 1 from rfl, Nat.and_two_pow_sub_one_eq_mod]
theorem nx_m16 {k : Nat} (h : k < 65536) : nI k &&& 65535 = nI k := by rw [nx_mod, Nat.mod_eq_of_lt h]
theorem nx_mask (x : Int32) : ∃ k, k < 65536 ∧ x &&& 65535 = nI k := by
  have e : x = nI x.toBitVec.toNat := by
    apply Int32.toBitVec_inj.1
    show x.toBitVec = BitVec.ofNat 32 x.toBitVec.toNat
    simp
  refine ⟨x.toBitVec.toNat % 65536, Nat.mod_lt _ (by omega), ?_⟩
  rw [← nx_mod, ← e]
/-! ===== Int32 as a set of bits: test, set ===== -/
def nf_M (m : Int32) : Nat := 4294967296 - m.toBitVec.toNat
theorem nf_sh : ∀ l, l < 32 → ((1 : Int32) <<< (nI l &&& 31)).toBitVec = BitVec.twoPow 32 l := by decide +kernel
theorem nf_sl : ∀ l, l < 32 → (((nI l).toUInt32 &&& Int32.toUInt32 31).toBitVec % 32).toNat = l := by decide +kernel
theorem nf_tp : ∀ l, l < 32 → BitVec.twoPow 32 l ≠ 0#32 := by decide +kernel
theorem nf_bit (m : Int32) (l : Nat) (hl : l < 32) : ((m.toUInt32 >>> ((nI l).toUInt32 &&& Int32.toUInt32 31)).toInt32 &&& 1) = 0 ↔ (m &&& ((1 : Int32) <<< (nI l &&& 31))) = 0 := by
  have e : ((m.toUInt32 >>> ((nI l).toUInt32 &&& Int32.toUInt32 31)).toInt32).toBitVec = m.toBitVec >>> l := by
    show m.toBitVec >>> (((nI l).toUInt32 &&& Int32.toUInt32 31).toBitVec % 32) = m.toBitVec >>> l
    rw [BitVec.ushiftRight_eq', nf_sl l hl]
  rw [← Int32.toBitVec_inj, ← Int32.toBitVec_inj, Int32.toBitVec_and, Int32.toBitVec_and, nf_sh l hl, e, BitVec.and_twoPow]
  show (m.toBitVec >>> l &&& 1#32) = 0#32 ↔ _ = 0#32
  rw [BitVec.and_one_eq_setWidth_ofBool_getLsbD, BitVec.getLsbD_ushiftRight, Nat.add_zero]
  cases hb : m.toBitVec.getLsbD l
  · exact ⟨fun _ => by simp, fun _ => by decide⟩
  · exact ⟨fun z => absurd z (by decide), fun z => absurd ((if_pos rfl).symm.trans z) (nf_tp l hl)⟩
theorem nf_gr (m k : Int32) (h : m &&& k = 0) (hk : k ≠ 0) : nf_M (m ||| k) < nf_M m := by
  have hm := m.toBitVec.isLt
  have hm' := (m ||| k).toBitVec.isLt
  have h1 : m.toBitVec.toNat ≤ (m ||| k).toBitVec.toNat := by
    rw [Int32.toBitVec_or, BitVec.toNat_or]
    exact Nat.left_le_or
  have h2 : m.toBitVec.toNat ≠ (m ||| k).toBitVec.toNat := by
    intro e
    have e2 : m = m ||| k := Int32.toBitVec_inj.mp (BitVec.eq_of_toNat_eq e)
    apply hk
    apply Int32.toBitVec_inj.mp
    show k.toBitVec = 0#32
    apply BitVec.eq_of_getLsbD_eq
    intro i hi
    have a : m.toBitVec.getLsbD i = (m.toBitVec.getLsbD i || k.toBitVec.getLsbD i) := by rw [← BitVec.getLsbD_or, ← Int32.toBitVec_or, ← e2]
    have b : (m.toBitVec.getLsbD i && k.toBitVec.getLsbD i) = false := by
      rw [← BitVec.getLsbD_and, ← Int32.toBitVec_and, h]
      exact BitVec.getLsbD_zero
    rw [BitVec.getLsbD_zero]
    revert a b
    cases m.toBitVec.getLsbD i <;> cases k.toBitVec.getLsbD i <;> simp
  unfold nf_M
  omega
/-! ===== a byte read unsigned ===== -/
theorem bp_b (x : Int32) : x.toInt8.toInt32 &&& 255 = x &&& 255 := by
  apply Int32.toBitVec_inj.mp
  rw [Int32.toBitVec_and, Int32.toBitVec_and, Int8.toBitVec_toInt32, Int32.toBitVec_toInt8]
  apply BitVec.eq_of_getLsbD_eq
  intro i hi
  rw [BitVec.getLsbD_and, BitVec.getLsbD_and]
  have hm : ∀ i < 32, 8 ≤ i → (255 : Int32).toBitVec.getLsbD i = false := by decide
  rcases Nat.lt_or_ge i 8 with z | z
  · rw [BitVec.getLsbD_signExtend, BitVec.getLsbD_signExtend, if_pos z, if_pos hi]
    simp only [z, hi, decide_true, Bool.true_and]
  · rw [hm i hi z]; simp
/-! ===== the char cast and 65535 ===== -/
theorem ts_nf {x : Bool} (h : ¬ x = false) : x = true := by cases x <;> first | rfl | exact absurd rfl h
theorem ts_nt {x : Bool} (h : ¬ x = true) : x = false := by cases x <;> first | rfl | exact absurd rfl h
theorem ts_bit {w : Int64} {s : UInt64} {j : Nat} (hj : j < 64) (hs : s.toNat = j) : ((w.toUInt64 >>> s).toInt64 &&& 1) = 0 ↔ w.toBitVec.getLsbD j = false := by
  have e : (w.toUInt64 >>> s).toInt64.toBitVec = w.toBitVec >>> j := by
    apply BitVec.eq_of_toNat_eq
    show (w.toUInt64 >>> s).toNat = _
    rw [UInt64.toNat_shiftRight, hs, Nat.mod_eq_of_lt hj, BitVec.toNat_ushiftRight]
    rfl
  rw [← Int64.toBitVec_inj, Int64.toBitVec_and, e]
  show w.toBitVec >>> j &&& 1#64 = 0#64 ↔ _
  constructor
  · intro h
    have t := congrArg (fun x => x.getLsbD 0) h
    simpa using t
  · intro h
    apply BitVec.eq_of_getLsbD_eq
    intro i hi
    cases i with
    | zero => simp [h]
    | succ i => simp
theorem ts_or {w m : Int64} {j : Nat} (hj : j < 64) (hm : m.toBitVec = BitVec.twoPow 64 j) : (w ||| m) = w ↔ w.toBitVec.getLsbD j = true := by
  rw [← Int64.toBitVec_inj, Int64.toBitVec_or, hm]
  constructor
  · intro h
    have t := congrArg (fun x => x.getLsbD j) h
    simp only [BitVec.getLsbD_or, BitVec.getLsbD_twoPow] at t
    simpa [hj] using t.symm
  · intro h
    apply BitVec.eq_of_getLsbD_eq
    intro i hi
    rw [BitVec.getLsbD_or, BitVec.getLsbD_twoPow]
    by_cases e : j = i
    · subst e; rw [h, Bool.true_or]
    · simp [e]
theorem ts_and {w m : Int64} {j : Nat} (hj : j < 64) (hm : m.toBitVec = BitVec.twoPow 64 j) : (w &&& (m ^^^ (-1))) = w ↔ w.toBitVec.getLsbD j = false := by
  have ha : (-1 : Int64).toBitVec = BitVec.allOnes 64 := by decide
  rw [← Int64.toBitVec_inj, Int64.toBitVec_and, Int64.toBitVec_xor, hm, ha]
  constructor
  · intro h
    have t := congrArg (fun x => x.getLsbD j) h
    simp only [BitVec.getLsbD_and, BitVec.getLsbD_xor, BitVec.getLsbD_twoPow, BitVec.getLsbD_allOnes] at t
    simpa [hj] using t.symm
  · intro h
    apply BitVec.eq_of_getLsbD_eq
    intro i hi
    rw [BitVec.getLsbD_and, BitVec.getLsbD_xor, BitVec.getLsbD_twoPow, BitVec.getLsbD_allOnes]
    by_cases e : j = i
    · subst e; rw [h, Bool.false_and]
    · simp [e, hi]
/-! ===== lN n to 2^64: shifts, and, or, masks, one bit ===== -/
theorem wb_tb (n : Nat) : (lN n).toBitVec = BitVec.ofNat 64 n := rfl
theorem wb_inj {a b : Int64} (h : a.toBitVec = b.toBitVec) : a = b := Int64.toBitVec_inj.mp h
theorem wb_tn {n : Nat} (h : n < 2 ^ 64) : (lN n).toBitVec.toNat = n := by rw [wb_tb, BitVec.toNat_ofNat, Nat.mod_eq_of_lt h]
theorem wb_of (x : Int64) : ∃ n, n < 2 ^ 64 ∧ x = lN n := ⟨x.toBitVec.toNat, x.toBitVec.isLt, wb_inj (by rw [wb_tb]; simp)⟩
theorem wb_of32 (x : Int32) : ∃ n, n < 2 ^ 32 ∧ x = nI n := ⟨x.toBitVec.toNat, x.toBitVec.isLt, Int32.toBitVec_inj.mp (by show _ = BitVec.ofNat 32 _; simp)⟩
theorem wb_c : ∀ k, k < 64 → ((nI k).toInt64 &&& 63) = lN k := by decide +kernel
theorem wb_cu : ∀ k, k < 64 → ((nI k).toInt64.toUInt64 &&& Int64.toUInt64 63) = UInt64.ofNat k := by decide +kernel
theorem wb_sm : ∀ k, k < 64 → (BitVec.ofNat 64 k).smod 64 = BitVec.ofNat 64 k := by decide +kernel
theorem wb_pw {a b : Nat} (h : a ≤ b) : 2 ^ b = 2 ^ a * 2 ^ (b - a) := by rw [← Nat.pow_add]; congr 1; omega
theorem wb_lt2 {a b : Nat} (h : a < b) : 2 ^ a < 2 ^ b := Nat.pow_lt_pow_right (by decide) h
theorem wb_mod (n : Nat) : lN n = lN (n % 2 ^ 64) := wb_inj (by rw [wb_tb, wb_tb]; apply BitVec.eq_of_toNat_eq; rw [BitVec.toNat_ofNat, BitVec.toNat_ofNat, Nat.mod_mod])
theorem wb_shr {n k : Nat} (hn : n < 2 ^ 64) (hk : k < 64) : ((lN n).toUInt64 >>> ((nI k).toInt64.toUInt64 &&& Int64.toUInt64 63)).toInt64 = lN (n / 2 ^ k) := by
  rw [wb_cu k hk]
  apply wb_inj
  apply BitVec.eq_of_toNat_eq
  show ((lN n).toUInt64 >>> UInt64.ofNat k).toNat = (BitVec.ofNat 64 _).toNat
  have h1 : (UInt64.ofNat k).toNat = k := by
    show (BitVec.ofNat 64 k).toNat = k
    rw [BitVec.toNat_ofNat, Nat.mod_eq_of_lt (by omega)]
  have h2 : (lN n).toUInt64.toNat = n := wb_tn hn
  rw [UInt64.toNat_shiftRight, h1, h2, Nat.mod_eq_of_lt hk, Nat.shiftRight_eq_div_pow, BitVec.toNat_ofNat, Nat.mod_eq_of_lt (Nat.lt_of_le_of_lt (Nat.div_le_self _ _) hn)]
theorem wb_shl (n : Nat) {k : Nat} (hk : k < 64) : lN n <<< ((nI k).toInt64 &&& 63) = lN (n * 2 ^ k) := by
  rw [wb_c k hk]
  apply wb_inj
  rw [Int64.toBitVec_shiftLeft, wb_tb, wb_tb, wb_tb, wb_sm k hk]
  apply BitVec.eq_of_toNat_eq
  rw [BitVec.shiftLeft_eq', BitVec.toNat_shiftLeft, BitVec.toNat_ofNat, BitVec.toNat_ofNat, BitVec.toNat_ofNat, Nat.mod_eq_of_lt (show k < 2 ^ 64 by omega), Nat.shiftLeft_eq, Nat.mul_mod, Nat.mod_mod, ← Nat.mul_mod]
theorem wb_and {a b : Nat} (ha : a < 2 ^ 64) (hb : b < 2 ^ 64) : lN a &&& lN b = lN (a &&& b) := by
  apply wb_inj
  rw [Int64.toBitVec_and, wb_tb, wb_tb, wb_tb]
  apply BitVec.eq_of_toNat_eq
  rw [BitVec.toNat_and, BitVec.toNat_ofNat, BitVec.toNat_ofNat, BitVec.toNat_ofNat, Nat.mod_eq_of_lt ha, Nat.mod_eq_of_lt hb, Nat.mod_eq_of_lt (Nat.and_lt_two_pow _ hb)]
theorem wb_or {a b : Nat} (ha : a < 2 ^ 64) (hb : b < 2 ^ 64) : lN a ||| lN b = lN (a ||| b) := by
  apply wb_inj
  rw [Int64.toBitVec_or, wb_tb, wb_tb, wb_tb]
  apply BitVec.eq_of_toNat_eq
  rw [BitVec.toNat_or, BitVec.toNat_ofNat, BitVec.toNat_ofNat, BitVec.toNat_ofNat, Nat.mod_eq_of_lt ha, Nat.mod_eq_of_lt hb, Nat.mod_eq_of_lt (Nat.or_lt_two_pow ha hb)]
theorem wb_mask {n k : Nat} (hn : n < 2 ^ 64) (hk : k < 64) : lN n &&& lN (2 ^ k - 1) = lN (n % 2 ^ k) := by
  rw [wb_and hn (by have := wb_lt2 hk; omega), Nat.and_two_pow_sub_one_eq_mod]
theorem wb_a1 {n : Nat} (hn : n < 2 ^ 64) : lN n &&& 1 = lN (n % 2) := wb_mask (k := 1) hn (by decide)
theorem wb_bit {n k : Nat} (hn : n < 2 ^ 64) (hk : k < 64) : ((lN n).toUInt64 >>> ((nI k).toInt64.toUInt64 &&& Int64.toUInt64 63)).toInt64 &&& 1 = lN (n / 2 ^ k % 2) := by
  rw [wb_shr hn hk, wb_a1 (Nat.lt_of_le_of_lt (Nat.div_le_self _ _) hn)]
theorem wb_xor {q k : Nat} (hk : k < 63) (h : 2 ^ k ≤ q) (h2 : q < 2 ^ (k + 1)) : lN q ^^^ lN (2 ^ k) = lN (q - 2 ^ k) := by
  obtain ⟨r, rfl⟩ : ∃ r, q = 2 ^ k + r := ⟨q - 2 ^ k, by omega⟩
  have hr : r < 2 ^ k := by rw [Nat.pow_succ] at h2; omega
  have hx : (2 ^ k + r) ^^^ 2 ^ k = r := by
    apply Nat.eq_of_testBit_eq
    intro i
    rw [Nat.testBit_xor, Nat.testBit_two_pow]
    rcases Nat.lt_trichotomy i k with h | h | h
    · rw [Nat.testBit_two_pow_add_gt h]
      simp [show ¬ k = i by omega]
    · subst h
      rw [Nat.testBit_two_pow_add_eq]
      simp
    · have a1 : 2 ^ (k + 1) ≤ 2 ^ i := Nat.pow_le_pow_right (by decide) h
      rw [Nat.testBit_lt_two_pow (show 2 ^ k + r < 2 ^ i by omega), Nat.testBit_lt_two_pow (show r < 2 ^ i by omega)]
      simp [show ¬ k = i by omega]
  have b1 := wb_lt2 (show k + 1 < 64 by omega)
  have b2 := wb_lt2 (show k < 64 by omega)
  apply wb_inj
  rw [Int64.toBitVec_xor, wb_tb, wb_tb, wb_tb]
  apply BitVec.eq_of_toNat_eq
  rw [BitVec.toNat_xor, BitVec.toNat_ofNat, BitVec.toNat_ofNat, BitVec.toNat_ofNat, Nat.mod_eq_of_lt (by omega : 2 ^ k + r < 2 ^ 64), Nat.mod_eq_of_lt b2, hx, Nat.add_sub_cancel_left, Nat.mod_eq_of_lt (by omega)]
/-! ===== lN: masks, 'or' of parts that don't overlap is a sum ===== -/
theorem u_tn {n : Nat} (h : n < 2 ^ 64) : (UInt64.ofNat n).toNat = n := Nat.mod_eq_of_lt h
theorem g_and {a b c : Nat} (ha : a < 2 ^ 64) (hb : b < 2 ^ 64) (hc : a &&& b = c) : lN a &&& lN b = lN c := by
  subst hc
  have h : UInt64.ofNat a &&& UInt64.ofNat b = UInt64.ofNat (a &&& b) := UInt64.toNat_inj.mp (by rw [UInt64.toNat_and, u_tn ha, u_tn hb, u_tn (Nat.and_lt_two_pow a hb)])
  have h2 := congrArg UInt64.toInt64 h
  exact h2
theorem g_and1 {a : Nat} (ha : a < 2 ^ 64) : lN a &&& 1 = lN (a % 2) := g_and (b := 1) ha (by decide) (Nat.and_two_pow_sub_one_eq_mod a 1)
theorem g_mask {a s p : Nat} (hp : 2 ^ s = p) (hs : s < 64) (ha : a < 2 ^ 64) : lN a &&& lN (p - 1) = lN (a % p) := by
  subst hp
  have := Nat.pow_lt_pow_right (show 1 < 2 by decide) hs
  exact g_and ha (by omega) (Nat.and_two_pow_sub_one_eq_mod a s)
theorem g_or {k p a b : Nat} (hp : 2 ^ k = p) (ha : a < p) (h : b * p + a < 2 ^ 64) : lN (b * p) ||| lN a = lN (b * p + a) := by
  subst hp
  have h1 : b * 2 ^ k ||| a = b * 2 ^ k + a := by rw [← Nat.shiftLeft_eq, Nat.shiftLeft_add_eq_or_of_lt ha]
  have h3 : UInt64.ofNat (b * 2 ^ k) ||| UInt64.ofNat a = UInt64.ofNat (b * 2 ^ k + a) := UInt64.toNat_inj.mp (by rw [UInt64.toNat_or, u_tn (by omega), u_tn (by omega), u_tn h, h1])
  have h2 := congrArg UInt64.toInt64 h3
  exact h2
theorem g_or' {k p a b : Nat} (hp : 2 ^ k = p) (ha : a < p) (h : a + b * p < 2 ^ 64) : lN a ||| lN (b * p) = lN (a + b * p) := by
  rw [Int64.or_comm, g_or hp ha (by omega), Nat.add_comm]
theorem g_ushr {a k p : Nat} {y : UInt64} (hy : y = UInt64.ofNat k) (hk : k < 64) (hp : 2 ^ k = p) (ha : a < 2 ^ 64) : ((lN a).toUInt64 >>> y).toInt64 = lN (a / p) := by
  subst hy hp
  have h : UInt64.ofNat a >>> UInt64.ofNat k = UInt64.ofNat (a / 2 ^ k) := UInt64.toNat_inj.mp (by rw [UInt64.toNat_shiftRight, u_tn ha, u_tn (by omega), u_tn (Nat.lt_of_le_of_lt (Nat.div_le_self _ _) ha), Nat.mod_eq_of_lt hk, Nat.shiftRight_eq_div_pow])
  have h2 := congrArg UInt64.toInt64 h
  exact h2
theorem g_shl {a k p : Nat} {y : Int64} (hy : y.toBitVec.smod 64 = BitVec.ofNat 64 k) (hk : k < 64) (hp : 2 ^ k = p) (ha : a < 2 ^ 64) : lN a <<< y = lN (a * p) := by
  subst hp
  apply Int64.toBitVec_inj.mp
  rw [Int64.toBitVec_shiftLeft, hy]
  apply BitVec.eq_of_toNat_eq
  have hb : (lN a).toBitVec.toNat = a := Nat.mod_eq_of_lt ha
  have hk' : (BitVec.ofNat 64 k).toNat = k := Nat.mod_eq_of_lt (by omega)
  have h : ((lN a).toBitVec <<< BitVec.ofNat 64 k).toNat = (a * 2 ^ k) % 2 ^ 64 := by simp only [BitVec.shiftLeft_eq', BitVec.toNat_shiftLeft, hb, hk', Nat.shiftLeft_eq]
  exact h
/-! ===== lN to 2^62 under >> and >>> ===== -/
theorem pf_lI {a : Nat} (h : a < 2 ^ 63) : (lN a).toInt = (a : Int) := lg_ofNat_toInt h
theorem pf_shr {a d : Nat} {D : Int64} (hD : (D.toBitVec.smod 64).toNat = d) (h : a < 2 ^ 62) : lN a >>> D = lN (a / 2 ^ d) := by
  have hd : a / 2 ^ d ≤ a := Nat.div_le_self _ _
  apply Int64.toInt_inj.mp
  have e : (lN a >>> D).toInt = (lN a).toInt >>> d := by
    rw [← hD]
    exact BitVec.toInt_sshiftRight ..
  rw [e, Int.shiftRight_eq_div_pow, pf_lI (by omega), pf_lI (by omega)]
  rfl
theorem pf_ushr {a d : Nat} {D : UInt64} (hD : D.toNat % 64 = d) (h : a < 2 ^ 62) : ((lN a).toUInt64 >>> D).toInt64 = lN (a / 2 ^ d) := by
  have hd : a / 2 ^ d ≤ a := Nat.div_le_self _ _
  have e : (lN a).toUInt64 >>> D = UInt64.ofNat (a / 2 ^ d) := UInt64.toNat_inj.mp (by
    rw [UInt64.toNat_shiftRight, hD, Nat.shiftRight_eq_div_pow, UInt64.toNat_ofNat']
    show (UInt64.ofNat a).toNat / 2 ^ d = _
    rw [UInt64.toNat_ofNat', Nat.mod_eq_of_lt (by omega), Nat.mod_eq_of_lt (by omega)])
  rw [e]
  rfl
theorem pf_andw (x : Int64) : ∃ m, m < 2 ^ 32 ∧ x &&& 4294967295 = lN m := ⟨x.toBitVec.toNat % 2 ^ 32, Nat.mod_lt _ (by decide), Int64.toBitVec_inj.mp (BitVec.eq_of_toNat_eq (by
  show (x.toBitVec &&& 4294967295#64).toNat = (BitVec.ofNat 64 (x.toBitVec.toNat % 2 ^ 32)).toNat
  rw [BitVec.toNat_and, show (4294967295#64).toNat = 2 ^ 32 - 1 from by decide, Nat.and_two_pow_sub_one_eq_mod, BitVec.toNat_ofNat]
  omega))⟩
/-! ===== Int64 as an unsigned number: uN x ===== -/
def uN (x : Int64) : Nat := x.toUInt64.toNat
theorem uN_lt (x : Int64) : uN x < 18446744073709551616 := x.toUInt64.toNat_lt
theorem uN_inj {x y : Int64} (h : uN x = uN y) : x = y := congrArg UInt64.toInt64 (UInt64.toNat_inj.mp h)
theorem uN_add (x y : Int64) : uN (x + y) = (uN x + uN y) % 18446744073709551616 := by
  show (x.toUInt64 + y.toUInt64).toNat = _
  exact UInt64.toNat_add _ _
theorem uN_mul (x y : Int64) : uN (x * y) = (uN x * uN y) % 18446744073709551616 := by
  show (x.toUInt64 * y.toUInt64).toNat = _
  exact UInt64.toNat_mul _ _
theorem uN_shl (x : Int64) : uN (x <<< ((1 : Int32).toInt64 &&& 63)) = (2 * uN x) % 18446744073709551616 := by
  have h : (((1 : Int32).toInt64 &&& 63).toBitVec.smod 64).toNat = 1 := by decide
  show (x.toBitVec <<< (((1 : Int32).toInt64 &&& 63).toBitVec.smod 64).toNat).toNat = _
  rw [h, BitVec.toNat_shiftLeft, Nat.shiftLeft_eq, Nat.mul_comm]
  rfl
theorem uN_shr (x : Int64) (s : UInt64) : uN (x.toUInt64 >>> s).toInt64 = uN x / 2 ^ (s.toNat % 64) := by
  show (x.toUInt64 >>> s).toNat = _
  rw [UInt64.toNat_shiftRight, Nat.shiftRight_eq_div_pow]
  rfl
theorem uN_s32 (x : Int64) : uN (x.toUInt64 >>> ((32 : Int32).toInt64.toUInt64 &&& Int64.toUInt64 63)).toInt64 = uN x / 4294967296 := by
  have h : ((32 : Int32).toInt64.toUInt64 &&& Int64.toUInt64 63).toNat % 64 = 32 := by decide
  rw [uN_shr, h]
theorem uN_s63 (x : Int64) : uN (x.toUInt64 >>> ((63 : Int32).toInt64.toUInt64 &&& Int64.toUInt64 63)).toInt64 = uN x / 9223372036854775808 := by
  have h : ((63 : Int32).toInt64.toUInt64 &&& Int64.toUInt64 63).toNat % 64 = 63 := by decide
  rw [uN_shr, h]
theorem uN_lo (x : Int64) : uN (x &&& 4294967295) = uN x % 4294967296 := by
  show (x.toUInt64 &&& Int64.toUInt64 4294967295).toNat = _
  rw [UInt64.toNat_and]
  exact Nat.and_two_pow_sub_one_eq_mod _ 32
theorem uN_bit (x : Int64) : (x &&& 1) = 0 ↔ uN x % 2 = 0 := by
  have h : uN (x &&& 1) = uN x % 2 := by
    show (x.toUInt64 &&& Int64.toUInt64 1).toNat = _
    rw [UInt64.toNat_and]
    exact Nat.and_two_pow_sub_one_eq_mod _ 1
  rw [← h]
  exact ⟨fun z => by rw [z]; rfl, fun z => uN_inj (z.trans rfl)⟩
theorem uN_or {x y : Int64} (hy : uN y < 2) : uN ((x <<< ((1 : Int32).toInt64 &&& 63)) ||| y) = (2 * uN x) % 18446744073709551616 + uN y := by
  have h1 : uN ((x <<< ((1 : Int32).toInt64 &&& 63)) ||| y) = uN (x <<< ((1 : Int32).toInt64 &&& 63)) ||| uN y := UInt64.toNat_or _ _
  have h2 : (2 * uN x) % 18446744073709551616 = 2 ^ 1 * (uN x % 9223372036854775808) := by omega
  rw [h1, uN_shl, h2]
  exact (Nat.two_pow_add_eq_or_of_lt (i := 1) hy _).symm
theorem nat_xor {a : Nat} (h : a < 18446744073709551616) : a ^^^ 2 ^ 63 = (a + 9223372036854775808) % 18446744073709551616 := by
  have h1 : (a ^^^ 2 ^ 63) % 2 ^ 63 = a % 2 ^ 63 := by rw [Nat.xor_mod_two_pow, Nat.mod_self, Nat.xor_zero]
  have h2 : (a ^^^ 2 ^ 63) / 2 ^ 63 = (a / 2 ^ 63) ^^^ 1 := by rw [Nat.xor_div_two_pow, Nat.div_self (Nat.two_pow_pos 63)]
  have h3 : a / 2 ^ 63 = 0 ∨ a / 2 ^ 63 = 1 := by omega
  generalize a ^^^ 2 ^ 63 = t at h1 h2
  rcases h3 with h3 | h3
  · rw [h3] at h2
    have h2 : t / 2 ^ 63 = 1 := h2
    omega
  · rw [h3] at h2
    have h2 : t / 2 ^ 63 = 0 := h2
    omega
theorem uN_xor (x : Int64) : uN (x ^^^ (-9223372036854775808)) = (uN x + 9223372036854775808) % 18446744073709551616 := by
  rw [← nat_xor (uN_lt x)]
  exact UInt64.toNat_xor _ _
theorem uN_int (x : Int64) : x.toInt = if 2 * uN x < 18446744073709551616 then (uN x : Int) else (uN x : Int) - 18446744073709551616 := BitVec.toInt_eq_toNat_cond _
theorem uN_le (x y : Int64) : (x ^^^ (-9223372036854775808)) ≤ (y ^^^ (-9223372036854775808)) ↔ uN x ≤ uN y := by
  have hx := uN_lt x
  have hy := uN_lt y
  rw [Int64.le_iff_toInt_le, uN_int, uN_int, uN_xor, uN_xor]
  omega
theorem uN_sk (x : Int64) {k : Nat} (hk : k < 64) : uN (x.toUInt64 >>> ((nI k).toInt64.toUInt64 &&& Int64.toUInt64 63)).toInt64 = uN x / 2 ^ k := by
  have h : ((nI k).toInt64.toUInt64 &&& Int64.toUInt64 63).toNat % 64 = k := by
    rw [nI_l (by omega), UInt64.toNat_and]
    have e : (lN k).toUInt64.toNat = k % 2 ^ 64 := rfl
    have e2 : (Int64.toUInt64 63).toNat = 2 ^ 6 - 1 := by decide
    rw [e, e2, Nat.and_two_pow_sub_one_eq_mod]
    omega
  rw [uN_shr, h]
/-! ===== unsigned comparison by xor with the least ===== -/
theorem lN_bv (n : Nat) : (lN n).toBitVec = BitVec.ofNat 64 n := rfl
theorem lN_nat {n : Nat} (h : n < 2 ^ 64) : (lN n).toBitVec.toNat = n := by rw [lN_bv, BitVec.toNat_ofNat]; exact Nat.mod_eq_of_lt h
theorem lN_xor (a b : Nat) : lN a ^^^ lN b = lN (a ^^^ b) := by
  apply Int64.toBitVec_inj.mp; rw [Int64.toBitVec_xor, lN_bv, lN_bv, lN_bv]; apply BitVec.eq_of_getLsbD_eq; intro i hi; simp [BitVec.getLsbD_ofNat, Nat.testBit_xor, hi]
theorem lN_ti {m : Nat} (h : m < 2 ^ 64) : (lN m).toInt = if m < 2 ^ 63 then (m : Int) else (m : Int) - 2 ^ 64 := by
  have c := BitVec.toInt_eq_toNat_cond (lN m).toBitVec
  rw [lN_nat h] at c
  show (lN m).toBitVec.toInt = _
  rw [c]
  split <;> split <;> omega
theorem xor63 {x : Nat} (h : x < 2 ^ 63) : x ^^^ 2 ^ 63 = 2 ^ 63 + x := by
  apply Nat.eq_of_testBit_eq
  intro i
  rw [Nat.testBit_xor, Nat.testBit_two_pow]
  rcases Nat.lt_trichotomy i 63 with z | z | z
  · rw [Nat.testBit_two_pow_add_gt z, decide_eq_false (by omega)]; simp
  · subst z; rw [Nat.testBit_two_pow_add_eq]; simp
  · have hp : 2 ^ 64 ≤ 2 ^ i := Nat.pow_le_pow_right (by decide) z
    rw [Nat.testBit_lt_two_pow (show x < 2 ^ i by omega), Nat.testBit_lt_two_pow (show 2 ^ 63 + x < 2 ^ i by omega), decide_eq_false (by omega)]; rfl
theorem xorS {a : Nat} (h : a < 2 ^ 64) : (lN a ^^^ (-9223372036854775808)).toInt = (a : Int) - 2 ^ 63 := by
  rw [show (-9223372036854775808 : Int64) = lN (2 ^ 63) from by decide +kernel, lN_xor]
  rcases Nat.lt_or_ge a (2 ^ 63) with z | z
  · rw [xor63 z, lN_ti (by omega), if_neg (by omega)]; omega
  · obtain ⟨x, rfl⟩ : ∃ x, a = 2 ^ 63 + x := ⟨a - 2 ^ 63, by omega⟩
    rw [← xor63 (by omega), Nat.xor_assoc, Nat.xor_self, Nat.xor_zero, lN_ti (by omega), if_pos (by omega), xor63 (by omega)]; omega
theorem ultL {a b : Nat} (ha : a < 2 ^ 64) (hb : b < 2 ^ 64) : ((lN b ^^^ (-9223372036854775808)) ≤ (lN a ^^^ (-9223372036854775808))) ↔ b ≤ a := by
  rw [Int64.le_iff_toInt_le, xorS ha, xorS hb]; omega
/-! ===== Int64 masks of n low bits ===== -/
theorem cr_bits (W U M : BitVec 64) : ((W &&& U) &&& (U &&& (M ^^^ BitVec.allOnes 64))) = 0#64 ↔ (W &&& U) &&& M = W &&& U := by
  constructor
  · intro h
    apply BitVec.eq_of_getLsbD_eq
    intro i hi
    have e := congrArg (fun x => BitVec.getLsbD x i) h
    simp only [BitVec.getLsbD_and, BitVec.getLsbD_xor, BitVec.getLsbD_allOnes, BitVec.getLsbD_zero, hi, decide_true] at e ⊢
    revert e
    cases W.getLsbD i <;> cases U.getLsbD i <;> cases M.getLsbD i <;> decide
  · intro h
    apply BitVec.eq_of_getLsbD_eq
    intro i hi
    have e := congrArg (fun x => BitVec.getLsbD x i) h
    simp only [BitVec.getLsbD_and, BitVec.getLsbD_xor, BitVec.getLsbD_allOnes, BitVec.getLsbD_zero, hi, decide_true] at e ⊢
    revert e
    cases W.getLsbD i <;> cases U.getLsbD i <;> cases M.getLsbD i <;> decide
theorem cr_mask (w U m : Int64) (n : Nat) (hm : m.toBitVec.toNat = 2 ^ n - 1) : ((w &&& U) &&& (U &&& (m ^^^ (-1)))) = 0 ↔ (w &&& U).toBitVec.toNat < 2 ^ n := by
  have e0 : (-1 : Int64).toBitVec = BitVec.allOnes 64 := by decide
  have z0 : (0 : Int64).toBitVec = 0#64 := by decide
  rw [← Int64.toBitVec_inj, z0, Int64.toBitVec_and, Int64.toBitVec_and, Int64.toBitVec_and, Int64.toBitVec_xor, e0, cr_bits]
  generalize w.toBitVec &&& U.toBitVec = T
  rw [← BitVec.toNat_inj, BitVec.toNat_and, hm, Nat.and_two_pow_sub_one_eq_mod]
  constructor
  · intro h
    have t := Nat.mod_lt T.toNat (Nat.two_pow_pos n)
    rw [h] at t
    exact t
  · exact Nat.mod_eq_of_lt
theorem cr_shr (t : Int64) (x : UInt64) (n : Nat) (hx : x.toNat % 64 = n) : (t.toUInt64 >>> x).toInt64 = 0 ↔ t.toBitVec.toNat < 2 ^ n := by
  rw [← Int64.toBitVec_inj, ← BitVec.toNat_inj]
  show (t.toUInt64 >>> x).toNat = 0 ↔ t.toUInt64.toNat < 2 ^ n
  rw [UInt64.toNat_shiftRight, hx, Nat.shiftRight_eq_div_pow]
  constructor
  · intro h
    have d : t.toUInt64.toNat / 2 ^ n < 1 := by
      rw [h]
      decide
    have e := (Nat.div_lt_iff_lt_mul (Nat.two_pow_pos n)).mp d
    rw [Nat.one_mul] at e
    exact e
  · exact Nat.div_eq_of_lt
theorem cr_amt (s : Int64) : ∃ n, n < 64 ∧ s &&& 63 = lN n ∧ (s.toUInt64 &&& Int64.toUInt64 63).toNat % 64 = n := by
  have e : (s.toUInt64 &&& Int64.toUInt64 63).toNat = s.toUInt64.toNat % 2 ^ 6 := by
    rw [UInt64.toNat_and, show (Int64.toUInt64 63).toNat = 2 ^ 6 - 1 from by decide, Nat.and_two_pow_sub_one_eq_mod]
  refine ⟨s.toUInt64.toNat % 2 ^ 6, by omega, ?_, by omega⟩
  rw [← Int64.toBitVec_inj, ← BitVec.toNat_inj]
  show (s.toUInt64 &&& Int64.toUInt64 63).toNat = (BitVec.ofNat 64 (s.toUInt64.toNat % 2 ^ 6)).toNat
  rw [e, BitVec.toNat_ofNat]
  omega
end
section
/-! making an array of a class that is known -/
section XN
variable {p : Program} {l : Launch} {e : Env} {R : Room} {s : State} {m : MethodId} {args : Array Value} {below : List Frame} {meth : Method} {c : Code} {H H0 : Heap} {locs : List Loc} {cells slots : Nat}
variable {Q : State → Prop} {cc : ByteArray} {pc : Nat} {ls : Array Slot} {rest : List Value} {D : va_G} {cl : List vw_C} {ws : va_W} {A : Nat → Prop}
/-- a new array whose class is known -/
theorem xn_newa (hexec : p.tables.exec = Jvm.exec) (hb : c.code = cc) {atype : ArrayType} (harr : (Cond.arrayClass (newarray.typeOf atype)).before args s = true) {cA : ClassId} (hun : s.vm.findClass ("[" ++ (newarray.typeOf atype).toString) = some cA) (hP : va_P D cl ws H) (hD : va_D A ws) (hS : va_S A H0 H locs) (hA : ∀ q, H0.size ≤ q → A q)
    {n : Int32} {N' : Nat} {a0 : vp_A} (ha : vp_cell cA a0 = arrV cA N' (fun _ => defaultValue (newarray.typeOf atype))) (hn : ¬ n < 0) (hN : n.toNatClampNeg = N') (hbytes : N' * componentBytes (newarray.typeOf atype) ≤ 536870912) (hcells : cells + 1 ≤ R.cells) (hslots : slots + N' ≤ R.slots) (hdg : decode cc pc = .ok (.newarray atype, 2))
    (kk : ∀ (q : Nat) (H1 : Heap), va_P D cl (ws ++ [(q, .inl (cA, a0))]) H1 → va_D A (ws ++ [(q, .inl (cA, a0))]) → va_S A H0 H1 locs →
      W p l e R s m args below meth c H1 locs (cells + 1) (slots + N') Q (F0 m (pc + 2) ls (.ref q :: rest))) : W p l e R s m args below meth c H locs cells slots Q (F0 m pc ls (.int n :: rest)) := by
  refine va_newaK hexec hb harr rfl hdg rfl hn hN hbytes hcells hslots rfl fun H1 cA1 e1 z1 o1 hAr hNm => ?_
  have e9 : cA1 = cA := Option.some.inj (hNm.symm.trans hun)
  subst e9
  have hk : ∀ (k : Nat) (x : Nat × va_E), ws[k]? = some x → H1[x.1]? = H[x.1]? := fun k x hx => o1 x.1 ((hP k x hx).lt)
  refine kk H.size H1 ((hP.kept hk).app (fun k x hx => ?_)) (hD.push hP rfl (hA _ hS.1)) ⟨Nat.le_trans hS.1 (by omega), fun x h1 h2 => (o1 x (Nat.lt_of_lt_of_le h1 hS.1)).trans (hS.2.1 x h1 h2), hS.2.2⟩
  have hz : k < 1 := (List.getElem?_eq_some_iff.mp hx).1
  rw [show k = 0 by omega] at hx
  cases hx
  show H1[H.size]? = some (vp_cell _ _)
  rw [ha]
  exact e1
end XN
end
section
/-! the machine of places is sound, 1: its pictures in the heap, what is carried from frame to frame, checks of the tables -/
section SD1
def xoth (w : Jvm.Cond) : Bool := match w with
  | .fieldLinkNest .. => true
  | .methodLinkNest .. => true
  | .declares _ => true
  | .castable .. => true
  | _ => false
def xmv (w : Jvm.Cond) : Bool := (w.onTables && w.keeps) || xoth w
theorem xmv_tab {w : Jvm.Cond} (h : xmv w = true) : w.onTables = true := by
  unfold xmv at h
  rcases Bool.or_eq_true_iff.mp h with h | h
  · exact (Bool.and_eq_true_iff.mp h).1
  · cases w <;> first | rfl | cases h
theorem xmv_warm {w : Jvm.Cond} (h : xmv w = true) {s U : State} (hW : s.WarmedH U.vm) (hZ : va_Nw w s) : va_Nw w U := by
  have ht := xmv_tab h
  unfold xmv at h
  rcases Bool.or_eq_true_iff.mp h with h | h
  · exact word_at hW (Or.inl h) hZ
  · cases w <;> first | (cases h; done) | exact va_Nw.warmF hW hZ | exact va_Nw.warmM hW hZ | exact va_Nw.warmD hW hZ | exact va_Nw.warmC hW hZ
def xv (ad : Nat → Nat) (v : Value) : Value := match v with
  | .ref i => .ref (ad i)
  | v => v
theorem xv_cat (ad : Nat → Nat) (v : Value) : (xv ad v).category = v.category := by cases v <;> rfl
def xc (ad : Nat → Nat) (tg : Nat → ClassId) (c : xC) : va_E := match c with
  | .inl (t, a) => .inl (tg t, a)
  | .inr (ci, fs) => .inr (ci, fs.map (xv ad))
def xw (ad : Nat → Nat) (tg : Nat → ClassId) (w : xW) : va_W := w.mapIdx (fun i c => (ad i, xc ad tg c))
theorem xw_at {ad : Nat → Nat} {tg : Nat → ClassId} {w : xW} {i : Nat} {c : xC} (h : w[i]? = some c) : (xw ad tg w)[i]? = some (ad i, xc ad tg c) := by
  unfold xw
  rw [List.getElem?_mapIdx, h]
  rfl
theorem xw_set {ad : Nat → Nat} {tg : Nat → ClassId} {w : xW} {i : Nat} {c : xC} : xw ad tg (w.set i c) = (xw ad tg w).set i (ad i, xc ad tg c) := by
  apply List.ext_getElem?
  intro j
  unfold xw
  rw [List.getElem?_mapIdx, List.getElem?_set, List.getElem?_set, List.getElem?_mapIdx, List.length_mapIdx]
  by_cases h : i = j
  · subst h
    simp only [if_true]
    by_cases hl : i < w.length
    · simp [hl]
    · simp [hl]
  · simp [h]
/-- the locals that are known -/
def xlv (ad : Nat → Nat) : Nat → xL → List (Nat × Value)
  | _, [] => []
  | i, none :: L => xlv ad (i + 1) L
  | i, some v :: L => if v.category = 2 then xlv ad (i + 1) L else (i, xv ad v) :: xlv ad (i + 1) L
theorem xlv_mem {ad : Nat → Nat} : ∀ (L : xL) (i : Nat) (q : Nat × Value), q ∈ xlv ad i L ↔ ∃ (k : Nat) (v : Value), L[k]? = some (some v) ∧ v.category ≠ 2 ∧ q = (i + k, xv ad v)
  | [], i, q => by simp [xlv]
  | none :: L, i, q => by
    rw [xlv, xlv_mem L]
    constructor
    · rintro ⟨k, v, h1, h2, rfl⟩
      exact ⟨k + 1, v, by simpa using h1, h2, by rw [Nat.add_right_comm, Nat.add_assoc]⟩
    · rintro ⟨k, v, h1, h2, rfl⟩
      match k, h1 with
      | k + 1, h1 => exact ⟨k, v, by simpa using h1, h2, by rw [Nat.add_right_comm, Nat.add_assoc]⟩
  | some v0 :: L, i, q => by
    rw [xlv]
    have step : q ∈ xlv ad (i + 1) L ↔ ∃ (k : Nat) (v : Value), L[k]? = some (some v) ∧ v.category ≠ 2 ∧ q = (i + 1 + k, xv ad v) := xlv_mem L _ q
    constructor
    · intro h
      split at h
      · obtain ⟨k, v, h1, h2, rfl⟩ := step.mp h
        exact ⟨k + 1, v, by simpa using h1, h2, by rw [Nat.add_right_comm, Nat.add_assoc]⟩
      · rename_i hc
        rcases List.mem_cons.mp h with rfl | h
        · exact ⟨0, v0, rfl, hc, rfl⟩
        · obtain ⟨k, v, h1, h2, rfl⟩ := step.mp h
          exact ⟨k + 1, v, by simpa using h1, h2, by rw [Nat.add_right_comm, Nat.add_assoc]⟩
    · rintro ⟨k, v, h1, h2, rfl⟩
      match k, h1 with
      | 0, h1 =>
        have e : v0 = v := by simpa using h1
        subst e
        rw [if_neg h2]
        exact List.mem_cons_self
      | k + 1, h1 =>
        rw [show i + (k + 1) = i + 1 + k by omega]
        have h3 := (xlv_mem L (i + 1) (i + 1 + k, xv ad v)).mpr ⟨k, v, by simpa using h1, h2, rfl⟩
        split
        · exact h3
        · exact List.mem_cons_of_mem _ h3
theorem xlv_at {ad : Nat → Nat} {L : xL} {nL : Nat} {ls : Array Slot} (h : lv_has ls nL (xlv ad 0 L)) {k : Nat} {v : Value} (hk : L[k]? = some (some v)) (hc : v.category ≠ 2) : ls[k]? = some (.val (xv ad v)) :=
  h.2.2 (k, xv ad v) ((xlv_mem L 0 _).mpr ⟨k, v, hk, hc, by rw [Nat.zero_add]⟩)
/-- behind a store -/
theorem xlv_set {ad : Nat → Nat} {L : xL} {nL : Nat} {ls : Array Slot} {k : Nat} {v : Option Value} {z : Value} (hz : ∀ x, v = some x → xv ad x = z)
    (h : lv_has ls nL ((k, z) :: (xlv ad 0 L).filter (fun q => !(q.1 == k) && !(q.1 + 1 == k && q.2.category == 2)))) : lv_has ls nL (xlv ad 0 (L.set k v)) := by
  refine ⟨h.1, h.2.1, fun q hq => h.2.2 q ?_⟩
  obtain ⟨j, x, h1, h2, rfl⟩ := (xlv_mem _ 0 q).mp hq
  rw [Nat.zero_add] at hq ⊢
  rw [List.getElem?_set] at h1
  by_cases e : k = j
  · subst e
    rw [if_pos rfl] at h1
    split at h1
    · rw [hz x (Option.some.inj h1)]
      exact List.mem_cons_self
    · cases h1
  · rw [if_neg e] at h1
    refine List.mem_cons_of_mem _ (List.mem_filter.mpr ⟨(xlv_mem L 0 _).mpr ⟨j, x, h1, h2, by rw [Nat.zero_add]⟩, ?_⟩)
    have e1 : (j == k) = false := by simpa using fun h => e h.symm
    have e2 : ((xv ad x).category == 2) = false := by rw [xv_cat]; simpa using h2
    simp [e1, e2]
theorem xlv_ini {ad : Nat → Nat} {n : Nat} {as : List Value} (hc : ∀ v ∈ as, v.category ≠ 2) : ∀ q, q ∈ xlv ad 0 (xini n as) → q ∈ lv_args 0 (as.map (xv ad)) := by
  intro q hq
  obtain ⟨k, v, h1, h2, rfl⟩ := (xlv_mem _ 0 q).mp hq
  rw [Nat.zero_add]
  unfold xini at h1
  have h3 : as[k]? = some v := by
    by_cases hk : k < as.length
    · rw [List.getElem?_append_left (by simpa using hk)] at h1
      simpa using h1
    · rw [List.getElem?_append_right (by simpa using Nat.not_lt.mp hk)] at h1
      have := List.mem_of_getElem? h1
      simp at this
  clear h1 hq
  have gen : ∀ (as : List Value) (i k : Nat), (∀ v ∈ as, v.category ≠ 2) → as[k]? = some v → (i + k, xv ad v) ∈ lv_args i (as.map (xv ad)) := by
    intro as
    induction as with
    | nil => intro i k _ h; simp at h
    | cons a as ih =>
      intro i k hc h
      rw [List.map_cons, lv_args, xv_cat, if_neg (hc a List.mem_cons_self)]
      match k, h with
      | 0, h =>
        have e : a = v := by simpa using h
        subst e
        exact List.mem_cons_self
      | k + 1, h =>
        refine List.mem_cons_of_mem _ ?_
        have := ih (i + 1) k (fun v hv => hc v (List.mem_cons_of_mem _ hv)) (by simpa using h)
        rwa [show i + 1 + k = i + (k + 1) by omega] at this
  simpa using gen as 0 k hc h3
theorem xargs_spec : ∀ (n : Nat) (acc stk as st : List Value), xargs n acc stk = some (as, st) → ∃ l : List Value, stk = l ++ st ∧ as = l.reverse ++ acc ∧ l.length = n ∧ ∀ v ∈ l, v.category ≠ 2
  | 0, acc, stk, as, st, h => by
    simp only [xargs, Option.some.injEq, Prod.mk.injEq] at h
    exact ⟨[], by rw [h.2]; rfl, by rw [h.1]; rfl, rfl, fun v h => by cases h⟩
  | n + 1, acc, stk, as, st, h => by
    have go : ∀ (v : Value) (stk' : List Value), v.category ≠ 2 → xargs n (v :: acc) stk' = some (as, st) → ∃ l : List Value, v :: stk' = l ++ st ∧ as = l.reverse ++ acc ∧ l.length = n + 1 ∧ ∀ v ∈ l, v.category ≠ 2 := by
      intro v stk' hv h
      obtain ⟨l, h1, h2, h3, h4⟩ := xargs_spec n _ _ _ _ h
      refine ⟨v :: l, by rw [h1]; rfl, by rw [h2]; simp, by simp [h3], fun x hx => ?_⟩
      rcases List.mem_cons.mp hx with rfl | hx
      · exact hv
      · exact h4 x hx
    match stk, h with
    | .int x :: stk', h => exact go _ _ (fun z => by cases z) h
    | .ref x :: stk', h => exact go _ _ (fun z => by cases z) h
    | [], h => cases h
    | .long _ :: _, h => cases h
    | .float _ :: _, h => cases h
    | .double _ :: _, h => cases h
    | .null :: _, h => cases h
    | .retAddr _ :: _, h => cases h
theorem xat_mem {I : List (List xI)} {pc : Nat} {e : xI} (h : xat I pc = some e) : e ∈ I.flatten ∧ e.1 = pc := by
  unfold xat at h
  split at h
  · rename_i b hb
    have h1 := List.find?_some h
    have h2 := List.mem_of_find?_eq_some h
    exact ⟨List.mem_flatten.mpr ⟨b, List.mem_of_getElem? hb, h2⟩, Nat.eq_of_beq_eq_true h1⟩
  · cases h
/-- the code word of a method -/
def xcode (k : Nat) : Jvm.Cond := match m_h k with
  | none => .code (m_y k) (m_c k) (m_L k) (m_r k)
  | some hh => .codeWith (m_y k) (m_c k) (m_L k) (m_r k) hh
def xnames : List String := ["java/lang/RuntimeException", "java/lang/Exception"]
/-- the words that an instruction needs -/
def xreq (k : Nat) (e : xI) : List Jvm.Cond := match e with
  | (_, ins, _, r1, r2, r3, _) => match ins with
    | .ldc i => (match e.2.2.2.2.2.2 with
      | 0 => [.constant (m_o k) i (xk r1 r2)]
      | _ + 1 => [])
    | .ldc_w i => (match e.2.2.2.2.2.2 with
      | 0 => [.constant (m_o k) i (xk r1 r2)]
      | _ + 1 => [])
    | .getfield i => (match vwCl[r1]? with
      | some (_, T, _) => [if r3 = 0 then .fieldLink (m_o k) i (T r2).1 (T r2).2.1 (T r2).2.2.1 else .fieldLinkNest (m_o k) i (T r2).1 (T r2).2.1 (T r2).2.2.1 "Cardgate"]
      | none => [])
    | .putfield i => (match vwCl[r1]? with
      | some (_, T, _) => [.fieldLink (m_o k) i (T r2).1 (T r2).2.1 (T r2).2.2.1]
      | none => [])
    | .invokevirtual i => [.methodLink (m_o k) i (m_y r1), .instanceMethod (m_y r1), .selects (m_y r1).cls (m_y r1) (m_y r1), .initialized (m_y r1).cls, xcode r1]
    | .invokestatic i => [if r3 = 0 then .methodLink (m_o k) i (m_y r1) else .methodLinkNest (m_o k) i (m_y r1) "Cardgate", .static (m_y r1), .initialized (m_y r1).cls, xcode r1]
    | .new i => if Nat.ble e.2.2.2.2.2.2 1 = true then .classLink (m_o k) i (xexc r1) :: .initialized (xexc r1) :: vx_atS (m_o k) r2 (xexc r1) xnames else []
    | _ => []
def xplain (y : MethodName) : Bool := decide (y.cls ≠ "java/lang/invoke/MethodHandle" ∧ y.cls ≠ "java/lang/invoke/VarHandle")
def xpar (y : MethodName) (n : Nat) : Bool := decide ((parseMethodDescriptor y.desc).map (fun d => d.parameters.length) = some n)
/-- what a row of a method's table has to be -/
def xchk (k : Nat) (e : xI) : Bool := match e with
  | (pc, ins, nx, r1, r2, r3, r4) => decide (decode (m_c k) pc = .ok (ins, nx - pc)) && (match ins with
    | .iconst n => decide (nx = pc + 1 ∧ Int32.ofInt n = xk r1 r2)
    | .bipush n => decide (nx = pc + 2 ∧ (Int8.ofInt n).toInt32 = xk r1 r2)
    | .sipush n => decide (nx = pc + 3 ∧ (Int16.ofInt n).toInt32 = xk r1 r2)
    | .iinc _ n => decide (nx = pc + 3 ∧ Int32.ofInt n = xk r1 r2)
    | .goto off => decide (nx = pc + 3 ∧ (pc : Int) + off = (r1 : Int))
    | .ifCond _ off => decide (nx = pc + 3 ∧ (pc : Int) + off = (r1 : Int))
    | .if_icmp _ off => decide (nx = pc + 3 ∧ (pc : Int) + off = (r1 : Int))
    | .tableswitch d lo hi offs => decide (lo ≤ hi ∧ offs.size = (hi - lo).toNat + 1 ∧ 0 ≤ (pc : Int) + d) && offs.all (fun o => decide (0 ≤ (pc : Int) + o))
    | .ldc _ => decide (nx = pc + 2)
    | .ldc_w _ => decide (nx = pc + 3)
    | .iload _ => decide (nx = pc + 2)
    | .aload _ => decide (nx = pc + 2)
    | .istore i => decide (nx = pc + 2 ∧ i < m_L k)
    | .astore i => decide (nx = pc + 2 ∧ i < m_L k)
    | .istore_n i => decide (nx = pc + 1 ∧ (i : Nat) < m_L k)
    | .astore_n i => decide (nx = pc + 1 ∧ (i : Nat) < m_L k)
    | .getfield _ => (match vwCl[r1]? with
      | some (_, _, N) => decide (nx = pc + 3 ∧ r2 < N)
      | none => false)
    | .putfield _ => (match vwCl[r1]? with
      | some (_, T, N) => decide (nx = pc + 3 ∧ r2 < N ∧ (T r2).2.2.2 = false ∧ parseFieldDescriptor (T r2).2.2.1 = some .int)
      | none => false)
    | .invokevirtual _ => (match vwCl[r3]? with
      | some (C, _, _) => decide (nx = pc + 3 ∧ r4 = m_b r1 ∧ (m_y r1).cls = C ∧ m_h r1 = none ∧ m_L r1 ≤ 20 ∧ r2 ≤ m_L r1) && xplain (m_y r1) && xpar (m_y r1) (r2 - 1)
      | none => false) && ((m_h k).getD []).all (fun q => decide (q.1 ≤ pc ∧ pc < q.2.1))
    | .invokestatic _ => decide (nx = pc + 3 ∧ r4 = m_b r1 ∧ m_L r1 ≤ 20 ∧ (r3 = 0 ∨ m_h r1 = none) ∧ r2 ≤ m_L r1) && xplain (m_y r1) && xpar (m_y r1) r2 && ((m_h k).getD []).all (fun q => decide (q.1 ≤ pc ∧ pc < q.2.1))
    | .new i => if Nat.ble r4 1 = true then (match r4 with
      | 0 => decide (decode (m_c k) pc = .ok (.new i, 3) ∧ decode (m_c k) (pc + 3) = .ok (.dup, 1) ∧ decode (m_c k) (pc + 4) = .ok (.ldc r3, 2) ∧ decode (m_c k) (pc + 6) = .ok (.invokespecial r2, 3) ∧ decode (m_c k) (pc + 9) = .ok (.athrow, 1))
      | _ + 1 => decide (decode (m_c k) pc = .ok (.new i, 3) ∧ decode (m_c k) (pc + 3) = .ok (.dup, 1) ∧ decode (m_c k) (pc + 4) = .ok (.ldc_w r3, 3) ∧ decode (m_c k) (pc + 7) = .ok (.invokespecial r2, 3) ∧ decode (m_c k) (pc + 10) = .ok (.athrow, 1))) && decide (m_h k = none ∧ r1 < 3) && (xstr.any (fun q => decide (q.1 = m_o k ∧ q.2.1 = r3))) else true
    | .newarray .int => decide (nx = pc + 2 ∧ r1 ≤ 6 * r4 ∧ r1 ≤ 100 ∧ 1 ≤ r4)
    | .ireturn => decide (nx = pc + 1 ∧ ((r1 = 0 ∧ m_r k = some .int) ∨ (r1 ≠ 0 ∧ m_r k = some .boolean)))
    | .return_ => decide (nx = pc + 1 ∧ m_r k = none)
    | .baload | .laload | .bastore | .lastore => false
    | .iadd | .isub | .imul | .iand | .ior | .ixor | .ishl | .iushr | .ishr | .irem | .idiv | .i2l | .lcmp | .dup | .dup2 | .pop | .iaload | .iastore | .arraylength | .lconst _ | .iload_n _ | .aload_n _ => decide (nx = pc + 1)
    | _ => true)
def xhchk (k : Nat) : Bool := match m_h k with
  | none => decide (m_hd k = [])
  | some hh => decide (hh = (hh.zip (m_hd k)).map Prod.fst ∧ m_hd k = (hh.zip (m_hd k)).map Prod.snd) && (hh.zip (m_hd k)).all (fun z => match z with
    | ((_, _, h, ct), (E, hp, sl)) => decide (ct ≠ 0 ∧ E < 3 ∧ sl < m_L k) && (decide (hp = h + 1 ∧ sl < 4) && ((List.finRange 4).any fun j => decide ((j : Nat) = sl ∧ decode (m_c k) h = .ok (.astore_n j, 1))) || decide (hp = h + 2 ∧ decode (m_c k) h = .ok (.astore sl, 2))))
def xhreq (k : Nat) : List Jvm.Cond := ((m_h k).getD []).zip (m_hd k) |>.flatMap (fun z => [.classLink (m_o k) z.1.2.2.2 (xexc z.2.1), .castable (xexc z.2.1) (xexc z.2.1)])
/-- a method's rows are right, and what they need is known -/
def xok (k : Nat) : Prop := (∀ e ∈ (m_i k).flatten, xchk k e = true ∧ ∀ w ∈ xreq k e, w ∈ lw_tbl ∧ xmv w = true) ∧ xhchk k = true ∧ (∀ w ∈ xhreq k, w ∈ lw_tbl ∧ xmv w = true) ∧ plainName (m_y k).cls = true ∧ (m_y k).cls = m_o k ∧ m_L k ≤ 20 ∧ (m_r k = none ∨ m_r k = some .int ∨ m_r k = some .boolean)
end SD1
end
section
/-! the machine of places is sound, 2: one step -/
section SD2
def xA (base : Nat) : Nat → Prop := fun q => base ≤ q
def xtys (tg : Nat → ClassId) : List (ClassId × FieldType) := [(tg 0, .int)]
/-- what is the same in every frame -/
def xS0 (D : va_G) (base : Nat) (tg : Nat → ClassId) (sc : Option (Nat × (Nat → Int32))) (sb : Nat) (U : State) : Prop :=
  (∀ w ∈ lw_tbl, xmv w = true → va_Nw w U) ∧ vx_Zq Bundle.tN "UNASSIGNED_STACK" Bundle.steD (xA base) U U.heap ∧ vx_Zq Bundle.tN "SUPPRESSED_SENTINEL" Bundle.listD (xA base) U U.heap ∧
  (∀ q ∈ xstr, ∃ a, vk_R q.1 q.2.1 q.2.2 a U) ∧ (∀ q ∈ xnc, va_Nc (xexc q.1) (xexc q.2) U) ∧ va_K D vwCl (xtys tg) U ∧ ∀ (L : Nat) (xs : Nat → Int32), sc = some (L, xs) → va_X sb L xs U U.heap ∧ sb < base ∧ base ≤ U.heap.size
def xBa (D : va_G) (base : Nat) (tg : Nat → ClassId) (ad : Nat → Nat) (w : xW) (t : State) : Prop := va_P D vwCl (xw ad tg w) t.heap ∧ va_D (xA base) (xw ad tg w)
def xB (D : va_G) (base : Nat) (tg : Nat → ClassId) (sc : Option (Nat × (Nat → Int32))) (sb : Nat) (ad : Nat → Nat) (w : xW) (U : State) : Prop := xS0 D base tg sc sb U ∧ base ≤ U.heap.size ∧ xBa D base tg ad w U
def xrm (n k : Nat) : Room := { frames := 10 + n, cells := m_b k, slots := 6 * m_b k, locals := 100 + 40 * n }
def xQc (D : va_G) (base : Nat) (tg : Nat → ClassId) (ad : Nat → Nat) (k : Nat) (Q : xR → xW → Prop) : Array Value → State → Outcome → State → Prop := match m_r k with
  | none => va_Qv (fun u : xW => Q (.inl none) u) (xBa D base tg ad) (xA base)
  | some _ => va_Qi (fun (r : Int32) (u : xW) => Q (.inl (some (.int r))) u) (xBa D base tg ad) (xA base)
def xXC (D : va_G) (base : Nat) (tg : Nat → ClassId) (ad : Nat → Nat) (Q : xR → xW → Prop) : String → State → State → Prop :=
  vx_X (fun u : Nat × xW => Q (.inr u.1) u.2 ∧ u.1 < 3) (fun E u t => E = xexc u.1 ∧ xBa D base tg ad u.2 t) (xA base)
/-- method k is a contract -/
def xMet (l : Launch) (D : va_G) (base : Nat) (tg : Nat → ClassId) (sc : Option (Nat × (Nat → Int32))) (sb : Nat) (ad : Nat → Nat) (n k : Nat) (as : List Value) (w : xW) (Q : xR → xW → Prop) : Prop :=
  ad 77 = sb → (∀ v ∈ as, v.category ≠ 2) → as.length ≤ m_L k → vx_Met l (m_y k) [xcode k] (xrm n k) (va_Pc (as.map (xv ad)) (xB D base tg sc sb ad w)) (xQc D base tg ad k Q) (xXC D base tg ad Q) (m_b k) (6 * m_b k) (xA base)
theorem xS0_move {D : va_G} {base : Nat} {tg : Nat → ClassId} {sc : Option (Nat × (Nat → Int32))} {sb : Nat} {s U : State} {H : Heap} {locs : List Loc} (h : xS0 D base tg sc sb s) (hS : va_S (xA base) s.heap H locs) (hU : U.heap = H) (hW : s.WarmedH U.vm) : xS0 D base tg sc sb U := by
  subst hU
  obtain ⟨h1, h2, h3, h4, h5, h6, h7⟩ := h
  exact ⟨fun w hw hm => xmv_warm hm hW (h1 w hw hm), vx_Zq.moved hW.alike (h2.kept hS.2.1), vx_Zq.moved hW.alike (h3.kept hS.2.1), fun q hq => (h4 q hq).elim fun a ha => ⟨a, vk_R.warm hW ha⟩, fun q hq => va_Nc.moved hW.alike (h5 q hq), va_K.moved hW.alike h6, fun L xs e => by
    obtain ⟨g1, g2, g3⟩ := h7 L xs e
    exact ⟨va_X.moved hW.alike (g1.kept (hS.2.1 _ (Nat.lt_of_lt_of_le g2 g3) (Nat.not_le.mpr g2))), g2, Nat.le_trans g3 hS.1⟩⟩
theorem xB_blind {D : va_G} {base : Nat} {tg : Nat → ClassId} {sc : Option (Nat × (Nat → Int32))} {sb : Nat} {ad : Nat → Nat} {w : xW} {av : List Value} : FrameBlind (va_Pc av (xB D base tg sc sb ad w)) := by
  intro a U g mk h
  obtain ⟨h0, ⟨h1, h2, h3, h4, h5, h6, h10⟩, h7, h8, h9⟩ := h
  refine ⟨h0, ⟨fun w hw hm => va_Nw.same (u := U) (U := U.calling g mk a) (xmv_tab hm) rfl (h1 w hw hm), vx_Zq.moved (u := U) (U := U.calling g mk a) (Vm.Alike.refl U.vm) h2, vx_Zq.moved (u := U) (U := U.calling g mk a) (Vm.Alike.refl U.vm) h3, fun q hq => (h4 q hq).elim fun a9 ha => ⟨a9, vk_R.same (u := U) (U := U.calling g mk a) rfl ha⟩, fun q hq => va_Nc.moved (u := U) (U := U.calling g mk a) (Vm.Alike.refl U.vm) (h5 q hq), va_K.moved (u := U) (U := U.calling g mk a) (Vm.Alike.refl U.vm) h6, fun L xs e => ⟨va_X.moved (u := U) (U := U.calling g mk a) (Vm.Alike.refl U.vm) (h10 L xs e).1, (h10 L xs e).2⟩⟩, h7, h8, h9⟩
theorem xcl_in : ∀ q ∈ vwCl, ∀ w ∈ u_ws q.1 q.2.1 q.2.2, w ∈ lw_tbl ∧ xmv w = true := by decide +kernel
theorem xcl_ty : ∀ q ∈ vwCl, (∀ k, k < q.2.2 → (parseFieldDescriptor (q.2.1 k).2.2.1).isSome = true) ∧ ∀ a, a < q.2.2 → ∀ b, b < q.2.2 → a ≠ b → (q.2.1 a).2.1 ≠ (q.2.1 b).2.1 := by decide +kernel
theorem xz_nar {x : Int32} (h : xz x) : vp_nar .boolean x = x := by rcases h with rfl | rfl <;> decide
/-- places are where they were, but for those that were made here -/
def xag (tn : Option Nat) (ad0 ad : Nat → Nat) : Prop := ad 77 = ad0 77 ∧ match tn with
  | none => ad = ad0
  | some n0 => ∀ i, i < n0 → ad i = ad0 i
theorem xag.rf {tn : Option Nat} {ad : Nat → Nat} : xag tn ad ad := ⟨rfl, by cases tn with | none => exact rfl | some n => exact fun _ _ => rfl⟩
theorem xv_low {n : Nat} {ad ad0 : Nat → Nat} (h : ∀ i, i < n → ad i = ad0 i) {v : Value} (hv : xlw n v = true) : xv ad v = xv ad0 v := by
  cases v
  case ref i =>
    show Value.ref (ad i) = Value.ref (ad0 i)
    rw [h i (Nat.le_of_ble_eq_true hv)]
  all_goals rfl
theorem xc_low {n : Nat} {ad ad0 : Nat → Nat} {tg : Nat → ClassId} (h : ∀ i, i < n → ad i = ad0 i) {c : xC} (hc : xlow n c = true) : xc ad tg c = xc ad0 tg c := by
  rcases c with ⟨t, a⟩ | ⟨ci, fs⟩
  · rfl
  · show Sum.inr (ci, fs.map (xv ad)) = Sum.inr (ci, fs.map (xv ad0))
    have h1 : ∀ v ∈ fs, xlw n v = true := fun v hv => List.all_eq_true.mp (show fs.all (xlw n) = true from hc) v hv
    rw [List.map_congr_left (fun v hv => xv_low h (h1 v hv))]
theorem xw_low {n : Nat} {ad ad0 : Nat → Nat} {tg : Nat → ClassId} (h : ∀ i, i < n → ad i = ad0 i) {w : xW} (hw : (w.take n).all (xlow n) = true) : xw ad0 tg (w.take n) = (xw ad tg w).take n := by
  apply List.ext_getElem?
  intro j
  unfold xw
  rw [List.getElem?_mapIdx, List.getElem?_take, List.getElem?_take, List.getElem?_mapIdx]
  by_cases hj : j < n
  · rw [if_pos hj, if_pos hj]
    cases hc : w[j]? with
    | none => rfl
    | some c =>
      have hm : c ∈ w.take n := List.mem_of_getElem? (i := j) (by rw [List.getElem?_take, if_pos hj, hc])
      show some (ad0 j, xc ad0 tg c) = some (ad j, xc ad tg c)
      rw [h j hj, xc_low h (List.all_eq_true.mp hw c hm)]
  · rw [if_neg hj, if_neg hj]; rfl
theorem xv_nr {N q : Nat} {ad : Nat → Nat} {v : Value} (hv : xnr N v = true) : xv (fun i => if i = N then q else ad i) v = xv ad v := by
  cases v
  case ref i =>
    show Value.ref (if i = N then q else ad i) = Value.ref (ad i)
    rw [if_neg (fun e => ?_)]
    subst e
    unfold xnr at hv
    dsimp only at hv
    rw [Nat.beq_refl] at hv
    cases hv
  all_goals rfl
theorem xc_nr {N q : Nat} {ad : Nat → Nat} {tg : Nat → ClassId} {c : xC} (hc : xnrC N c = true) : xc (fun i => if i = N then q else ad i) tg c = xc ad tg c := by
  rcases c with ⟨t, a⟩ | ⟨ci, fs⟩
  · rfl
  · show Sum.inr (ci, fs.map _) = Sum.inr (ci, fs.map (xv ad))
    have h1 : ∀ v ∈ fs, xnr N v = true := fun v hv => List.all_eq_true.mp (show fs.all (xnr N) = true from hc) v hv
    rw [List.map_congr_left (fun v hv => xv_nr (h1 v hv))]
theorem xw_nr {q : Nat} {ad : Nat → Nat} {tg : Nat → ClassId} {w : xW} {c : xC} (hw : w.all (xnrC w.length) = true) (hc : xnrC w.length c = true) : xw (fun i => if i = w.length then q else ad i) tg (w ++ [c]) = xw ad tg w ++ [(q, xc ad tg c)] := by
  unfold xw
  rw [List.mapIdx_append]
  congr 1
  · apply List.ext_getElem?
    intro j
    rw [List.getElem?_mapIdx, List.getElem?_mapIdx]
    cases hj : w[j]? with
    | none => rfl
    | some d =>
      have hl : j < w.length := (List.getElem?_eq_some_iff.mp hj).1
      have hd := List.all_eq_true.mp hw d (List.mem_of_getElem? hj)
      show some ((if j = w.length then q else ad j), xc _ tg d) = some (ad j, xc ad tg d)
      rw [if_neg (by omega), xc_nr hd]
  · rw [List.mapIdx_cons, List.mapIdx_nil, Nat.zero_add]
    show [((if w.length = w.length then q else ad w.length), xc _ tg c)] = _
    rw [if_pos rfl, xc_nr hc]
theorem xlv_nr {N q : Nat} {ad : Nat → Nat} : ∀ (L : xL) (i : Nat), L.all (fun o => match o with | some v => xnr N v | none => true) = true → xlv (fun i => if i = N then q else ad i) i L = xlv ad i L
  | [], _, _ => rfl
  | none :: L, i, h => by
    rw [xlv, xlv]
    rw [List.all_cons, Bool.and_eq_true] at h
    exact xlv_nr L (i + 1) h.2
  | some v :: L, i, h => by
    rw [xlv, xlv]
    rw [List.all_cons, Bool.and_eq_true] at h
    rw [xlv_nr L (i + 1) h.2, xv_nr h.1]
theorem xst_nr {N q : Nat} {ad : Nat → Nat} {st : List Value} (h : st.all (xnr N) = true) : st.map (xv (fun i => if i = N then q else ad i)) = st.map (xv ad) :=
  List.map_congr_left (fun v hv => xv_nr (List.all_eq_true.mp h v hv))
def xgoal (p : Program) (l : Launch) (e : Env) (R : Room) (s : State) (m : MethodId) (args : Array Value) (below : List Frame) (meth : Method) (c : Code) (Qf : State → Prop) (D : va_G) (base : Nat) (tg : Nat → ClassId) (tn : Option Nat) (ad0 : Nat → Nat) (nL bm : Nat) (st : xS) : Prop :=
  ∀ (ad : Nat → Nat), xag tn ad0 ad → ∀ (H : Heap) (locs : List Loc) (ls : Array Slot), va_P D vwCl (xw ad tg st.2.2.2.1) H → va_D (xA base) (xw ad tg st.2.2.2.1) → va_S (xA base) s.heap H locs → lv_has ls nL (xlv ad 0 st.2.1) → st.2.2.2.2 ≤ bm →
    W p l e R s m args below meth c H locs st.2.2.2.2 (6 * st.2.2.2.2) Qf (F0 m st.1 ls (st.2.2.1.map (xv ad)))
section Step
variable {p : Program} {l : Launch} {e : Env} {R : Room} {s : State} {m : MethodId} {args : Array Value} {below : List Frame} {meth : Method} {c : Code} {Qf : State → Prop}
variable {D : va_G} {base : Nat} {tg : Nat → ClassId} {ad : Nat → Nat} {k bm n : Nat} {sc : Option (Nat × (Nat → Int32))} {sb : Nat} {tn : Option Nat} {cl : Nat → List Value → xW → (xR → xW → Prop) → Prop} {Q : xR → xW → Prop}
/-- what holds in the frame of method k -/
def xfr (p : Program) (R : Room) (s : State) (m : MethodId) (args : Array Value) (meth : Method) (c : Code) (D : va_G) (base : Nat) (tg : Nat → ClassId) (sc : Option (Nat × (Nat → Int32))) (sb : Nat) (k bm n : Nat) : Prop :=
  p.tables.exec = Jvm.exec ∧ c.code = m_c k ∧ c.maxLocals = m_L k ∧ s.vm.findClass (m_o k) = some m.cls ∧ meth.locks = false ∧ xS0 D base tg sc sb s ∧ xok k ∧ c.exceptionTable.toList = tableOf ((m_h k).getD []) ∧
  10 + n < R.frames ∧ 100 + 40 * n + 40 ≤ R.locals ∧ bm ≤ R.cells ∧ 6 * bm ≤ R.slots ∧ base ≤ s.heap.size
theorem xfr_w (F : xfr p R s m args meth c D base tg sc sb k bm n) {w : Jvm.Cond} (h : w ∈ lw_tbl ∧ xmv w = true) : w.before args s = true := va_Nw.use (xmv_tab h.2) (F.2.2.2.2.2.1.1 w h.1 h.2)
theorem x_ldi {L : xL} {i nx : Nat} {stk : List Value} {w : xW} {u : Nat} {hd : List (Nat × Nat × Nat)} {G : xS → Prop} (h : xFo tn hd cl Q G (xldi L i nx stk w u)) : ∃ x : Int32, L[i]? = some (some (.int x)) ∧ G (nx, L, .int x :: stk, w, u) := by
  unfold xldi at h
  split at h
  · exact ⟨_, by assumption, h⟩
  · exact h.elim
theorem x_lda {L : xL} {i nx : Nat} {stk : List Value} {w : xW} {u : Nat} {hd : List (Nat × Nat × Nat)} {G : xS → Prop} (h : xFo tn hd cl Q G (xlda L i nx stk w u)) : ∃ x : Nat, L[i]? = some (some (.ref x)) ∧ G (nx, L, .ref x :: stk, w, u) := by
  unfold xlda at h
  split at h
  · exact ⟨_, by assumption, h⟩
  · exact h.elim
theorem x_sti {L : xL} {i nx : Nat} {stk : List Value} {w : xW} {u : Nat} {hd : List (Nat × Nat × Nat)} {G : xS → Prop} (h : xFo tn hd cl Q G (xsti L i nx stk w u)) : ∃ (x : Int32) (st : List Value), stk = .int x :: st ∧ G (nx, L.set i (some (.int x)), st, w, u) := by
  unfold xsti at h
  split at h
  · exact ⟨_, _, rfl, h⟩
  · exact h.elim
theorem x_sta {L : xL} {i nx : Nat} {stk : List Value} {w : xW} {u : Nat} {hd : List (Nat × Nat × Nat)} {G : xS → Prop} (h : xFo tn hd cl Q G (xsta L i nx stk w u)) : ∃ (x : Nat) (st : List Value), stk = .ref x :: st ∧ G (nx, L.set i (some (.ref x)), st, w, u) := by
  unfold xsta at h
  split at h
  · exact ⟨_, _, rfl, h⟩
  · exact h.elim
theorem x_bin {f : Int32 → Int32 → Int32} {L : xL} {nx : Nat} {stk : List Value} {w : xW} {u : Nat} {hd : List (Nat × Nat × Nat)} {G : xS → Prop} (h : xFo tn hd cl Q G (xbin f L nx stk w u)) : ∃ (x y : Int32) (st : List Value), stk = .int y :: .int x :: st ∧ G (nx, L, .int (f x y) :: st, w, u) := by
  unfold xbin at h
  split at h
  · exact ⟨_, _, _, rfl, h⟩
  · exact h.elim
theorem xfr_mv (F : xfr p R s m args meth c D base tg sc sb k bm n) {w : Jvm.Cond} (h : w ∈ lw_tbl ∧ xmv w = true) {a' : Array Value} {U : State} (hW : s.WarmedH U.vm) : w.before a' U = true := va_Nw.use (xmv_tab h.2) (xmv_warm h.2 hW (F.2.2.2.2.2.1.1 w h.1 h.2))
theorem x_sum : ∀ st : List Value, (st.map fun v => v.category).sum ≤ 2 * st.length
  | [] => Nat.le_refl 0
  | v :: st => by
    have h1 : v.category ≤ 2 := by cases v <;> simp [Value.category]
    have h2 := x_sum st
    simp only [List.map_cons, List.sum_cons, List.length_cons]
    omega
theorem xnc_in (a : Nat) (ha : a < 3) (b : Nat) (hb : b < 3) (h : a ≠ b) : (a, b) ∈ xnc := by
  rcases (show a = 0 ∨ a = 1 ∨ a = 2 by omega) with rfl | rfl | rfl <;> rcases (show b = 0 ∨ b = 1 ∨ b = 2 by omega) with rfl | rfl | rfl <;> first | exact absurd rfl h | simp [xnc]
theorem x_catch (F : xfr p R s m args meth c D base tg sc sb k bm n) {E q9 pc hp sl cells slots E9 : Nat} {L : xL} {H : Heap} {locs : List Loc} {ls : Array Slot} {rest : List Value} {ce : Cell} (hE : E < 3) (hfind : (m_hd k).find? (fun q => Nat.beq q.1 E) = some (E9, hp, sl)) (hcov : ((m_h k).getD []).all (fun q => decide (q.1 ≤ pc ∧ pc < q.2.1)) = true)
    (hcell : H[q9]? = some ce) (hv : ce.vm = .none) (hcl : s.vm.findClass (xexc E) = some ce.cls) (hl : lv_has ls (m_L k) (xlv ad 0 L))
    (kk : ∀ ls' : Array Slot, lv_has ls' (m_L k) (xlv ad 0 (L.set sl none)) → W p l e R s m args below meth c H locs cells slots Qf (F0 m hp ls' [])) : vx_W p l e R s m args below meth c H locs cells slots Qf (F0 m pc ls rest) q9 := by
  obtain ⟨hx, hb, hml, hown, hlocks, h0, hok, htab, hRf, hRl, hRc, hRs, hbase⟩ := id F
  have hh := hok.2.1
  unfold xhchk at hh
  cases hmh : m_h k with
  | none =>
    rw [hmh] at hh
    rw [of_decide_eq_true hh] at hfind
    cases hfind
  | some hh0 =>
    rw [hmh] at hh htab hcov
    dsimp only [Option.getD_some] at hh htab hcov
    rw [Bool.and_eq_true] at hh
    obtain ⟨hz, hall⟩ := hh
    obtain ⟨e1, e2⟩ := of_decide_eq_true hz
    have hreq := hok.2.2.1
    unfold xhreq at hreq
    rw [hmh] at hreq
    dsimp only [Option.getD_some] at hreq
    generalize hh0.zip (m_hd k) = z at e1 e2 hall hreq
    rw [e2, List.find?_map, Option.map_eq_some_iff] at hfind
    obtain ⟨x, hf1, hf2⟩ := hfind
    obtain ⟨hpx, za, zb, hzz, hna⟩ := List.find?_eq_some_iff_append.mp hf1
    obtain ⟨⟨s9, e9, h9, ct⟩, ⟨E8, hp8, sl8⟩⟩ := x
    cases hf2
    have hE9 : E9 = E := Nat.eq_of_beq_eq_true hpx
    subst hE9
    have hxm : (((s9, e9, h9, ct), (E9, hp, sl)) : (Nat × Nat × Nat × Nat) × (Nat × Nat × Nat)) ∈ z := by rw [hzz]; exact List.mem_append_right _ List.mem_cons_self
    have hc := List.all_eq_true.mp hall _ hxm
    dsimp only at hc
    rw [Bool.and_eq_true] at hc
    obtain ⟨hc1, hc2⟩ := hc
    obtain ⟨hct, hE3, hsl⟩ := of_decide_eq_true hc1
    have hwl : ∀ y ∈ z, (Jvm.Cond.classLink (m_o k) y.1.2.2.2 (xexc y.2.1)).before args s = true ∧ (Jvm.Cond.castable (xexc y.2.1) (xexc y.2.1)).before args s = true := fun y hy =>
      ⟨xfr_w F (hreq _ (List.mem_flatMap.mpr ⟨y, hy, List.mem_cons_self⟩)), xfr_w F (hreq _ (List.mem_flatMap.mpr ⟨y, hy, List.mem_cons_of_mem _ List.mem_cons_self⟩))⟩
    have hcv : ∀ y ∈ z, y.1.1 ≤ pc ∧ pc < y.1.2.1 := fun y hy => of_decide_eq_true (List.all_eq_true.mp hcov y.1 (by rw [e1]; exact List.mem_map_of_mem hy))
    have hsplit : c.exceptionTable.toList = tableOf (za.map Prod.fst) ++ ⟨s9, e9, h9, ct⟩ :: tableOf (zb.map Prod.fst) := by
      rw [htab, e1, hzz]
      simp [tableOf]
    refine vx_catch hown (tableOf (za.map Prod.fst)) ⟨s9, e9, h9, ct⟩ (tableOf (zb.map Prod.fst)) hsplit ?_ ?_ hct (hwl _ hxm).1 (hwl _ hxm).2 hcell hv hcl ?_
    · intro y hy
      unfold tableOf at hy
      rw [List.map_map] at hy
      obtain ⟨y0, hy0, rfl⟩ := List.mem_map.mp hy
      have hyz : y0 ∈ z := by rw [hzz]; exact List.mem_append_left _ hy0
      have hc5 := List.all_eq_true.mp hall _ hyz
      obtain ⟨⟨s5, e5, h5, ct5⟩, ⟨E5, hp5, sl5⟩⟩ := y0
      dsimp only at hc5
      rw [Bool.and_eq_true] at hc5
      obtain ⟨hct5, hE5, -⟩ := of_decide_eq_true hc5.1
      refine Or.inr ⟨hct5, xexc E5, (hwl _ hyz).1, h0.2.2.2.2.1 (E9, E5) (xnc_in _ hE _ hE5 ?_)⟩
      intro h
      subst h
      have := hna _ hy0
      simp at this
    · obtain ⟨h1, h2⟩ := hcv _ hxm
      simp only [covers, Bool.and_eq_true, decide_eq_true_eq]
      exact ⟨h1, h2⟩
    · rcases Bool.or_eq_true_iff.mp hc2 with h | h
      · rw [Bool.and_eq_true] at h
        obtain ⟨ha, hb2⟩ := h
        obtain ⟨rfl, -⟩ := of_decide_eq_true ha
        obtain ⟨j, -, hj⟩ := List.any_eq_true.mp hb2
        obtain ⟨hj1, hj2⟩ := of_decide_eq_true hj
        exact lv_astore_n hx hb hj2 hj1 hl hsl rfl (fun ls' hl' => kk ls' (xlv_set (fun z hz => by cases hz) hl'))
      · obtain ⟨rfl, h2⟩ := of_decide_eq_true h
        exact lv_astore hx hb h2 hl hsl rfl (fun ls' hl' => kk ls' (xlv_set (fun z hz => by cases hz) hl'))
theorem xdp_sum {st : List Value} (h : xdp st = true) : ((st.map (xv ad)).map fun v => v.category).sum ≤ 8 := by
  unfold xdp at h
  rcases Bool.or_eq_true_iff.mp h with h | h
  · have h1 := Nat.le_of_ble_eq_true h
    have := x_sum (st.map (xv ad))
    rw [List.length_map] at this
    omega
  · rw [Bool.and_eq_true] at h
    obtain ⟨h1, h2⟩ := h
    have h1 := Nat.le_of_ble_eq_true h1
    have gen : ∀ st : List Value, st.all (fun v => Nat.ble v.category 1) = true → ((st.map (xv ad)).map fun v => v.category).sum ≤ st.length := by
      intro st
      induction st with
      | nil => intro _; exact Nat.le_refl _
      | cons v st ih =>
        intro h
        rw [List.all_cons, Bool.and_eq_true] at h
        have h3 := ih h.2
        have h4 := Nat.le_of_ble_eq_true h.1
        rw [List.map_cons, List.map_cons, List.sum_cons, xv_cat, List.length_cons]
        omega
    have := gen st h2
    omega
theorem x_end {ad0 : Nat → Nat} {hd : List (Nat × Nat × Nat)} {G : xS → Prop} {g : Prop} {r : xR} {w : xW} {H : Heap} (h : xFo tn hd cl Q G (xend tn g r w)) (hag : xag tn ad0 ad) (hP : va_P D vwCl (xw ad tg w) H) (hD : va_D (xA base) (xw ad tg w)) : g ∧ ∃ w0, Q r w0 ∧ va_P D vwCl (xw ad0 tg w0) H ∧ va_D (xA base) (xw ad0 tg w0) := by
  cases tn with
  | none =>
    obtain rfl : ad = ad0 := hag.2
    exact ⟨h.1, w, h.2, hP, hD⟩
  | some n =>
    unfold xend at h
    dsimp only at h
    split at h
    · rename_i hlow
      refine ⟨h.1, _, h.2, ?_, ?_⟩
      · rw [xw_low hag.2 hlow]
        exact hP.by id (fun k q hk => by
          rw [List.getElem?_take] at hk
          split at hk
          · exact hk
          · cases hk)
      · rw [xw_low hag.2 hlow]
        exact hD.by id (fun k q hk => by
          rw [List.getElem?_take] at hk
          split at hk
          · exact hk
          · cases hk) (fun i j _ _ e => e)
    · exact h.elim
set_option maxHeartbeats 8000000 in
set_option maxRecDepth 100000 in
theorem x_step (F : xfr p R s m args meth c D base tg sc sb k bm n) {ad0 : Nat → Nat} (hsb : ad0 77 = sb) (hcall : ∀ ad k' as w P, cl k' as w P → xMet l D base tg sc sb ad n k' as w P)
    (hret : ∀ (H : Heap) (locs : List Loc) (ls : Array Slot) (pc : Nat) (x : Int32) (w : xW) (u : Nat), va_P D vwCl (xw ad0 tg w) H → va_D (xA base) (xw ad0 tg w) → va_S (xA base) s.heap H locs → u ≤ bm → Q (.inl (some (.int x))) w → decode (m_c k) pc = .ok (.ireturn, 1) → (m_r k = some .int ∨ (m_r k = some .boolean ∧ xz x)) → W p l e R s m args below meth c H locs u (6 * u) Qf (F0 m pc ls [.int x]))
    (hvret : ∀ (H : Heap) (locs : List Loc) (ls : Array Slot) (pc : Nat) (w : xW) (u : Nat), va_P D vwCl (xw ad0 tg w) H → va_D (xA base) (xw ad0 tg w) → va_S (xA base) s.heap H locs → u ≤ bm → Q (.inl none) w → decode (m_c k) pc = .ok (.return_, 1) → m_r k = none → W p l e R s m args below meth c H locs u (6 * u) Qf (F0 m pc ls []))
    (hthr : ∀ (H : Heap) (locs : List Loc) (ls : Array Slot) (pc i nx r1 r2 r3 r4 : Nat) (w : xW) (u : Nat), va_P D vwCl (xw ad0 tg w) H → va_D (xA base) (xw ad0 tg w) → va_S (xA base) s.heap H locs → ls.size = m_L k → u + 1 ≤ bm → Q (.inr r1) w → Nat.ble r4 1 = true → (pc, Instr.new i, nx, r1, r2, r3, r4) ∈ (m_i k).flatten → W p l e R s m args below meth c H locs u (6 * u) Qf (F0 m pc ls []))
    (hout : ∀ (H : Heap) (locs : List Loc) (ls : Array Slot) (pc E : Nat) (rest : List Value) (w : xW) (u : Nat) (ce : Cell) (q : Addr), va_P D vwCl (xw ad0 tg w) H → va_D (xA base) (xw ad0 tg w) → va_S (xA base) s.heap H locs → u ≤ bm → E < 3 → Q (.inr E) w → m_hd k = [] → H[q]? = some ce → ce.vm = .none → s.vm.findClass (xexc E) = some ce.cls → vx_W p l e R s m args below meth c H locs u (6 * u) Qf (F0 m pc ls rest) q) :
    ∀ st : xS, xF (m_i k) bm (sc, tn) (m_hd k) cl Q (xgoal p l e R s m args below meth c Qf D base tg tn ad0 (m_L k) bm) st → xgoal p l e R s m args below meth c Qf D base tg tn ad0 (m_L k) bm st := by
  intro st
  obtain ⟨pc, L, stk, w, u⟩ := st
  intro hF ad hag H locs ls hP hD hS hl hu
  dsimp only at hP hD hl hu ⊢
  unfold xF xo at hF
  dsimp only at hF
  cases hat : xat (m_i k) pc with
  | none => rw [hat] at hF; exact hF.elim
  | some e0 =>
  rw [hat] at hF
  obtain ⟨hmem, hpc⟩ := xat_mem hat
  obtain ⟨pc', ins, nx, r1, r2, r3, r4⟩ := e0
  dsimp only at hpc hF
  subst hpc
  have hck := F.2.2.2.2.2.2.1.1 _ hmem
  obtain ⟨hck, hrq⟩ := hck
  obtain ⟨hx, hb, hml, hown, hlocks, h0, hok, htab, hRf, hRl, hRc, hRs, hbase⟩ := id F
  have hK := h0.2.2.2.2.2.1
  have hsba : ad 77 = sb := hag.1.trans hsb
  unfold xchk at hck
  dsimp only at hck
  rw [Bool.and_eq_true, decide_eq_true_eq] at hck
  obtain ⟨hdg, hck⟩ := hck
  cases ins
  case iconst i =>
    dsimp only at hF hck
    obtain ⟨rfl, hv⟩ := of_decide_eq_true hck
    rw [Nat.add_sub_cancel_left] at hdg
    exact lv_iconst hx hb hdg hv (hF ad hag H locs ls hP hD hS hl hu)
  case bipush i =>
    dsimp only at hF hck
    obtain ⟨rfl, hv⟩ := of_decide_eq_true hck
    rw [Nat.add_sub_cancel_left] at hdg
    exact lv_bipush hx hb hdg hv (hF ad hag H locs ls hP hD hS hl hu)
  case sipush i =>
    dsimp only at hF hck
    obtain ⟨rfl, hv⟩ := of_decide_eq_true hck
    rw [Nat.add_sub_cancel_left] at hdg
    exact lv_sipush hx hb hdg hv (hF ad hag H locs ls hP hD hS hl hu)
  case ldc i =>
    dsimp only at hF hck
    obtain rfl := of_decide_eq_true hck
    rw [Nat.add_sub_cancel_left] at hdg
    cases r4 with
    | succ r => exact hF.elim
    | zero =>
      unfold xreq at hrq; dsimp only at hrq
      exact lv_ldc hx hb hown (xfr_w F (hrq _ List.mem_cons_self)) hdg (hF ad hag H locs ls hP hD hS hl hu)
  case ldc_w i =>
    dsimp only at hF hck
    obtain rfl := of_decide_eq_true hck
    rw [Nat.add_sub_cancel_left] at hdg
    cases r4 with
    | succ r => exact hF.elim
    | zero =>
      unfold xreq at hrq; dsimp only at hrq
      exact lv_ldcw hx hb hown (xfr_w F (hrq _ List.mem_cons_self)) hdg (hF ad hag H locs ls hP hD hS hl hu)
  case lconst i =>
    dsimp only at hF hck
    obtain rfl := of_decide_eq_true hck
    rw [Nat.add_sub_cancel_left] at hdg
    exact lv_lconst hx hb hdg rfl (hF ad hag H locs ls hP hD hS hl hu)
  case iload i =>
    dsimp only at hF hck
    obtain ⟨x, hx1, hG⟩ := x_ldi hF
    obtain rfl := of_decide_eq_true hck
    rw [Nat.add_sub_cancel_left] at hdg
    exact lv_iload hx hb hdg (xlv_at hl hx1 (fun z => by cases z)) (hG ad hag H locs ls hP hD hS hl hu)
  case iload_n i =>
    dsimp only at hF hck
    obtain ⟨x, hx1, hG⟩ := x_ldi hF
    obtain rfl := of_decide_eq_true hck
    rw [Nat.add_sub_cancel_left] at hdg
    exact lv_iload_n hx hb hdg rfl (xlv_at hl hx1 (fun z => by cases z)) (hG ad hag H locs ls hP hD hS hl hu)
  case aload i =>
    dsimp only at hF hck
    obtain ⟨x, hx1, hG⟩ := x_lda hF
    obtain rfl := of_decide_eq_true hck
    rw [Nat.add_sub_cancel_left] at hdg
    exact lv_aload hx hb hdg (xlv_at hl hx1 (fun z => by cases z)) (hG ad hag H locs ls hP hD hS hl hu)
  case aload_n i =>
    dsimp only at hF hck
    obtain ⟨x, hx1, hG⟩ := x_lda hF
    obtain rfl := of_decide_eq_true hck
    rw [Nat.add_sub_cancel_left] at hdg
    exact lv_aload_n hx hb hdg rfl (xlv_at hl hx1 (fun z => by cases z)) (hG ad hag H locs ls hP hD hS hl hu)
  case istore i =>
    dsimp only at hF hck
    obtain ⟨x, st, rfl, hG⟩ := x_sti hF
    obtain ⟨rfl, hi⟩ := of_decide_eq_true hck
    rw [Nat.add_sub_cancel_left] at hdg
    exact lv_istore hx hb hdg hl hi rfl (fun ls' hl' => hG ad hag H locs ls' hP hD hS (xlv_set (fun z hz => by cases hz; rfl) hl') hu)
  case istore_n i =>
    dsimp only at hF hck
    obtain ⟨x, st, rfl, hG⟩ := x_sti hF
    obtain ⟨rfl, hi⟩ := of_decide_eq_true hck
    rw [Nat.add_sub_cancel_left] at hdg
    exact lv_istore_n hx hb hdg rfl hl hi rfl (fun ls' hl' => hG ad hag H locs ls' hP hD hS (xlv_set (fun z hz => by cases hz; rfl) hl') hu)
  case astore i =>
    dsimp only at hF hck
    obtain ⟨x, st, rfl, hG⟩ := x_sta hF
    obtain ⟨rfl, hi⟩ := of_decide_eq_true hck
    rw [Nat.add_sub_cancel_left] at hdg
    exact lv_astore hx hb hdg hl hi rfl (fun ls' hl' => hG ad hag H locs ls' hP hD hS (xlv_set (fun z hz => by cases hz; rfl) hl') hu)
  case astore_n i =>
    dsimp only at hF hck
    obtain ⟨x, st, rfl, hG⟩ := x_sta hF
    obtain ⟨rfl, hi⟩ := of_decide_eq_true hck
    rw [Nat.add_sub_cancel_left] at hdg
    exact lv_astore_n hx hb hdg rfl hl hi rfl (fun ls' hl' => hG ad hag H locs ls' hP hD hS (xlv_set (fun z hz => by cases hz; rfl) hl') hu)
  case iinc i n9 =>
    dsimp only at hF hck
    split at hF
    · rename_i x hx1
      obtain ⟨rfl, hv⟩ := of_decide_eq_true hck
      rw [Nat.add_sub_cancel_left] at hdg
      have hx2 := xlv_at hl hx1 (fun z => by cases z)
      have hi : i < m_L k := by rw [← hl.1]; exact (Array.getElem?_eq_some_iff.mp hx2).1
      obtain ⟨j, hj⟩ := List.getElem?_of_mem ((xlv_mem (ad := ad) L 0 (i, .int x)).mpr ⟨i, .int x, hx1, (fun z => by cases z), by rw [Nat.zero_add]; rfl⟩)
      exact lv_iinc hx hb hdg hl hj (by rw [hv]) hi rfl (fun ls' hl' => hF ad hag H locs ls' hP hD hS (xlv_set (fun z hz => by cases hz; rfl) hl') hu)
    · exact hF.elim
  case iadd =>
    dsimp only at hF hck
    obtain ⟨x, y, st, rfl, hG⟩ := x_bin hF
    obtain rfl := of_decide_eq_true hck
    rw [Nat.add_sub_cancel_left] at hdg
    exact lv_iadd hx hb hdg (hG ad hag H locs ls hP hD hS hl hu)
  case isub =>
    dsimp only at hF hck
    obtain ⟨x, y, st, rfl, hG⟩ := x_bin hF
    obtain rfl := of_decide_eq_true hck
    rw [Nat.add_sub_cancel_left] at hdg
    exact lv_isub hx hb hdg (hG ad hag H locs ls hP hD hS hl hu)
  case imul =>
    dsimp only at hF hck
    obtain ⟨x, y, st, rfl, hG⟩ := x_bin hF
    obtain rfl := of_decide_eq_true hck
    rw [Nat.add_sub_cancel_left] at hdg
    exact lv_imul hx hb hdg (hG ad hag H locs ls hP hD hS hl hu)
  case iand =>
    dsimp only at hF hck
    obtain ⟨x, y, st, rfl, hG⟩ := x_bin hF
    obtain rfl := of_decide_eq_true hck
    rw [Nat.add_sub_cancel_left] at hdg
    exact lv_iand hx hb hdg (hG ad hag H locs ls hP hD hS hl hu)
  case ior =>
    dsimp only at hF hck
    obtain ⟨x, y, st, rfl, hG⟩ := x_bin hF
    obtain rfl := of_decide_eq_true hck
    rw [Nat.add_sub_cancel_left] at hdg
    exact lv_ior hx hb hdg (hG ad hag H locs ls hP hD hS hl hu)
  case ixor =>
    dsimp only at hF hck
    obtain ⟨x, y, st, rfl, hG⟩ := x_bin hF
    obtain rfl := of_decide_eq_true hck
    rw [Nat.add_sub_cancel_left] at hdg
    exact lv_ixor hx hb hdg (hG ad hag H locs ls hP hD hS hl hu)
  case ishl =>
    dsimp only at hF hck
    obtain ⟨x, y, st, rfl, hG⟩ := x_bin hF
    obtain rfl := of_decide_eq_true hck
    rw [Nat.add_sub_cancel_left] at hdg
    exact lv_ishl hx hb hdg (hG ad hag H locs ls hP hD hS hl hu)
  case iushr =>
    dsimp only at hF hck
    obtain ⟨x, y, st, rfl, hG⟩ := x_bin hF
    obtain rfl := of_decide_eq_true hck
    rw [Nat.add_sub_cancel_left] at hdg
    exact lv_iushr hx hb hdg rfl (hG ad hag H locs ls hP hD hS hl hu)
  case idiv =>
    dsimp only at hF hck
    obtain rfl := of_decide_eq_true hck
    rw [Nat.add_sub_cancel_left] at hdg
    split at hF
    · exact lv_idiv hx hb hdg hF.1 (hF.2 ad hag H locs ls hP hD hS hl hu)
    · exact hF.elim
  case irem =>
    dsimp only at hF hck
    obtain rfl := of_decide_eq_true hck
    rw [Nat.add_sub_cancel_left] at hdg
    split at hF
    · exact lv_irem hx hb hdg hF.1 (hF.2 ad hag H locs ls hP hD hS hl hu)
    · exact hF.elim
  case ishr =>
    dsimp only at hF hck
    obtain ⟨x, y, st, rfl, hG⟩ := x_bin hF
    obtain rfl := of_decide_eq_true hck
    rw [Nat.add_sub_cancel_left] at hdg
    exact lv_ishr hx hb hdg (hG ad hag H locs ls hP hD hS hl hu)
  case newarray aty =>
    cases aty
    case int =>
      dsimp only at hF hck
      obtain ⟨rfl, hr6, hr100, hr1⟩ := of_decide_eq_true hck
      rw [Nat.add_sub_cancel_left] at hdg
      have hw0 : (Jvm.Cond.arrayClass .int).before args s = true := by
        obtain ⟨-, k9, hk9, comp9, hkd9⟩ := (hK.2 0 _ rfl).1 0 (fun _ => .null)
        have hf9 : s.vm.findClass ("[" ++ (FieldType.int).toString) = some (tg 0) := (hK.2 0 _ rfl).2
        have hk9 : s.vm.classes[tg 0]? = some k9 := hk9
        simp [Cond.before, Cond.holds, Cond.value, hf9, hk9, hkd9]
      split at hF
      · rename_i x st
        split at hF
        · rename_i n0 hfr
          split at hF
          · rename_i hn0
            obtain ⟨⟨hxn, hub⟩, hG⟩ := hF
            subst hxn
            rw [Bool.and_eq_true, Bool.and_eq_true] at hfr
            obtain ⟨hfr, hlen, h60⟩ := hfr
            have hlen := Nat.eq_of_beq_eq_true hlen
            have h60 := Nat.le_of_ble_eq_true h60
            have hn0 := Nat.le_of_ble_eq_true hn0
            subst hlen
            unfold xfree at hfr
            rw [Bool.and_eq_true, Bool.and_eq_true] at hfr
            obtain ⟨hf1, hf2, hf3⟩ := hfr
            refine xn_newa (atype := .int) (cA := tg 0) (N' := r1) (a0 := (r1, .inl (fun _ => 0))) hx hb hw0 (hK.2 0 _ rfl).2 hP hD hS (fun q hq => Nat.le_trans hbase hq) rfl (nI_pos (by omega)) (nI_clamp (by omega)) (Nat.le_trans (Nat.mul_le_mul_right _ hr100) (by decide)) (by omega) (by omega) hdg (fun q H1 hP1 hD1 hS1 => ?_)
            refine W.widen (k := u + r4) (n := 6 * (u + r4)) (by omega) (by omega) ?_
            have hag' : xag (some n0) ad0 (fun i => if i = w.length then q else ad i) := by
              obtain ⟨g1, g2⟩ := hag
              refine ⟨?_, fun i hi => ?_⟩
              · show (if 77 = w.length then q else ad 77) = ad0 77
                rw [if_neg (by omega)]; exact g1
              · show (if i = w.length then q else ad i) = ad0 i
                rw [if_neg (by omega)]; exact g2 i hi
            have ew : xw (fun i => if i = w.length then q else ad i) tg (w ++ [.inl (0, r1, .inl (fun _ => 0))]) = xw ad tg w ++ [(q, .inl (tg 0, r1, .inl (fun _ => 0)))] := xw_nr hf3 rfl
            have est : ((Value.ref w.length :: st).map (xv (fun i => if i = w.length then q else ad i))) = .ref q :: st.map (xv ad) := by
              rw [List.map_cons, xst_nr hf2]
              show Value.ref (if w.length = w.length then q else ad w.length) :: _ = _
              rw [if_pos rfl]
            have hk := hG _ hag' H1 locs ls (by show va_P D vwCl (xw _ tg (w ++ [_])) H1; rw [ew]; exact hP1) (by show va_D (xA base) (xw _ tg (w ++ [_])); rw [ew]; exact hD1) hS1 (by show lv_has ls (m_L k) (xlv _ 0 L); rw [xlv_nr L 0 hf1]; exact hl) hub
            dsimp only at hk
            rw [est] at hk
            exact hk
          · exact hF.elim
        · exact hF.elim
      · exact hF.elim
    all_goals exact hF.elim
  case i2l =>
    dsimp only at hF hck
    obtain rfl := of_decide_eq_true hck
    rw [Nat.add_sub_cancel_left] at hdg
    split at hF
    · exact lv_i2l hx hb hdg rfl (hF ad hag H locs ls hP hD hS hl hu)
    · exact hF.elim
  case lcmp =>
    dsimp only at hF hck
    obtain rfl := of_decide_eq_true hck
    rw [Nat.add_sub_cancel_left] at hdg
    split at hF
    · exact W.lcmp hx hb hdg (hF ad hag H locs ls hP hD hS hl hu)
    · exact hF.elim
  case dup =>
    dsimp only at hF hck
    obtain rfl := of_decide_eq_true hck
    rw [Nat.add_sub_cancel_left] at hdg
    split at hF
    · exact lv_dup hx hb hdg rfl (hF ad hag H locs ls hP hD hS hl hu)
    · exact lv_dup hx hb hdg rfl (hF ad hag H locs ls hP hD hS hl hu)
    · exact hF.elim
  case dup2 =>
    dsimp only at hF hck
    obtain rfl := of_decide_eq_true hck
    rw [Nat.add_sub_cancel_left] at hdg
    split at hF
    · exact lv_dup2_11 hx hb hdg rfl rfl (hF ad hag H locs ls hP hD hS hl hu)
    · exact hF.elim
  case pop =>
    dsimp only at hF hck
    obtain rfl := of_decide_eq_true hck
    rw [Nat.add_sub_cancel_left] at hdg
    split at hF
    · exact lv_pop hx hb hdg rfl (hF ad hag H locs ls hP hD hS hl hu)
    · exact hF.elim
  case goto off =>
    dsimp only at hF hck
    obtain ⟨rfl, ht⟩ := of_decide_eq_true hck
    rw [Nat.add_sub_cancel_left] at hdg
    exact lv_goto hx hb hdg ht (hF ad hag H locs ls hP hD hS hl hu)
  case ifCond cd off =>
    dsimp only at hF hck
    obtain ⟨rfl, ht⟩ := of_decide_eq_true hck
    rw [Nat.add_sub_cancel_left] at hdg
    split at hF
    · cases cd
      · exact lv_if_eq hx hb hdg ht (fun h => hF.1 h ad hag H locs ls hP hD hS hl hu) (fun h => hF.2 h ad hag H locs ls hP hD hS hl hu)
      · exact lv_if_ne hx hb hdg ht (fun h => hF.2 h ad hag H locs ls hP hD hS hl hu) (fun h => hF.1 h ad hag H locs ls hP hD hS hl hu)
      · exact lv_if_lt hx hb hdg ht (fun h => hF.1 h ad hag H locs ls hP hD hS hl hu) (fun h => hF.2 h ad hag H locs ls hP hD hS hl hu)
      · exact lv_if_ge hx hb hdg ht (fun h => hF.1 h ad hag H locs ls hP hD hS hl hu) (fun h => hF.2 h ad hag H locs ls hP hD hS hl hu)
      · exact lv_if_gt hx hb hdg ht (fun h => hF.1 h ad hag H locs ls hP hD hS hl hu) (fun h => hF.2 h ad hag H locs ls hP hD hS hl hu)
      · exact lv_if_le hx hb hdg ht (fun h => hF.1 h ad hag H locs ls hP hD hS hl hu) (fun h => hF.2 h ad hag H locs ls hP hD hS hl hu)
    · exact hF.elim
  case if_icmp cd off =>
    dsimp only at hF hck
    obtain ⟨rfl, ht⟩ := of_decide_eq_true hck
    rw [Nat.add_sub_cancel_left] at hdg
    split at hF
    · cases cd
      · exact lv_icmp_eq hx hb hdg ht (fun h => hF.1 h ad hag H locs ls hP hD hS hl hu) (fun h => hF.2 h ad hag H locs ls hP hD hS hl hu)
      · exact lv_icmp_ne hx hb hdg ht (fun h => hF.2 h ad hag H locs ls hP hD hS hl hu) (fun h => hF.1 h ad hag H locs ls hP hD hS hl hu)
      · exact lv_icmp_lt hx hb hdg ht (fun h => hF.1 h ad hag H locs ls hP hD hS hl hu) (fun h => hF.2 h ad hag H locs ls hP hD hS hl hu)
      · exact lv_icmp_ge hx hb hdg ht (fun h => hF.1 h ad hag H locs ls hP hD hS hl hu) (fun h => hF.2 h ad hag H locs ls hP hD hS hl hu)
      · exact lv_icmp_gt hx hb hdg ht (fun h => hF.1 h ad hag H locs ls hP hD hS hl hu) (fun h => hF.2 h ad hag H locs ls hP hD hS hl hu)
      · exact lv_icmp_le hx hb hdg ht (fun h => hF.1 h ad hag H locs ls hP hD hS hl hu) (fun h => hF.2 h ad hag H locs ls hP hD hS hl hu)
    · exact hF.elim
  case tableswitch d lo hi offs =>
    dsimp only at hF hck
    rw [Bool.and_eq_true] at hck
    obtain ⟨hck1, hck2⟩ := hck
    obtain ⟨hlh, hsz, hd0⟩ := of_decide_eq_true hck1
    split at hF
    · rename_i x st
      by_cases hr : x.toInt < lo ∨ hi < x.toInt
      · refine lv_tableOut hx hb hdg hr (tgt := xsw pc' d lo hi offs x) ?_ (hF ad hag H locs ls hP hD hS hl hu)
        unfold xsw; rw [if_pos hr]; omega
      · have h1 : ¬ x.toInt < lo := fun h => hr (Or.inl h)
        have h2 : ¬ hi < x.toInt := fun h => hr (Or.inr h)
        have h3 : (x.toInt - lo).toNat < offs.size := by omega
        have h4 : offs[(x.toInt - lo).toNat]? = some (offs[(x.toInt - lo).toNat]) := Array.getElem?_eq_getElem h3
        refine lv_tableIn hx hb hdg h1 h2 h4 (tgt := xsw pc' d lo hi offs x) ?_ (hF ad hag H locs ls hP hD hS hl hu)
        have h5 := Array.all_eq_true.mp hck2 _ h3
        have h6 := of_decide_eq_true h5
        unfold xsw; rw [if_neg hr, h4]; dsimp only; omega
    · exact hF.elim
  case getfield i =>
    dsimp only at hF hck
    unfold xreq at hrq; dsimp only at hrq
    split at hF
    · rename_i a st
      split at hF
      · rename_i ci fs hw
        split at hF
        · rename_i v hci hv
          obtain rfl := Nat.eq_of_beq_eq_true hci
          cases hcl : vwCl[ci]? with
          | none => rw [hcl] at hck; cases hck
          | some q =>
            obtain ⟨C, T, N⟩ := q
            rw [hcl] at hck hrq
            obtain ⟨rfl, hk9⟩ := of_decide_eq_true hck
            rw [Nat.add_sub_cancel_left] at hdg
            have hw9 := hrq _ List.mem_cons_self
            have hv9 : (fs.map (xv ad))[r2]? = some (xv ad v) := by rw [List.getElem?_map, hv]; rfl
            by_cases h3 : r3 = 0
            · rw [if_pos h3] at hw9
              exact va_get hx hb (Ts := u_ws C T N) (fun z hz => xfr_w F (xcl_in _ (List.mem_of_getElem? hcl) z hz)) (fun _ h => h) hown hK hP a (xw_at hw) hcl r2 hk9 (xfr_w F hw9) (fun _ h => h) hv9 hdg (hF ad hag H locs ls hP hD hS hl hu)
            · rw [if_neg h3] at hw9
              exact va_getN hx hb (Ts := u_ws C T N) (fun z hz => xfr_w F (xcl_in _ (List.mem_of_getElem? hcl) z hz)) (fun _ h => h) hown hK hP a (xw_at hw) hcl r2 hk9 (xfr_w F hw9) (fun _ h => h) hv9 hdg (hF ad hag H locs ls hP hD hS hl hu)
        · exact hF.elim
      · exact hF.elim
    · exact hF.elim
  case putfield i =>
    dsimp only at hF hck
    unfold xreq at hrq; dsimp only at hrq
    split at hF
    · rename_i x a st
      split at hF
      · rename_i ci fs hw
        split at hF
        · rename_i v hci hv
          obtain rfl := Nat.eq_of_beq_eq_true hci
          cases hcl : vwCl[ci]? with
          | none => rw [hcl] at hck; cases hck
          | some q =>
            obtain ⟨C, T, N⟩ := q
            rw [hcl] at hck hrq
            obtain ⟨rfl, hk9, hfin, hd9⟩ := of_decide_eq_true hck
            rw [Nat.add_sub_cancel_left] at hdg
            have hw9 := hrq _ List.mem_cons_self
            have hlen : r2 < (fs.map (xv ad)).length := by rw [List.length_map]; exact (List.getElem?_eq_some_iff.mp hv).1
            obtain ⟨hty, hnm⟩ := xcl_ty _ (List.mem_of_getElem? hcl)
            have e9 : xw ad tg (w.set a (.inr (ci, fs.set r2 (.int x)))) = (xw ad tg w).set a (ad a, .inr (ci, (fs.map (xv ad)).set r2 (.int x))) := by rw [xw_set]; simp [xc, List.map_set, xv]
            exact va_put hx hb (Ts := u_ws C T N) (fun z hz => xfr_w F (xcl_in _ (List.mem_of_getElem? hcl) z hz)) (fun _ h => h) (fun j => (parseFieldDescriptor (T j).2.2.1).getD .int) (fun j hj => by have := hty j hj; cases hp : parseFieldDescriptor (T j).2.2.1 with | none => rw [hp] at this; cases this | some z => rfl) hnm hown hK hP hD hS a (xw_at hw) hcl r2 hk9 (xfr_w F hw9) (fun _ h => h) hfin hd9 rfl rfl hlen hdg (fun H1 locs1 hP1 hD1 hS1 => hF ad hag H1 locs1 ls (by show va_P D vwCl (xw ad tg (w.set a _)) H1; rw [e9]; exact hP1) (by show va_D (xA base) (xw ad tg (w.set a _)); rw [e9]; exact hD1) hS1 hl hu)
        · exact hF.elim
      · exact hF.elim
    · exact hF.elim
  case iaload =>
    dsimp only at hF hck
    obtain rfl := of_decide_eq_true hck
    rw [Nat.add_sub_cancel_left] at hdg
    split at hF
    · rename_i i a st
      split at hF
      · rename_i n9 f hw
        exact va_iald hx hb hK hP a 0 (xw_at hw) rfl hF.1 hdg (hF.2 ad hag H locs ls hP hD hS hl hu)
      · exact hF.elim
      · split at hF
        · rename_i n9 xs hb9
          obtain rfl := Nat.eq_of_beq_eq_true hb9
          obtain ⟨hX, hbl, hbS⟩ := h0.2.2.2.2.2.2 _ _ rfl
          rw [← hsba] at hX hbl
          have hbA : ¬ xA base (ad 77) := Nat.not_le.mpr hbl
          have hbl := Nat.lt_of_lt_of_le hbl hbS
          exact va_sld hx hb hX hbl hbA hS hF.1 hdg (hF.2 ad hag H locs ls hP hD hS hl hu)
        · exact hF.elim
    · exact hF.elim
  case baload =>
    dsimp only at hck
    cases hck
  case laload =>
    dsimp only at hck
    cases hck
  case iastore =>
    dsimp only at hF hck
    obtain rfl := of_decide_eq_true hck
    rw [Nat.add_sub_cancel_left] at hdg
    split at hF
    · rename_i x i a st
      split at hF
      · rename_i n9 f hw
        have e9 : xw ad tg (w.set a (.inl (0, n9, .inl (upd f i.toNatClampNeg x)))) = (xw ad tg w).set a (ad a, .inl (tg 0, n9, .inl (upd f i.toNatClampNeg x))) := by rw [xw_set]; rfl
        exact va_iast hx hb hK hP hD hS a 0 (xw_at hw) rfl hF.1 hdg (fun H1 locs1 hP1 hD1 hS1 => hF.2 ad hag H1 locs1 ls (by show va_P D vwCl (xw ad tg (w.set a _)) H1; rw [e9]; exact hP1) (by show va_D (xA base) (xw ad tg (w.set a _)); rw [e9]; exact hD1) hS1 hl hu)
      · exact hF.elim
    · exact hF.elim
  case lastore =>
    dsimp only at hck
    cases hck
  case bastore =>
    dsimp only at hck
    cases hck
  case arraylength =>
    dsimp only at hF hck
    obtain rfl := of_decide_eq_true hck
    rw [Nat.add_sub_cancel_left] at hdg
    split at hF
    · rename_i a st
      split at hF
      · rename_i n9 f hw
        exact va_alen hx hb hK hP a 0 (xw_at hw) (ty := .int) rfl rfl hdg (hF ad hag H locs ls hP hD hS hl hu)
      · exact hF.elim
      · split at hF
        · rename_i n9 xs hb9
          obtain rfl := Nat.eq_of_beq_eq_true hb9
          obtain ⟨hX, hbl, hbS⟩ := h0.2.2.2.2.2.2 _ _ rfl
          rw [← hsba] at hX hbl
          have hbA : ¬ xA base (ad 77) := Nat.not_le.mpr hbl
          have hbl := Nat.lt_of_lt_of_le hbl hbS
          exact va_slen hx hb hX hbl hbA hS hdg (hF ad hag H locs ls hP hD hS hl hu)
        · exact hF.elim
    · exact hF.elim
  case ireturn =>
    dsimp only at hF hck
    obtain ⟨rfl, hr9⟩ := of_decide_eq_true hck
    rw [Nat.add_sub_cancel_left] at hdg
    split at hF
    · obtain ⟨hg9, w0, hQ9, hP9, hD9⟩ := x_end hF hag hP hD
      refine hret H locs ls _ _ w0 u hP9 hD9 hS hu hQ9 hdg ?_
      rcases hr9 with ⟨-, h⟩ | ⟨hn, h⟩
      · exact Or.inl h
      · exact Or.inr ⟨h, hg9.resolve_left hn⟩
    · exact hF.elim
  case return_ =>
    dsimp only at hF hck
    obtain ⟨rfl, hr9⟩ := of_decide_eq_true hck
    rw [Nat.add_sub_cancel_left] at hdg
    split at hF
    · obtain ⟨hg9, w0, hQ9, hP9, hD9⟩ := x_end hF hag hP hD
      exact hvret H locs ls _ w0 u hP9 hD9 hS hu hQ9 hdg hr9
    · exact hF.elim
  case new i =>
    dsimp only at hF
    split at hF
    · rename_i hr4
      obtain rfl : ad = ad0 := hag.2
      exact hthr H locs ls _ i nx r1 r2 r3 r4 w u hP hD hS hl.1 hF.1 hF.2 hr4 hmem
    · exact hF.elim
  case invokevirtual i =>
    dsimp only at hF hck
    unfold xreq at hrq; dsimp only at hrq
    split at hF
    · rename_i b as st hxa
      split at hF
      · rename_i ci fs hw
        split at hF
        · rename_i hci hst
          have hcr := Nat.eq_of_beq_eq_true hci
          subst hcr
          obtain ⟨hg, P, hcl, hk⟩ := hF
          rw [Bool.and_eq_true] at hck
          obtain ⟨hck, hcov⟩ := hck
          cases hcc : vwCl[ci]? with
          | none => rw [hcc] at hck; cases hck
          | some q =>
            obtain ⟨C, T, N⟩ := q
            rw [hcc] at hck
            dsimp only at hck
            rw [Bool.and_eq_true, Bool.and_eq_true] at hck
            obtain ⟨⟨hc1, hc2⟩, hc3⟩ := hck
            obtain ⟨rfl, rfl, hyC, hmh, hmL, hrL⟩ := of_decide_eq_true hc1
            rw [Nat.add_sub_cancel_left] at hdg
            obtain ⟨l9, e1, e2, e3, e4⟩ := xargs_spec _ _ _ _ _ hxa
            have hst4 : st.length ≤ 4 := Nat.le_of_ble_eq_true hst
            have hl9 : l9 = as.reverse ++ [.ref b] := by
              have := congrArg List.reverse e2
              simpa using this.symm
            have hpl := of_decide_eq_true hc2
            have hpa := of_decide_eq_true hc3
            have hn9 : as.length = r2 - 1 := by rw [← e3, hl9]; simp
            have hlen : ∀ sig, parseMethodDescriptor (m_y r1).desc = some sig → as.length = sig.parameters.length := fun sig h => by
              rw [h] at hpa
              rw [hn9]
              exact (Option.some.inj hpa).symm
            have hcat : ∀ v ∈ Value.ref b :: as, v.category ≠ 2 := fun v hv => e4 v (by
              rw [hl9]
              rcases List.mem_cons.mp hv with rfl | hv
              · simp
              · simp [hv])
            have hxc : xcode r1 = .code (m_y r1) (m_c r1) (m_L r1) (m_r r1) := by unfold xcode; rw [hmh]
            have hM := hcall ad r1 (.ref b :: as) w P hcl hsba hcat (by rw [← e3, hl9] at hrL; simpa using hrL)
            have hq0 := hrq _ List.mem_cons_self
            have hq1 := hrq _ (List.mem_cons_of_mem _ List.mem_cons_self)
            have hq2 := hrq _ (List.mem_cons_of_mem _ (List.mem_cons_of_mem _ List.mem_cons_self))
            have hq3 := hrq _ (List.mem_cons_of_mem _ (List.mem_cons_of_mem _ (List.mem_cons_of_mem _ List.mem_cons_self)))
            have hq4 := hrq _ (List.mem_cons_of_mem _ (List.mem_cons_of_mem _ (List.mem_cons_of_mem _ (List.mem_cons_of_mem _ List.mem_cons_self))))
            rw [hxc] at hM hq4
            rw [hyC] at hq2
            have hstack : stk.map (xv ad) = (as.map (xv ad)).reverse ++ .ref (ad b) :: st.map (xv ad) := by
              rw [e1, hl9]
              simp [xv]
            have hsum8 : ((st.map (xv ad)).map fun v => v.category).sum ≤ 8 := by
              have := x_sum (st.map (xv ad))
              rw [List.length_map] at this
              omega
            have hr := vx_runV (p := p) (l := l) (e := e) (below := below) (meth := meth) (locs := locs) (cells := u) (slots := 6 * u) (g := F0 m pc' ls (stk.map (xv ad))) (As := as.map (xv ad)) (rest := st.map (xv ad)) (b := ad b) (C := C) (n := as.length) (index := i) (Ts := []) ⟨hx, hb, hml, hown, fun _ h => nomatch h⟩ hM
              ⟨⟨rfl, rfl, (by show 10 + n + 1 ≤ R.frames; omega), (by show 8 + (m_L r1 + 11) + (100 + 40 * n) ≤ R.locals; omega), (fun w9 hw9 a' U hW => by rw [List.mem_singleton.mp hw9]; exact xfr_mv F hq4 hW), List.mem_cons_self, xfr_w F hq4, xfr_w F hq3, hpl, hlen, xfr_w F hq0⟩, xfr_w F hq1, xfr_w F hq2⟩
              ⟨xB_blind, va_recv hK hP hcc (xw_at hw), fun U hU hW => ⟨rfl, xS0_move h0 hS hU hW, by rw [hU]; exact Nat.le_trans hbase hS.1, by rw [hU]; exact hP, hD⟩⟩ rfl (by simp) hl.1 hstack (lv_room hsum8) hdg ⟨by omega, by omega⟩
            have hsum : ((st.map (xv ad)).map fun v => v.category).sum ≤ 8 := by
              have := x_sum (st.map (xv ad))
              rw [List.length_map] at this
              omega
            have hf : u + m_b r1 ≤ R.cells ∧ 6 * u + 6 * m_b r1 ≤ R.slots := by constructor <;> omega
            have hkx : ∀ (E : String) (ce : Cell) (q9 : Addr) (uu : Nat × xW) (t : State) (H1 : Heap) (locs1 : List Loc), t.heap = H1 → s.vm.Alike t.vm → (P (.inr uu.1) uu.2 ∧ uu.1 < 3) → (E = xexc uu.1 ∧ xBa D base tg ad uu.2 t) → H.size ≤ H1.size → (∀ q : Nat, q < H.size → ¬ xA base q → H1[q]? = H[q]?) → va_S (xA base) s.heap H1 locs1 → H1[q9]? = some ce → ce.vm = .none → s.vm.findClass E = some ce.cls → vx_W p l e R s m args below meth c H1 locs1 (u + m_b r1) (6 * u + 6 * m_b r1) Qf (F0 m pc' ls (st.map (xv ad))) q9 := by
              intro E ce q9 uu t H1 locs1 ht hal hpx hbx hsz hfr hS1 hce hv hfc
              obtain ⟨rfl, hP1, hD1⟩ := hbx
              rw [ht] at hP1
              have h9 := hk (.inr uu.1) uu.2 hpx.1
              unfold xH at h9
              dsimp only at h9
              rw [← Nat.mul_add]
              split at h9
              · obtain ⟨h91, h92, h93⟩ := h9
                subst h92
                obtain rfl : ad = ad0 := hag.2
                exact hout H1 locs1 ls pc' uu.1 _ uu.2 (u + m_b r1) ce q9 hP1 hD1 hS1 hg hpx.2 h93 h91 hce hv hfc
              · rename_i hfd
                exact x_catch F hpx.2 hfd hcov hce hv hfc hl (fun ls' hl' => h9 ad hag H1 locs1 ls' hP1 hD1 hS1 hl' hg)
            cases hrr : m_r r1 with
            | none =>
              have hq : xQc D base tg ad r1 P = va_Qv (fun u : xW => P (.inl none) u) (xBa D base tg ad) (xA base) := by unfold xQc; rw [hrr]
              rw [hq] at hr
              refine vx_callv hr hS (fun _ _ h => h) (fun _ h => h) (fun _ _ h => h) hkx ?_
              intro uu t H1 locs1 ht hal hpx hbx hsz hfr hS1
              obtain ⟨hP1, hD1⟩ := hbx
              rw [ht] at hP1
              have h9 := hk (.inl none) uu hpx
              rw [← Nat.mul_add]
              exact h9 ad hag H1 locs1 ls hP1 hD1 hS1 hl hg
            | some ty =>
              have hq : xQc D base tg ad r1 P = va_Qi (fun (r : Int32) (u : xW) => P (.inl (some (.int r))) u) (xBa D base tg ad) (xA base) := by unfold xQc; rw [hrr]
              rw [hq] at hr
              refine vx_calli hr hS (fun _ _ h => h) (fun _ h => h) (fun _ _ h => h) hkx ?_
              intro r uu t H1 locs1 ht hal hpx hbx hsz hfr hS1
              obtain ⟨hP1, hD1⟩ := hbx
              rw [ht] at hP1
              have h9 := hk (.inl (some (.int r))) uu hpx
              rw [← Nat.mul_add]
              exact h9 ad hag H1 locs1 ls hP1 hD1 hS1 hl hg
        · exact hF.elim
      · exact hF.elim
    · exact hF.elim
  case invokestatic i =>
    dsimp only at hF hck
    unfold xreq at hrq; dsimp only at hrq
    split at hF
    rotate_left
    · exact hF.elim
    split at hF
    · rename_i as st hxa _ hst
      obtain ⟨hg, P, hcl, hk⟩ := hF
      rw [Bool.and_eq_true, Bool.and_eq_true, Bool.and_eq_true] at hck
      obtain ⟨⟨⟨hc1, hc2⟩, hc3⟩, hcov⟩ := hck
      obtain ⟨rfl, rfl, hmL, hmh, hrL⟩ := of_decide_eq_true hc1
      rw [Nat.add_sub_cancel_left] at hdg
      obtain ⟨l9, e1, e2, e3, e4⟩ := xargs_spec _ _ _ _ _ hxa
      have hdp : ((st.map (xv ad)).map fun v => v.category).sum ≤ 8 := xdp_sum hst
      have hl9 : l9 = as.reverse := by
        have := congrArg List.reverse e2
        simpa using this.symm
      have hpl := of_decide_eq_true hc2
      have hpa := of_decide_eq_true hc3
      have hn9 : as.length = r2 := by rw [← e3, hl9]; simp
      have hlen : ∀ sig, parseMethodDescriptor (m_y r1).desc = some sig → as.length = sig.parameters.length := fun sig h => by
        rw [h] at hpa
        rw [hn9]
        exact (Option.some.inj hpa).symm
      have hcat : ∀ v ∈ as, v.category ≠ 2 := fun v hv => e4 v (by rw [hl9]; simp [hv])
      have hM := hcall ad r1 as w P hcl hsba hcat (by rw [hn9]; exact hrL)
      have hq0 := hrq _ List.mem_cons_self
      have hq1 := hrq _ (List.mem_cons_of_mem _ List.mem_cons_self)
      have hq2 := hrq _ (List.mem_cons_of_mem _ (List.mem_cons_of_mem _ List.mem_cons_self))
      have hq3 := hrq _ (List.mem_cons_of_mem _ (List.mem_cons_of_mem _ (List.mem_cons_of_mem _ List.mem_cons_self)))
      have hstack : stk.map (xv ad) = (as.map (xv ad)).reverse ++ st.map (xv ad) := by
        rw [e1, hl9]
        simp
      have hsum8 : ((st.map (xv ad)).map fun v => v.category).sum ≤ 8 := hdp
      have hpre : PreS s H (va_Pc (as.map (xv ad)) (xB D base tg sc sb ad w)) (as.map (xv ad)) := ⟨xB_blind, fun U hU hW => ⟨rfl, xS0_move h0 hS hU hW, by rw [hU]; exact Nat.le_trans hbase hS.1, by rw [hU]; exact hP, hD⟩⟩
      have hr : vx_Run p l e R s m args below meth c H locs u (6 * u) (m_b r1) (6 * m_b r1) (F0 m pc' ls (stk.map (xv ad))) (st.map (xv ad)) (xQc D base tg ad r1 P (as.map (xv ad)).toArray) (xXC D base tg ad P) (xA base) := by
        have hf0 : 10 + n + 1 ≤ R.frames := by omega
        have hf1 : 8 + (m_L r1 + 11) + (100 + 40 * n) ≤ R.locals := by omega
        have hws : ∀ w9 ∈ [xcode r1], ∀ (a' : Array Value) (U : State), s.WarmedH U.vm → w9.before a' U = true := fun w9 hw9 a' U hW => by rw [List.mem_singleton.mp hw9]; exact xfr_mv F hq3 hW
        cases hmr : m_h r1 with
        | none =>
          have hxc : xcode r1 = .code (m_y r1) (m_c r1) (m_L r1) (m_r r1) := by unfold xcode; rw [hmr]
          rw [hxc] at hM hq3 hws
          by_cases h3 : r3 = 0
          · rw [if_pos h3] at hq0
            exact vx_runS (Ts := []) (n := as.length) (index := i) ⟨hx, hb, hml, hown, fun _ h => nomatch h⟩ hM ⟨⟨rfl, rfl, hf0, hf1, hws, List.mem_cons_self, xfr_w F hq3, xfr_w F hq2, hpl, hlen, xfr_w F hq0⟩, xfr_w F hq1⟩ hpre rfl (by simp) hl.1 hstack (lv_room hsum8) hdg ⟨by omega, by omega⟩
          · rw [if_neg h3] at hq0
            exact vx_runSN (Ts := []) (n := as.length) (index := i) ⟨hx, hb, hml, hown, fun _ h => nomatch h⟩ hM ⟨⟨⟨rfl, rfl, hf0, hf1, hws, List.mem_cons_self⟩, xfr_w F hq3, xfr_w F hq2, hpl, hlen, xfr_w F hq0⟩, xfr_w F hq1, trivial⟩ hpre rfl (by simp) hl.1 hstack (lv_room hsum8) hdg ⟨by omega, by omega⟩
        | some hh9 =>
          have h3 : r3 = 0 := hmh.resolve_right (by rw [hmr]; exact fun h => by cases h)
          have hxc : xcode r1 = .codeWith (m_y r1) (m_c r1) (m_L r1) (m_r r1) hh9 := by unfold xcode; rw [hmr]
          rw [hxc] at hM hq3 hws
          rw [if_pos h3] at hq0
          exact vx_runSX (hh := hh9) (Ts := []) (n := as.length) (index := i) ⟨hx, hb, hml, hown, fun _ h => nomatch h⟩ hM ⟨⟨rfl, rfl, hf0, hf1, hws, List.mem_cons_self⟩, xfr_w F hq3, xfr_w F hq2, hpl, hlen, xfr_w F hq0, xfr_w F hq1⟩ hpre rfl (by simp) hl.1 hstack (lv_room hsum8) hdg ⟨by omega, by omega⟩
      have hsum : ((st.map (xv ad)).map fun v => v.category).sum ≤ 8 := hdp
      have hf : u + m_b r1 ≤ R.cells ∧ 6 * u + 6 * m_b r1 ≤ R.slots := by constructor <;> omega
      have hkx : ∀ (E : String) (ce : Cell) (q9 : Addr) (uu : Nat × xW) (t : State) (H1 : Heap) (locs1 : List Loc), t.heap = H1 → s.vm.Alike t.vm → (P (.inr uu.1) uu.2 ∧ uu.1 < 3) → (E = xexc uu.1 ∧ xBa D base tg ad uu.2 t) → H.size ≤ H1.size → (∀ q : Nat, q < H.size → ¬ xA base q → H1[q]? = H[q]?) → va_S (xA base) s.heap H1 locs1 → H1[q9]? = some ce → ce.vm = .none → s.vm.findClass E = some ce.cls → vx_W p l e R s m args below meth c H1 locs1 (u + m_b r1) (6 * u + 6 * m_b r1) Qf (F0 m pc' ls (st.map (xv ad))) q9 := by
        intro E ce q9 uu t H1 locs1 ht hal hpx hbx hsz hfr hS1 hce hv hfc
        obtain ⟨rfl, hP1, hD1⟩ := hbx
        rw [ht] at hP1
        have h9 := hk (.inr uu.1) uu.2 hpx.1
        unfold xH at h9
        dsimp only at h9
        rw [← Nat.mul_add]
        split at h9
        · obtain ⟨h91, h92, h93⟩ := h9
          subst h92
          obtain rfl : ad = ad0 := hag.2
          exact hout H1 locs1 ls pc' uu.1 _ uu.2 (u + m_b r1) ce q9 hP1 hD1 hS1 hg hpx.2 h93 h91 hce hv hfc
        · rename_i hfd
          exact x_catch F hpx.2 hfd hcov hce hv hfc hl (fun ls' hl' => h9 ad hag H1 locs1 ls' hP1 hD1 hS1 hl' hg)
      cases hrr : m_r r1 with
      | none =>
        have hq : xQc D base tg ad r1 P = va_Qv (fun u : xW => P (.inl none) u) (xBa D base tg ad) (xA base) := by unfold xQc; rw [hrr]
        rw [hq] at hr
        refine vx_callv hr hS (fun _ _ h => h) (fun _ h => h) (fun _ _ h => h) hkx ?_
        intro uu t H1 locs1 ht hal hpx hbx hsz hfr hS1
        obtain ⟨hP1, hD1⟩ := hbx
        rw [ht] at hP1
        have h9 := hk (.inl none) uu hpx
        rw [← Nat.mul_add]
        exact h9 ad hag H1 locs1 ls hP1 hD1 hS1 hl hg
      | some ty =>
        have hq : xQc D base tg ad r1 P = va_Qi (fun (r : Int32) (u : xW) => P (.inl (some (.int r))) u) (xBa D base tg ad) (xA base) := by unfold xQc; rw [hrr]
        rw [hq] at hr
        refine vx_calli hr hS (fun _ _ h => h) (fun _ h => h) (fun _ _ h => h) hkx ?_
        intro r uu t H1 locs1 ht hal hpx hbx hsz hfr hS1
        obtain ⟨hP1, hD1⟩ := hbx
        rw [ht] at hP1
        have h9 := hk (.inl (some (.int r))) uu hpx
        rw [← Nat.mul_add]
        exact h9 ad hag H1 locs1 ls hP1 hD1 hS1 hl hg
    · exact hF.elim
  all_goals exact hF.elim
end Step
end SD2
end
section
/-! the machine of places is sound, 3: methods -/
section SD3
variable {l : Launch} {D : va_G} {base : Nat} {tg : Nat → ClassId} {sc : Option (Nat × (Nat → Int32))} {sb : Nat} {ad : Nat → Nat}
theorem xfit : ∀ r, r < 3 → Bundle.fit (xexc r) = true := by decide +kernel
theorem xfitn : ∀ n ∈ xnames, Bundle.fit n = true := by decide +kernel
theorem x_sl : ∀ as : List Value, (∀ v ∈ as, v.category ≠ 2) → (lg_sl (as.map (xv ad))).length = as.length
  | [], _ => rfl
  | v :: as, h => by
    have h1 := x_sl as (fun v hv => h v (List.mem_cons_of_mem _ hv))
    unfold lg_sl at h1 ⊢
    rw [List.map_cons, List.flatMap_cons, List.length_append, h1, xv_cat, if_neg (h v List.mem_cons_self)]
    simp [Nat.add_comm]
set_option maxHeartbeats 4000000 in
theorem x_body {p : Program} {e : Env} {R : Room} {s : State} {m : MethodId} {args : Array Value} {below : List Frame} {meth : Method} {c : Code} {n k : Nat} {as : List Value} {w : xW} {Q : xR → xW → Prop} (hst : l.stackTraces = false)
    {cl : Nat → List Value → xW → (xR → xW → Prop) → Prop} (hsb : ad 77 = sb) (ih : ∀ ad k' as w P, cl k' as w P → xMet l D base tg sc sb ad n k' as w P) (h : xWp (m_i k) (m_b k) (sc, m_t k) (m_hd k) cl Q (0, xini (m_L k) as, [], w, 0)) (hcat : ∀ v ∈ as, v.category ≠ 2) (hlen : as.length ≤ m_L k) (F : xfr p R s m args meth c D base tg sc sb k (m_b k) n) (hr : meth.sig.returnType = m_r k) (hP : va_P D vwCl (xw ad tg w) s.heap) (hD : va_D (xA base) (xw ad tg w)) :
    W p l e R s m args below meth c s.heap [] 0 0 (vx_MQ below (xQc D base tg ad k Q) (xXC D base tg ad Q) args s (m_b k) (6 * m_b k) (xA base)) (entryFrame m (as.map (xv ad)).toArray (m_L k)) := by
  rw [lg_entry_eq]
  have hl0 := lv_entry (as.map (xv ad)) (n := m_L k) (by rw [x_sl as hcat]; exact hlen)
  generalize (lg_sl (as.map (xv ad)) ++ List.replicate (m_L k - (lg_sl (as.map (xv ad))).length) Slot.unset).toArray = ls at hl0 ⊢
  have hl : lv_has ls (m_L k) (xlv ad 0 (xini (m_L k) as)) := ⟨hl0.1, hl0.2.1, fun q hq => hl0.2.2 q (xlv_ini hcat q hq)⟩
  obtain ⟨hx, hb, hml, hown, hlocks, h0, hok, htab, hRf, hRl, hRc, hRs, hbase⟩ := id F
  refine h (xgoal p l e R s m args below meth c (vx_MQ below (xQc D base tg ad k Q) (xXC D base tg ad Q) args s (m_b k) (6 * m_b k) (xA base)) D base tg (m_t k) ad (m_L k) (m_b k)) (x_step F hsb ih ?_ ?_ ?_ ?_) ad xag.rf s.heap [] ls hP hD va_S.rf hl (Nat.zero_le _)
  · intro H locs ls pc x w u hP hD hS hu hQ hdg hrr
    refine W.widen (k := m_b k) (n := 6 * m_b k) hu (by omega) (vx_ret ?_)
    rcases hrr with hrr | ⟨hrr, hz⟩
    · refine W.zret (v := x) (ty := .int) hx hb (hr.trans hrr) rfl (fun t ht hW => ?_) hS.2.2 hdg hlocks
      unfold xQc
      rw [hrr]
      exact ⟨⟨x, w, rfl, hQ, by rw [ht]; exact hP, hD⟩, hS.F ht⟩
    · refine W.zret (v := x) (ty := .boolean) hx hb (hr.trans hrr) (by rcases hz with rfl | rfl <;> decide) (fun t ht hW => ?_) hS.2.2 hdg hlocks
      unfold xQc
      rw [hrr]
      exact ⟨⟨x, w, rfl, hQ, by rw [ht]; exact hP, hD⟩, hS.F ht⟩
  · intro H locs ls pc w u hP hD hS hu hQ hdg hrr
    refine W.widen (k := m_b k) (n := 6 * m_b k) hu (by omega) (vx_ret ?_)
    refine W.vret hx hb (hr.trans hrr) (fun t ht hW => ?_) hS.2.2 hdg hlocks
    unfold xQc
    rw [hrr]
    exact ⟨⟨w, rfl, hQ, by rw [ht]; exact hP, hD⟩, hS.F ht⟩
  · intro H locs ls pc i nx r1 r2 r3 r4 w u hP hD hS hsz hu hQ hr4 hmem
    obtain ⟨hck, hrq⟩ := hok.1 _ hmem
    unfold xchk at hck
    dsimp only at hck
    rw [Bool.and_eq_true, if_pos hr4, Bool.and_eq_true, Bool.and_eq_true] at hck
    obtain ⟨-, ⟨hck1, hck2⟩, hck3⟩ := hck
    obtain ⟨hmh, hr1⟩ := of_decide_eq_true hck2
    obtain ⟨q, hq, hq2⟩ := List.any_eq_true.mp hck3
    obtain ⟨hq3, hq4⟩ := of_decide_eq_true hq2
    obtain ⟨sa, hsa⟩ := h0.2.2.2.1 q hq
    rw [hq3, hq4] at hsa
    unfold xreq at hrq
    dsimp only at hrq
    rw [if_pos hr4] at hrq
    have hout : ∀ x ∈ c.exceptionTable.toList, ∀ z, covers x z = false := by
      rw [htab, hmh]
      intro x hx
      cases hx
    have hgood : ∀ z ∈ Jvm.Cond.classLink (m_o k) i (xexc r1) :: Jvm.Cond.initialized (xexc r1) :: vx_atS (m_o k) r2 (xexc r1) xnames, vx_ot z = true := fun z hz => by
      unfold vx_ot
      rw [xmv_tab (hrq z hz).2]
      rfl
    have hXC : ∀ t : State, s.vm.Alike t.vm → H.size ≤ t.heap.size → (∀ q : Nat, q < H.size → t.heap[q]? = H[q]?) → xXC D base tg ad Q (xexc r1) s t := fun t _ h1 h2 =>
      ⟨(r1, w), ⟨hQ, hr1⟩, ⟨rfl, hP.kept (fun j q hj => h2 q.1 (hP j q hj).lt), hD⟩, Nat.le_trans hS.1 h1, fun q hq1 hq2 => by rw [h2 q (Nat.lt_of_lt_of_le hq1 hS.1)]; exact hS.2.1 q hq1 hq2⟩
    have hat : ∀ z ∈ vx_atS (m_o k) r2 (xexc r1) xnames, z.before args s = true := fun z hz => xfr_w F (hrq z (List.mem_cons_of_mem _ (List.mem_cons_of_mem _ hz)))
    have hb1 : xnames.length + 3 < R.frames := by show 2 + 3 < R.frames; omega
    have hb2 : (([] : List Value).map fun v => v.category).sum + (13 * (xnames.length + 1) + 43) ≤ R.locals := by show 0 + (13 * (2 + 1) + 43) ≤ R.locals; omega
    have hw0 := xfr_w F (hrq _ List.mem_cons_self)
    have hw1 := xfr_w F (hrq _ (List.mem_cons_of_mem _ List.mem_cons_self))
    match r4, hck1 with
    | 0, hck1 =>
      obtain ⟨d0, d3, d4, d6, d9⟩ := of_decide_eq_true hck1
      exact vx_throwS hx hb hst hown (xfit _ hr1) xfitn hw0 hw1 hsa hat hgood h0.2.1 h0.2.2.1 hS (hsz.trans hml.symm) d0 d3 d4 d6 d9 (fun x hx => hout x hx _) hb1 hb2 (by omega) (by omega) hlocks hXC hS.2.2 (by omega) (by omega)
    | r4 + 1, hck1 =>
      obtain ⟨d0, d3, d4, d6, d9⟩ := of_decide_eq_true hck1
      exact vx_throwSW hx hb hst hown (xfit _ hr1) xfitn hw0 hw1 hsa hat hgood h0.2.1 h0.2.2.1 hS (hsz.trans hml.symm) d0 d3 d4 d6 d9 (fun x hx => hout x hx _) hb1 hb2 (by omega) (by omega) hlocks hXC hS.2.2 (by omega) (by omega)
  · intro H locs ls pc E rest w u ce q hP hD hS hu hE hQ hhd hce hv hcl
    refine vx_widen (k := m_b k) (n := 6 * m_b k) hu (by omega) ?_
    refine vx_out (fun x hx => ?_) hlocks hce hv hcl (fun t ht _ => ⟨(E, w), ⟨hQ, hE⟩, ⟨rfl, by rw [ht]; exact hP, hD⟩, hS.F ht⟩) hS.2.2 (Nat.le_refl _) (Nat.le_refl _)
    exfalso
    have hh := hok.2.1
    unfold xhchk at hh
    rw [htab] at hx
    cases hmh : m_h k with
    | none => rw [hmh] at hx; cases hx
    | some hh0 =>
      rw [hmh, hhd] at hh
      dsimp only at hh
      rw [Bool.and_eq_true] at hh
      obtain ⟨e1, -⟩ := of_decide_eq_true hh.1
      rw [List.zip_nil_right] at e1
      rw [hmh, e1] at hx
      cases hx
theorem x_metG (hst : l.stackTraces = false) (hok : ∀ k, xok k) {cl : Nat → List Value → xW → (xR → xW → Prop) → Prop} {n : Nat} (ih : ∀ (ad : Nat → Nat) (k : Nat) (as : List Value) (w : xW) (P : xR → xW → Prop), cl k as w P → xMet l D base tg sc sb ad n k as w P) {ad : Nat → Nat} {k : Nat} {as : List Value} {w : xW} {Q : xR → xW → Prop} (h : xWp (m_i k) (m_b k) (sc, m_t k) (m_hd k) cl Q (0, xini (m_L k) as, [], w, 0)) : xMet l D base tg sc sb ad (n + 1) k as w Q := by
    intro hsb hcat hlen
    obtain ⟨hrows, hhc, hhr, hpl, hcls, hmL, hmr⟩ := id (hok k)
    cases hmh : m_h k with
    | none =>
      have hxc : xcode k = .code (m_y k) (m_c k) (m_L k) (m_r k) := by unfold xcode; rw [hmh]
      rw [hxc]
      refine vx_ofW (cc := m_c k) (maxL := m_L k) (ret := m_r k) hpl rfl ?_
      intro p e s m args below meth c s₁ B hml htab hv
      obtain ⟨rfl, h0, hbs, hP, hD⟩ := hv
      refine x_body hst hsb ih h hcat hlen ⟨B.exec, B.bytes, hml, by rw [← hcls]; exact findClass_of_methodNamed B.named, B.notSynchronized, h0, hok k, ?_, ?_, ?_, Nat.le_refl _, Nat.le_refl _, hbs⟩ B.returns hP hD
      · rw [hmh]
        exact List.eq_nil_iff_forall_not_mem.mpr (fun x hx => htab x hx)
      · show 10 + n < 10 + (n + 1)
        omega
      · show 100 + 40 * n + 40 ≤ 100 + 40 * (n + 1)
        omega
    | some hh =>
      have hxc : xcode k = .codeWith (m_y k) (m_c k) (m_L k) (m_r k) hh := by unfold xcode; rw [hmh]
      rw [hxc]
      refine vx_ofWH (cc := m_c k) (maxL := m_L k) (ret := m_r k) (hh := hh) hpl rfl ?_
      intro p e s m args below meth c s₁ B hml hv
      obtain ⟨rfl, h0, hbs, hP, hD⟩ := hv
      refine x_body hst hsb ih h hcat hlen ⟨B.exec, B.bytes, hml, by rw [← hcls]; exact findClass_of_methodNamed B.named, B.notSynchronized, h0, hok k, ?_, ?_, ?_, Nat.le_refl _, Nat.le_refl _, hbs⟩ B.returns hP hD
      · rw [hmh]
        exact vx_table (x := m_y k) B (atoms_spec (ws := [Jvm.Cond.codeWith (m_y k) (m_c k) (m_L k) (m_r k) hh]) B.pre _ List.mem_cons_self)
      · show 10 + n < 10 + (n + 1)
        omega
      · show 100 + 40 * n + 40 ≤ 100 + 40 * (n + 1)
        omega

theorem x_met (hst : l.stackTraces = false) (hok : ∀ k, xok k) : ∀ (n : Nat) (ad : Nat → Nat) (k : Nat) (as : List Value) (w : xW) (Q : xR → xW → Prop), xCW sc n k as w Q → xMet l D base tg sc sb ad n k as w Q
  | 0, _, _, _, _, _, h => h.elim
  | n + 1, ad, k, as, w, Q, h => x_metG hst hok (x_met hst hok n) h
end SD3
end
