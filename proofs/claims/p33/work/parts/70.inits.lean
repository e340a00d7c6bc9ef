/-! the constructors: names -/
abbrev wsX00 : List Cond := u_ws RX0 TX0 9
abbrev wsX10 : List Cond := u_ws RX1 TX1 11
abbrev wsX20 : List Cond := u_ws RX2 TX2 3
def wsX0_init : List Cond := .code yX0_init cX0_init 2 none :: ([.methodLink RX0 3 objectInit, .instanceMethod objectInit, .code objectInit ⟨#[0xb1]⟩ 1 none, .arrayClass .int, .fieldLink RX0 9 "Cardgate$Board" "ranks" "[I", .fieldLink RX0 15 "Cardgate$Board" "columns" "[I", .fieldLink RX0 18 "Cardgate$Board" "arrivals" "[I", .fieldLink RX0 21 "Cardgate$Board" "names" "[I", .fieldLink RX0 24 "Cardgate$Board" "fallCounts" "[I", .fieldLink RX0 27 "Cardgate$Board" "pushCounts" "[I", .fieldLink RX0 30 "Cardgate$Board" "limits" "[I", .fieldLink RX0 33 "Cardgate$Board" "count" "I", .fieldLink RX0 37 "Cardgate$Board" "arrivalsSoFar" "I"] ++ wsX00)
def wsX1_init : List Cond := .code yX1_init cX1_init 1 none :: ([.methodLink RX1 3 objectInit, .instanceMethod objectInit, .code objectInit ⟨#[0xb1]⟩ 1 none, .arrayClass .int, .fieldLink RX1 9 "Cardgate$Gate" "weights" "[I", .fieldLink RX1 15 "Cardgate$Gate" "needs" "[I", .fieldLink RX1 18 "Cardgate$Gate" "clashes" "[I", .fieldLink RX1 21 "Cardgate$Gate" "states" "[I", .fieldLink RX1 24 "Cardgate$Gate" "queue" "[I", .fieldLink RX1 27 "Cardgate$Gate" "broken" "I", .fieldLink RX1 31 "Cardgate$Gate" "count" "I", .fieldLink RX1 34 "Cardgate$Gate" "queueLength" "I", .fieldLink RX1 37 "Cardgate$Gate" "trialIn" "I", .fieldLink RX1 40 "Cardgate$Gate" "trialTries" "I", .fieldLink RX1 43 "Cardgate$Gate" "trialHours" "I"] ++ wsX10)
def wsX2_init_r1 : List Cond := [Cond.methodLink RX2 1 objectInit, Cond.instanceMethod objectInit, Cond.code objectInit ⟨#[0xb1]⟩ 1 none, Cond.classLink RX2 7 RX0, Cond.instantiable RX0 9, Cond.initialized RX0, Cond.fieldLink RX2 10 "Cardgate" "board" "LCardgate$Board;", Cond.classLink RX2 16 RX1, Cond.instantiable RX1 11, Cond.initialized RX1, Cond.fieldLink RX2 19 "Cardgate" "gate" "LCardgate$Gate;", Cond.fieldLink RX2 23 "Cardgate" "hoursSoFar" "I", Cond.methodLink RX2 9 yX0_init, Cond.instanceMethod yX0_init, Cond.code yX0_init cX0_init 2 none, Cond.methodLink RX0 3 objectInit, Cond.arrayClass .int, Cond.fieldLink RX0 9 "Cardgate$Board" "ranks" "[I", Cond.fieldLink RX0 15 "Cardgate$Board" "columns" "[I", Cond.fieldLink RX0 18 "Cardgate$Board" "arrivals" "[I", Cond.fieldLink RX0 21 "Cardgate$Board" "names" "[I", Cond.fieldLink RX0 24 "Cardgate$Board" "fallCounts" "[I", Cond.fieldLink RX0 27 "Cardgate$Board" "pushCounts" "[I", Cond.fieldLink RX0 30 "Cardgate$Board" "limits" "[I"]
def wsX2_init_r2 : List Cond := [Cond.fieldLink RX0 33 "Cardgate$Board" "count" "I", Cond.fieldLink RX0 37 "Cardgate$Board" "arrivalsSoFar" "I", Cond.instanceMethod yX1_init, Cond.code yX1_init cX1_init 1 none, Cond.methodLink RX1 3 objectInit, Cond.fieldLink RX1 9 "Cardgate$Gate" "weights" "[I", Cond.fieldLink RX1 15 "Cardgate$Gate" "needs" "[I", Cond.fieldLink RX1 18 "Cardgate$Gate" "clashes" "[I", Cond.fieldLink RX1 21 "Cardgate$Gate" "states" "[I", Cond.fieldLink RX1 24 "Cardgate$Gate" "queue" "[I", Cond.fieldLink RX1 27 "Cardgate$Gate" "broken" "I", Cond.fieldLink RX1 31 "Cardgate$Gate" "count" "I", Cond.fieldLink RX1 34 "Cardgate$Gate" "queueLength" "I", Cond.fieldLink RX1 37 "Cardgate$Gate" "trialIn" "I", Cond.fieldLink RX1 40 "Cardgate$Gate" "trialTries" "I", Cond.fieldLink RX1 43 "Cardgate$Gate" "trialHours" "I"]
def wsX2_init : List Cond := .code yX2_init cX2_init 1 none :: ((wsX2_init_r1 ++ wsX2_init_r2) ++ wsX00 ++ wsX20 ++ wsX10)
theorem dX0_init_0 : decode cX0_init 0 = .ok (.aload_n 0, 1) := by decide +kernel
theorem dX0_init_1 : decode cX0_init 1 = .ok (.invokespecial 3, 3) := by decide +kernel
theorem dX0_init_4 : decode cX0_init 4 = .ok (.aload_n 0, 1) := by decide +kernel
theorem dX0_init_5 : decode cX0_init 5 = .ok (.bipush 20, 2) := by decide +kernel
theorem dX0_init_7 : decode cX0_init 7 = .ok (.newarray .int, 2) := by decide +kernel
theorem dX0_init_9 : decode cX0_init 9 = .ok (.putfield 9, 3) := by decide +kernel
theorem dX0_init_12 : decode cX0_init 12 = .ok (.aload_n 0, 1) := by decide +kernel
theorem dX0_init_13 : decode cX0_init 13 = .ok (.bipush 20, 2) := by decide +kernel
theorem dX0_init_15 : decode cX0_init 15 = .ok (.newarray .int, 2) := by decide +kernel
theorem dX0_init_17 : decode cX0_init 17 = .ok (.putfield 15, 3) := by decide +kernel
theorem dX0_init_20 : decode cX0_init 20 = .ok (.aload_n 0, 1) := by decide +kernel
theorem dX0_init_21 : decode cX0_init 21 = .ok (.bipush 20, 2) := by decide +kernel
theorem dX0_init_23 : decode cX0_init 23 = .ok (.newarray .int, 2) := by decide +kernel
theorem dX0_init_25 : decode cX0_init 25 = .ok (.putfield 18, 3) := by decide +kernel
theorem dX0_init_28 : decode cX0_init 28 = .ok (.aload_n 0, 1) := by decide +kernel
theorem dX0_init_29 : decode cX0_init 29 = .ok (.bipush 20, 2) := by decide +kernel
theorem dX0_init_31 : decode cX0_init 31 = .ok (.newarray .int, 2) := by decide +kernel
theorem dX0_init_33 : decode cX0_init 33 = .ok (.putfield 21, 3) := by decide +kernel
theorem dX0_init_36 : decode cX0_init 36 = .ok (.aload_n 0, 1) := by decide +kernel
theorem dX0_init_37 : decode cX0_init 37 = .ok (.bipush 20, 2) := by decide +kernel
theorem dX0_init_39 : decode cX0_init 39 = .ok (.newarray .int, 2) := by decide +kernel
theorem dX0_init_41 : decode cX0_init 41 = .ok (.putfield 24, 3) := by decide +kernel
theorem dX0_init_44 : decode cX0_init 44 = .ok (.aload_n 0, 1) := by decide +kernel
theorem dX0_init_45 : decode cX0_init 45 = .ok (.bipush 20, 2) := by decide +kernel
theorem dX0_init_47 : decode cX0_init 47 = .ok (.newarray .int, 2) := by decide +kernel
theorem dX0_init_49 : decode cX0_init 49 = .ok (.putfield 27, 3) := by decide +kernel
theorem dX0_init_52 : decode cX0_init 52 = .ok (.aload_n 0, 1) := by decide +kernel
theorem dX0_init_53 : decode cX0_init 53 = .ok (.iconst 5, 1) := by decide +kernel
theorem dX0_init_54 : decode cX0_init 54 = .ok (.newarray .int, 2) := by decide +kernel
theorem dX0_init_56 : decode cX0_init 56 = .ok (.putfield 30, 3) := by decide +kernel
theorem dX0_init_59 : decode cX0_init 59 = .ok (.aload_n 0, 1) := by decide +kernel
theorem dX0_init_60 : decode cX0_init 60 = .ok (.iconst 0, 1) := by decide +kernel
theorem dX0_init_61 : decode cX0_init 61 = .ok (.putfield 33, 3) := by decide +kernel
theorem dX0_init_64 : decode cX0_init 64 = .ok (.aload_n 0, 1) := by decide +kernel
theorem dX0_init_65 : decode cX0_init 65 = .ok (.iconst 0, 1) := by decide +kernel
theorem dX0_init_66 : decode cX0_init 66 = .ok (.putfield 37, 3) := by decide +kernel
theorem dX0_init_69 : decode cX0_init 69 = .ok (.iconst 1, 1) := by decide +kernel
theorem dX0_init_70 : decode cX0_init 70 = .ok (.istore_n 1, 1) := by decide +kernel
theorem dX0_init_71 : decode cX0_init 71 = .ok (.iload_n 1, 1) := by decide +kernel
theorem dX0_init_72 : decode cX0_init 72 = .ok (.iconst 3, 1) := by decide +kernel
theorem dX0_init_73 : decode cX0_init 73 = .ok (.if_icmp .gt 25, 3) := by decide +kernel
theorem dX0_init_76 : decode cX0_init 76 = .ok (.iload_n 1, 1) := by decide +kernel
theorem dX0_init_77 : decode cX0_init 77 = .ok (.aload_n 0, 1) := by decide +kernel
theorem dX0_init_78 : decode cX0_init 78 = .ok (.getfield 30, 3) := by decide +kernel
theorem dX0_init_81 : decode cX0_init 81 = .ok (.arraylength, 1) := by decide +kernel
theorem dX0_init_82 : decode cX0_init 82 = .ok (.if_icmp .ge 16, 3) := by decide +kernel
theorem dX0_init_85 : decode cX0_init 85 = .ok (.aload_n 0, 1) := by decide +kernel
theorem dX0_init_86 : decode cX0_init 86 = .ok (.getfield 30, 3) := by decide +kernel
theorem dX0_init_89 : decode cX0_init 89 = .ok (.iload_n 1, 1) := by decide +kernel
theorem dX0_init_90 : decode cX0_init 90 = .ok (.iconst 3, 1) := by decide +kernel
theorem dX0_init_91 : decode cX0_init 91 = .ok (.iastore, 1) := by decide +kernel
theorem dX0_init_92 : decode cX0_init 92 = .ok (.iinc 1 1, 3) := by decide +kernel
theorem dX0_init_95 : decode cX0_init 95 = .ok (.goto (-24), 3) := by decide +kernel
theorem dX0_init_98 : decode cX0_init 98 = .ok (.return_, 1) := by decide +kernel
theorem dX1_init_0 : decode cX1_init 0 = .ok (.aload_n 0, 1) := by decide +kernel
theorem dX1_init_1 : decode cX1_init 1 = .ok (.invokespecial 3, 3) := by decide +kernel
theorem dX1_init_4 : decode cX1_init 4 = .ok (.aload_n 0, 1) := by decide +kernel
theorem dX1_init_5 : decode cX1_init 5 = .ok (.bipush 30, 2) := by decide +kernel
theorem dX1_init_7 : decode cX1_init 7 = .ok (.newarray .int, 2) := by decide +kernel
theorem dX1_init_9 : decode cX1_init 9 = .ok (.putfield 9, 3) := by decide +kernel
theorem dX1_init_12 : decode cX1_init 12 = .ok (.aload_n 0, 1) := by decide +kernel
theorem dX1_init_13 : decode cX1_init 13 = .ok (.bipush 30, 2) := by decide +kernel
theorem dX1_init_15 : decode cX1_init 15 = .ok (.newarray .int, 2) := by decide +kernel
theorem dX1_init_17 : decode cX1_init 17 = .ok (.putfield 15, 3) := by decide +kernel
theorem dX1_init_20 : decode cX1_init 20 = .ok (.aload_n 0, 1) := by decide +kernel
theorem dX1_init_21 : decode cX1_init 21 = .ok (.bipush 30, 2) := by decide +kernel
theorem dX1_init_23 : decode cX1_init 23 = .ok (.newarray .int, 2) := by decide +kernel
theorem dX1_init_25 : decode cX1_init 25 = .ok (.putfield 18, 3) := by decide +kernel
theorem dX1_init_28 : decode cX1_init 28 = .ok (.aload_n 0, 1) := by decide +kernel
theorem dX1_init_29 : decode cX1_init 29 = .ok (.bipush 30, 2) := by decide +kernel
theorem dX1_init_31 : decode cX1_init 31 = .ok (.newarray .int, 2) := by decide +kernel
theorem dX1_init_33 : decode cX1_init 33 = .ok (.putfield 21, 3) := by decide +kernel
theorem dX1_init_36 : decode cX1_init 36 = .ok (.aload_n 0, 1) := by decide +kernel
theorem dX1_init_37 : decode cX1_init 37 = .ok (.bipush 30, 2) := by decide +kernel
theorem dX1_init_39 : decode cX1_init 39 = .ok (.newarray .int, 2) := by decide +kernel
theorem dX1_init_41 : decode cX1_init 41 = .ok (.putfield 24, 3) := by decide +kernel
theorem dX1_init_44 : decode cX1_init 44 = .ok (.aload_n 0, 1) := by decide +kernel
theorem dX1_init_45 : decode cX1_init 45 = .ok (.iconst 0, 1) := by decide +kernel
theorem dX1_init_46 : decode cX1_init 46 = .ok (.putfield 27, 3) := by decide +kernel
theorem dX1_init_49 : decode cX1_init 49 = .ok (.aload_n 0, 1) := by decide +kernel
theorem dX1_init_50 : decode cX1_init 50 = .ok (.iconst 0, 1) := by decide +kernel
theorem dX1_init_51 : decode cX1_init 51 = .ok (.putfield 31, 3) := by decide +kernel
theorem dX1_init_54 : decode cX1_init 54 = .ok (.aload_n 0, 1) := by decide +kernel
theorem dX1_init_55 : decode cX1_init 55 = .ok (.iconst 0, 1) := by decide +kernel
theorem dX1_init_56 : decode cX1_init 56 = .ok (.putfield 34, 3) := by decide +kernel
theorem dX1_init_59 : decode cX1_init 59 = .ok (.aload_n 0, 1) := by decide +kernel
theorem dX1_init_60 : decode cX1_init 60 = .ok (.iconst 0, 1) := by decide +kernel
theorem dX1_init_61 : decode cX1_init 61 = .ok (.putfield 37, 3) := by decide +kernel
theorem dX1_init_64 : decode cX1_init 64 = .ok (.aload_n 0, 1) := by decide +kernel
theorem dX1_init_65 : decode cX1_init 65 = .ok (.iconst 0, 1) := by decide +kernel
theorem dX1_init_66 : decode cX1_init 66 = .ok (.putfield 40, 3) := by decide +kernel
theorem dX1_init_69 : decode cX1_init 69 = .ok (.aload_n 0, 1) := by decide +kernel
theorem dX1_init_70 : decode cX1_init 70 = .ok (.iconst 0, 1) := by decide +kernel
theorem dX1_init_71 : decode cX1_init 71 = .ok (.putfield 43, 3) := by decide +kernel
theorem dX1_init_74 : decode cX1_init 74 = .ok (.return_, 1) := by decide +kernel
theorem ggX2_init_X0_init : GoodIn wsX2_init wsX0_init := goodIn_r _ [15, 16, 2, 3, 17, 18, 19, 20, 21, 22, 23, 24, 25, 26, 41, 42, 43, 44, 45, 46, 47, 48, 49] (by decide +kernel) (by decide +kernel)
theorem ggX2_init_X1_init : GoodIn wsX2_init wsX1_init := goodIn_r _ [28, 29, 2, 3, 17, 30, 31, 32, 33, 34, 35, 36, 37, 38, 39, 40, 53, 54, 55, 56, 57, 58, 59, 60, 61, 62, 63] (by decide +kernel) (by decide +kernel)
theorem dX2_init_0 : decode cX2_init 0 = .ok (.aload_n 0, 1) := by decide +kernel
theorem dX2_init_1 : decode cX2_init 1 = .ok (.invokespecial 1, 3) := by decide +kernel
theorem dX2_init_4 : decode cX2_init 4 = .ok (.aload_n 0, 1) := by decide +kernel
theorem dX2_init_5 : decode cX2_init 5 = .ok (.new 7, 3) := by decide +kernel
theorem dX2_init_8 : decode cX2_init 8 = .ok (.dup, 1) := by decide +kernel
theorem dX2_init_9 : decode cX2_init 9 = .ok (.invokespecial 9, 3) := by decide +kernel
theorem dX2_init_12 : decode cX2_init 12 = .ok (.putfield 10, 3) := by decide +kernel
theorem dX2_init_15 : decode cX2_init 15 = .ok (.aload_n 0, 1) := by decide +kernel
theorem dX2_init_16 : decode cX2_init 16 = .ok (.new 16, 3) := by decide +kernel
theorem dX2_init_19 : decode cX2_init 19 = .ok (.dup, 1) := by decide +kernel
theorem dX2_init_20 : decode cX2_init 20 = .ok (.invokespecial 18, 3) := by decide +kernel
theorem dX2_init_23 : decode cX2_init 23 = .ok (.putfield 19, 3) := by decide +kernel
theorem dX2_init_26 : decode cX2_init 26 = .ok (.aload_n 0, 1) := by decide +kernel
theorem dX2_init_27 : decode cX2_init 27 = .ok (.iconst 0, 1) := by decide +kernel
theorem dX2_init_28 : decode cX2_init 28 = .ok (.putfield 23, 3) := by decide +kernel
theorem dX2_init_31 : decode cX2_init 31 = .ok (.return_, 1) := by decide +kernel
theorem dL_holds_0 : decode cL_holds 0 = .ok (.new 27, 3) := by decide +kernel
theorem dL_holds_3 : decode cL_holds 3 = .ok (.dup, 1) := by decide +kernel
theorem dL_holds_4 : decode cL_holds 4 = .ok (.invokespecial 179, 3) := by decide +kernel
theorem dL_holds_7 : decode cL_holds 7 = .ok (.astore_n 1, 1) := by decide +kernel
theorem dL_holds_8 : decode cL_holds 8 = .ok (.bipush 10, 2) := by decide +kernel
theorem dL_holds_10 : decode cL_holds 10 = .ok (.newarray .int, 2) := by decide +kernel
theorem dL_holds_12 : decode cL_holds 12 = .ok (.astore_n 2, 1) := by decide +kernel
theorem dL_holds_13 : decode cL_holds 13 = .ok (.bipush 50, 2) := by decide +kernel
theorem dL_holds_15 : decode cL_holds 15 = .ok (.newarray .int, 2) := by decide +kernel
theorem dL_holds_17 : decode cL_holds 17 = .ok (.astore_n 3, 1) := by decide +kernel
theorem dL_holds_18 : decode cL_holds 18 = .ok (.bipush 60, 2) := by decide +kernel
theorem dL_holds_20 : decode cL_holds 20 = .ok (.newarray .int, 2) := by decide +kernel
theorem dL_holds_22 : decode cL_holds 22 = .ok (.astore 4, 2) := by decide +kernel
theorem dL_holds_24 : decode cL_holds 24 = .ok (.bipush 12, 2) := by decide +kernel
theorem dL_holds_26 : decode cL_holds 26 = .ok (.newarray .int, 2) := by decide +kernel
theorem dL_holds_28 : decode cL_holds 28 = .ok (.astore 5, 2) := by decide +kernel
theorem dL_holds_30 : decode cL_holds 30 = .ok (.bipush 7, 2) := by decide +kernel
theorem dL_holds_32 : decode cL_holds 32 = .ok (.newarray .int, 2) := by decide +kernel
theorem dL_holds_34 : decode cL_holds 34 = .ok (.astore 6, 2) := by decide +kernel
section IN
def ce_X0 (tg : Nat → ClassId) (h0 : Nat) (u : Nat → Nat) : va_W := [(h0, .inr (1, [.ref (u 0), .ref (u 1), .ref (u 2), .ref (u 3), .ref (u 4), .ref (u 5), .ref (u 6), .int 0, .int 0])), ((u 0), .inl (tg 0, 20, .inl (fun _ => 0))), ((u 1), .inl (tg 0, 20, .inl (fun _ => 0))), ((u 2), .inl (tg 0, 20, .inl (fun _ => 0))), ((u 3), .inl (tg 0, 20, .inl (fun _ => 0))), ((u 4), .inl (tg 0, 20, .inl (fun _ => 0))), ((u 5), .inl (tg 0, 20, .inl (fun _ => 0))), ((u 6), .inl (tg 0, 5, .inl (upd (upd (upd (fun _ => 0) (1 : Int32).toNatClampNeg 3) (2 : Int32).toNatClampNeg 3) (3 : Int32).toNatClampNeg 3)))]
set_option maxHeartbeats 4000000 in
set_option maxRecDepth 100000 in
theorem i_X0 (l : Launch) (D : va_G) (tg : Nat → ClassId) (h0 sz : Nat) : Met l yX0_init wsX0_init ({ frames := 2, cells := 7, slots := 125, locals := 32 }) (va_Pc [.ref h0] (fun U => U.heap.size = sz ∧ va_P D vwCl [(h0, .inr (1, [.null, .null, .null, .null, .null, .null, .null, .int 0, .int 0]))] U.heap ∧ va_K D vwCl (xtys tg) U ∧ va_D (fun _ => True) [(h0, .inr (1, [.null, .null, .null, .null, .null, .null, .null, .int 0, .int 0]))])) (va_Qv (fun _ : Nat → Nat => True) (fun u t => va_P D vwCl (ce_X0 tg h0 u) t.heap ∧ va_K D vwCl (xtys tg) t ∧ va_D (va_A [(h0, .inr (1, [.null, .null, .null, .null, .null, .null, .null, .int 0, .int 0]))] sz) (ce_X0 tg h0 u)) (va_A [(h0, .inr (1, [.null, .null, .null, .null, .null, .null, .null, .int 0, .int 0]))] sz)) 7 125 (va_A [(h0, .inr (1, [.null, .null, .null, .null, .null, .null, .null, .int 0, .int 0]))] sz) := by
  refine Met.ofW (cc := cX0_init) (maxL := 2) (ret := none) (by decide) rfl ?_
  intro p e s m args below meth c s₁ B hml hv
  obtain ⟨rfl, hsz, hP, hK, hD0⟩ := hv
  have hx := B.exec
  have hb := B.bytes
  have hr := B.returns
  have hts := atoms_spec (ws := wsX0_init) B.pre
  have hown : s.vm.findClass RX0 = some m.cls := findClass_of_methodNamed B.named
  have hin : meth.name = "<init>" := (name_of_methodNamed B.named B.method).1
  subst hsz
  have hD := hD0.self (sz := s.heap.size)
  generalize hAe : va_A [(h0, .inr (1, [.null, .null, .null, .null, .null, .null, .null, .int 0, .int 0]))] s.heap.size = A at hD ⊢
  have hA : ∀ q : Nat, s.heap.size ≤ q → A q := fun q h => by rw [← hAe]; exact Or.inr h
  have hS : va_S A s.heap s.heap [] := va_S.rf
  have hP : va_P D vwCl [(h0, .inr (1, [.null, .null, .null, .null, .null, .null, .null, .int 0, .int 0]))] s.heap := hP
  have hl := lv_entry ([.ref h0]) (n := 2) (Nat.le_of_ble_eq_true rfl)
  rw [lg_entry_eq]
  generalize (lg_sl ([.ref h0]) ++ List.replicate (2 - (lg_sl ([.ref h0])).length) Slot.unset).toArray = ls at hl ⊢
  have hl : lv_has ls 2 [(0, .ref h0)] := hl
  refine lv_aload_n hx hb dX0_init_0 rfl (lv_at hl 0 rfl) ?_
  refine W.objInit hx hb hown (hts (.methodLink RX0 3 objectInit) (by decide +kernel)) (hts (.instanceMethod objectInit) (by decide +kernel)) (hts (.code objectInit ⟨#[0xb1]⟩ 1 none) (by decide +kernel)) rfl (by rw [hml]; exact hl.1) rfl dX0_init_1 (Nat.le_of_ble_eq_true rfl) (Nat.le_of_ble_eq_true rfl) ?_
  refine W.eq (g2 := F0 m 4 ls []) rfl ?_
  refine lv_aload_n hx hb dX0_init_4 rfl (lv_at hl 0 rfl) ?_
  refine lv_bipush (v := 20) hx hb dX0_init_5 (by decide) ?_
  refine xn_newa (atype := .int) (a0 := (20, .inl (fun _ => 0))) hx hb (hts (.arrayClass .int) (by decide +kernel)) (hK.2 0 _ rfl).2 hP hD hS hA rfl (by decide) (by decide) (Nat.le_of_ble_eq_true rfl) (Nat.le_of_ble_eq_true rfl) (Nat.le_of_ble_eq_true rfl) dX0_init_7 (fun a0 H hP hD hS => ?_)
  have hP : va_P D vwCl [(h0, .inr (1, [.null, .null, .null, .null, .null, .null, .null, .int 0, .int 0])), (a0, .inl (tg 0, 20, .inl (fun _ => 0)))] H := hP
  have hD : va_D A [(h0, .inr (1, [.null, .null, .null, .null, .null, .null, .null, .int 0, .int 0])), (a0, .inl (tg 0, 20, .inl (fun _ => 0)))] := hD
  refine W.widen (k := 1) (n := 20) (Nat.le_of_ble_eq_true rfl) (Nat.le_of_ble_eq_true rfl) ?_
  refine va_putF (D := D) (ci := 1) (v := .ref a0) (ty := .array .int) (C := RX0) (T := TX0) (N := 9) hx hb hts (by decide +kernel) tyX0 tyX0_ok nmX0 hown hK hP hD hS 0 rfl rfl 0 (by decide) (hts (.fieldLink RX0 9 "Cardgate$Board" "ranks" "[I") (by decide +kernel)) (fun _ h9 => h9) rfl hin rfl (by decide +kernel) rfl rfl (Nat.le_of_ble_eq_true rfl) dX0_init_9 (fun H locs hP hD hS => ?_)
  have hP : va_P D vwCl [(h0, .inr (1, [.ref a0, .null, .null, .null, .null, .null, .null, .int 0, .int 0])), (a0, .inl (tg 0, 20, .inl (fun _ => 0)))] H := hP
  have hD : va_D A [(h0, .inr (1, [.ref a0, .null, .null, .null, .null, .null, .null, .int 0, .int 0])), (a0, .inl (tg 0, 20, .inl (fun _ => 0)))] := hD
  refine lv_aload_n hx hb dX0_init_12 rfl (lv_at hl 0 rfl) ?_
  refine lv_bipush (v := 20) hx hb dX0_init_13 (by decide) ?_
  refine xn_newa (atype := .int) (a0 := (20, .inl (fun _ => 0))) hx hb (hts (.arrayClass .int) (by decide +kernel)) (hK.2 0 _ rfl).2 hP hD hS hA rfl (by decide) (by decide) (Nat.le_of_ble_eq_true rfl) (Nat.le_of_ble_eq_true rfl) (Nat.le_of_ble_eq_true rfl) dX0_init_15 (fun a1 H hP hD hS => ?_)
  have hP : va_P D vwCl [(h0, .inr (1, [.ref a0, .null, .null, .null, .null, .null, .null, .int 0, .int 0])), (a0, .inl (tg 0, 20, .inl (fun _ => 0))), (a1, .inl (tg 0, 20, .inl (fun _ => 0)))] H := hP
  have hD : va_D A [(h0, .inr (1, [.ref a0, .null, .null, .null, .null, .null, .null, .int 0, .int 0])), (a0, .inl (tg 0, 20, .inl (fun _ => 0))), (a1, .inl (tg 0, 20, .inl (fun _ => 0)))] := hD
  refine W.widen (k := 2) (n := 40) (Nat.le_of_ble_eq_true rfl) (Nat.le_of_ble_eq_true rfl) ?_
  refine va_putF (D := D) (ci := 1) (v := .ref a1) (ty := .array .int) (C := RX0) (T := TX0) (N := 9) hx hb hts (by decide +kernel) tyX0 tyX0_ok nmX0 hown hK hP hD hS 0 rfl rfl 1 (by decide) (hts (.fieldLink RX0 15 "Cardgate$Board" "columns" "[I") (by decide +kernel)) (fun _ h9 => h9) rfl hin rfl (by decide +kernel) rfl rfl (Nat.le_of_ble_eq_true rfl) dX0_init_17 (fun H locs hP hD hS => ?_)
  have hP : va_P D vwCl [(h0, .inr (1, [.ref a0, .ref a1, .null, .null, .null, .null, .null, .int 0, .int 0])), (a0, .inl (tg 0, 20, .inl (fun _ => 0))), (a1, .inl (tg 0, 20, .inl (fun _ => 0)))] H := hP
  have hD : va_D A [(h0, .inr (1, [.ref a0, .ref a1, .null, .null, .null, .null, .null, .int 0, .int 0])), (a0, .inl (tg 0, 20, .inl (fun _ => 0))), (a1, .inl (tg 0, 20, .inl (fun _ => 0)))] := hD
  refine lv_aload_n hx hb dX0_init_20 rfl (lv_at hl 0 rfl) ?_
  refine lv_bipush (v := 20) hx hb dX0_init_21 (by decide) ?_
  refine xn_newa (atype := .int) (a0 := (20, .inl (fun _ => 0))) hx hb (hts (.arrayClass .int) (by decide +kernel)) (hK.2 0 _ rfl).2 hP hD hS hA rfl (by decide) (by decide) (Nat.le_of_ble_eq_true rfl) (Nat.le_of_ble_eq_true rfl) (Nat.le_of_ble_eq_true rfl) dX0_init_23 (fun a2 H hP hD hS => ?_)
  have hP : va_P D vwCl [(h0, .inr (1, [.ref a0, .ref a1, .null, .null, .null, .null, .null, .int 0, .int 0])), (a0, .inl (tg 0, 20, .inl (fun _ => 0))), (a1, .inl (tg 0, 20, .inl (fun _ => 0))), (a2, .inl (tg 0, 20, .inl (fun _ => 0)))] H := hP
  have hD : va_D A [(h0, .inr (1, [.ref a0, .ref a1, .null, .null, .null, .null, .null, .int 0, .int 0])), (a0, .inl (tg 0, 20, .inl (fun _ => 0))), (a1, .inl (tg 0, 20, .inl (fun _ => 0))), (a2, .inl (tg 0, 20, .inl (fun _ => 0)))] := hD
  refine W.widen (k := 3) (n := 60) (Nat.le_of_ble_eq_true rfl) (Nat.le_of_ble_eq_true rfl) ?_
  refine va_putF (D := D) (ci := 1) (v := .ref a2) (ty := .array .int) (C := RX0) (T := TX0) (N := 9) hx hb hts (by decide +kernel) tyX0 tyX0_ok nmX0 hown hK hP hD hS 0 rfl rfl 2 (by decide) (hts (.fieldLink RX0 18 "Cardgate$Board" "arrivals" "[I") (by decide +kernel)) (fun _ h9 => h9) rfl hin rfl (by decide +kernel) rfl rfl (Nat.le_of_ble_eq_true rfl) dX0_init_25 (fun H locs hP hD hS => ?_)
  have hP : va_P D vwCl [(h0, .inr (1, [.ref a0, .ref a1, .ref a2, .null, .null, .null, .null, .int 0, .int 0])), (a0, .inl (tg 0, 20, .inl (fun _ => 0))), (a1, .inl (tg 0, 20, .inl (fun _ => 0))), (a2, .inl (tg 0, 20, .inl (fun _ => 0)))] H := hP
  have hD : va_D A [(h0, .inr (1, [.ref a0, .ref a1, .ref a2, .null, .null, .null, .null, .int 0, .int 0])), (a0, .inl (tg 0, 20, .inl (fun _ => 0))), (a1, .inl (tg 0, 20, .inl (fun _ => 0))), (a2, .inl (tg 0, 20, .inl (fun _ => 0)))] := hD
  refine lv_aload_n hx hb dX0_init_28 rfl (lv_at hl 0 rfl) ?_
  refine lv_bipush (v := 20) hx hb dX0_init_29 (by decide) ?_
  refine xn_newa (atype := .int) (a0 := (20, .inl (fun _ => 0))) hx hb (hts (.arrayClass .int) (by decide +kernel)) (hK.2 0 _ rfl).2 hP hD hS hA rfl (by decide) (by decide) (Nat.le_of_ble_eq_true rfl) (Nat.le_of_ble_eq_true rfl) (Nat.le_of_ble_eq_true rfl) dX0_init_31 (fun a3 H hP hD hS => ?_)
  have hP : va_P D vwCl [(h0, .inr (1, [.ref a0, .ref a1, .ref a2, .null, .null, .null, .null, .int 0, .int 0])), (a0, .inl (tg 0, 20, .inl (fun _ => 0))), (a1, .inl (tg 0, 20, .inl (fun _ => 0))), (a2, .inl (tg 0, 20, .inl (fun _ => 0))), (a3, .inl (tg 0, 20, .inl (fun _ => 0)))] H := hP
  have hD : va_D A [(h0, .inr (1, [.ref a0, .ref a1, .ref a2, .null, .null, .null, .null, .int 0, .int 0])), (a0, .inl (tg 0, 20, .inl (fun _ => 0))), (a1, .inl (tg 0, 20, .inl (fun _ => 0))), (a2, .inl (tg 0, 20, .inl (fun _ => 0))), (a3, .inl (tg 0, 20, .inl (fun _ => 0)))] := hD
  refine W.widen (k := 4) (n := 80) (Nat.le_of_ble_eq_true rfl) (Nat.le_of_ble_eq_true rfl) ?_
  refine va_putF (D := D) (ci := 1) (v := .ref a3) (ty := .array .int) (C := RX0) (T := TX0) (N := 9) hx hb hts (by decide +kernel) tyX0 tyX0_ok nmX0 hown hK hP hD hS 0 rfl rfl 3 (by decide) (hts (.fieldLink RX0 21 "Cardgate$Board" "names" "[I") (by decide +kernel)) (fun _ h9 => h9) rfl hin rfl (by decide +kernel) rfl rfl (Nat.le_of_ble_eq_true rfl) dX0_init_33 (fun H locs hP hD hS => ?_)
  have hP : va_P D vwCl [(h0, .inr (1, [.ref a0, .ref a1, .ref a2, .ref a3, .null, .null, .null, .int 0, .int 0])), (a0, .inl (tg 0, 20, .inl (fun _ => 0))), (a1, .inl (tg 0, 20, .inl (fun _ => 0))), (a2, .inl (tg 0, 20, .inl (fun _ => 0))), (a3, .inl (tg 0, 20, .inl (fun _ => 0)))] H := hP
  have hD : va_D A [(h0, .inr (1, [.ref a0, .ref a1, .ref a2, .ref a3, .null, .null, .null, .int 0, .int 0])), (a0, .inl (tg 0, 20, .inl (fun _ => 0))), (a1, .inl (tg 0, 20, .inl (fun _ => 0))), (a2, .inl (tg 0, 20, .inl (fun _ => 0))), (a3, .inl (tg 0, 20, .inl (fun _ => 0)))] := hD
  refine lv_aload_n hx hb dX0_init_36 rfl (lv_at hl 0 rfl) ?_
  refine lv_bipush (v := 20) hx hb dX0_init_37 (by decide) ?_
  refine xn_newa (atype := .int) (a0 := (20, .inl (fun _ => 0))) hx hb (hts (.arrayClass .int) (by decide +kernel)) (hK.2 0 _ rfl).2 hP hD hS hA rfl (by decide) (by decide) (Nat.le_of_ble_eq_true rfl) (Nat.le_of_ble_eq_true rfl) (Nat.le_of_ble_eq_true rfl) dX0_init_39 (fun a4 H hP hD hS => ?_)
  have hP : va_P D vwCl [(h0, .inr (1, [.ref a0, .ref a1, .ref a2, .ref a3, .null, .null, .null, .int 0, .int 0])), (a0, .inl (tg 0, 20, .inl (fun _ => 0))), (a1, .inl (tg 0, 20, .inl (fun _ => 0))), (a2, .inl (tg 0, 20, .inl (fun _ => 0))), (a3, .inl (tg 0, 20, .inl (fun _ => 0))), (a4, .inl (tg 0, 20, .inl (fun _ => 0)))] H := hP
  have hD : va_D A [(h0, .inr (1, [.ref a0, .ref a1, .ref a2, .ref a3, .null, .null, .null, .int 0, .int 0])), (a0, .inl (tg 0, 20, .inl (fun _ => 0))), (a1, .inl (tg 0, 20, .inl (fun _ => 0))), (a2, .inl (tg 0, 20, .inl (fun _ => 0))), (a3, .inl (tg 0, 20, .inl (fun _ => 0))), (a4, .inl (tg 0, 20, .inl (fun _ => 0)))] := hD
  refine W.widen (k := 5) (n := 100) (Nat.le_of_ble_eq_true rfl) (Nat.le_of_ble_eq_true rfl) ?_
  refine va_putF (D := D) (ci := 1) (v := .ref a4) (ty := .array .int) (C := RX0) (T := TX0) (N := 9) hx hb hts (by decide +kernel) tyX0 tyX0_ok nmX0 hown hK hP hD hS 0 rfl rfl 4 (by decide) (hts (.fieldLink RX0 24 "Cardgate$Board" "fallCounts" "[I") (by decide +kernel)) (fun _ h9 => h9) rfl hin rfl (by decide +kernel) rfl rfl (Nat.le_of_ble_eq_true rfl) dX0_init_41 (fun H locs hP hD hS => ?_)
  have hP : va_P D vwCl [(h0, .inr (1, [.ref a0, .ref a1, .ref a2, .ref a3, .ref a4, .null, .null, .int 0, .int 0])), (a0, .inl (tg 0, 20, .inl (fun _ => 0))), (a1, .inl (tg 0, 20, .inl (fun _ => 0))), (a2, .inl (tg 0, 20, .inl (fun _ => 0))), (a3, .inl (tg 0, 20, .inl (fun _ => 0))), (a4, .inl (tg 0, 20, .inl (fun _ => 0)))] H := hP
  have hD : va_D A [(h0, .inr (1, [.ref a0, .ref a1, .ref a2, .ref a3, .ref a4, .null, .null, .int 0, .int 0])), (a0, .inl (tg 0, 20, .inl (fun _ => 0))), (a1, .inl (tg 0, 20, .inl (fun _ => 0))), (a2, .inl (tg 0, 20, .inl (fun _ => 0))), (a3, .inl (tg 0, 20, .inl (fun _ => 0))), (a4, .inl (tg 0, 20, .inl (fun _ => 0)))] := hD
  refine lv_aload_n hx hb dX0_init_44 rfl (lv_at hl 0 rfl) ?_
  refine lv_bipush (v := 20) hx hb dX0_init_45 (by decide) ?_
  refine xn_newa (atype := .int) (a0 := (20, .inl (fun _ => 0))) hx hb (hts (.arrayClass .int) (by decide +kernel)) (hK.2 0 _ rfl).2 hP hD hS hA rfl (by decide) (by decide) (Nat.le_of_ble_eq_true rfl) (Nat.le_of_ble_eq_true rfl) (Nat.le_of_ble_eq_true rfl) dX0_init_47 (fun a5 H hP hD hS => ?_)
  have hP : va_P D vwCl [(h0, .inr (1, [.ref a0, .ref a1, .ref a2, .ref a3, .ref a4, .null, .null, .int 0, .int 0])), (a0, .inl (tg 0, 20, .inl (fun _ => 0))), (a1, .inl (tg 0, 20, .inl (fun _ => 0))), (a2, .inl (tg 0, 20, .inl (fun _ => 0))), (a3, .inl (tg 0, 20, .inl (fun _ => 0))), (a4, .inl (tg 0, 20, .inl (fun _ => 0))), (a5, .inl (tg 0, 20, .inl (fun _ => 0)))] H := hP
  have hD : va_D A [(h0, .inr (1, [.ref a0, .ref a1, .ref a2, .ref a3, .ref a4, .null, .null, .int 0, .int 0])), (a0, .inl (tg 0, 20, .inl (fun _ => 0))), (a1, .inl (tg 0, 20, .inl (fun _ => 0))), (a2, .inl (tg 0, 20, .inl (fun _ => 0))), (a3, .inl (tg 0, 20, .inl (fun _ => 0))), (a4, .inl (tg 0, 20, .inl (fun _ => 0))), (a5, .inl (tg 0, 20, .inl (fun _ => 0)))] := hD
  refine W.widen (k := 6) (n := 120) (Nat.le_of_ble_eq_true rfl) (Nat.le_of_ble_eq_true rfl) ?_
  refine va_putF (D := D) (ci := 1) (v := .ref a5) (ty := .array .int) (C := RX0) (T := TX0) (N := 9) hx hb hts (by decide +kernel) tyX0 tyX0_ok nmX0 hown hK hP hD hS 0 rfl rfl 5 (by decide) (hts (.fieldLink RX0 27 "Cardgate$Board" "pushCounts" "[I") (by decide +kernel)) (fun _ h9 => h9) rfl hin rfl (by decide +kernel) rfl rfl (Nat.le_of_ble_eq_true rfl) dX0_init_49 (fun H locs hP hD hS => ?_)
  have hP : va_P D vwCl [(h0, .inr (1, [.ref a0, .ref a1, .ref a2, .ref a3, .ref a4, .ref a5, .null, .int 0, .int 0])), (a0, .inl (tg 0, 20, .inl (fun _ => 0))), (a1, .inl (tg 0, 20, .inl (fun _ => 0))), (a2, .inl (tg 0, 20, .inl (fun _ => 0))), (a3, .inl (tg 0, 20, .inl (fun _ => 0))), (a4, .inl (tg 0, 20, .inl (fun _ => 0))), (a5, .inl (tg 0, 20, .inl (fun _ => 0)))] H := hP
  have hD : va_D A [(h0, .inr (1, [.ref a0, .ref a1, .ref a2, .ref a3, .ref a4, .ref a5, .null, .int 0, .int 0])), (a0, .inl (tg 0, 20, .inl (fun _ => 0))), (a1, .inl (tg 0, 20, .inl (fun _ => 0))), (a2, .inl (tg 0, 20, .inl (fun _ => 0))), (a3, .inl (tg 0, 20, .inl (fun _ => 0))), (a4, .inl (tg 0, 20, .inl (fun _ => 0))), (a5, .inl (tg 0, 20, .inl (fun _ => 0)))] := hD
  refine lv_aload_n hx hb dX0_init_52 rfl (lv_at hl 0 rfl) ?_
  refine lv_iconst (v := 5) hx hb dX0_init_53 (by decide) ?_
  refine xn_newa (atype := .int) (a0 := (5, .inl (fun _ => 0))) hx hb (hts (.arrayClass .int) (by decide +kernel)) (hK.2 0 _ rfl).2 hP hD hS hA rfl (by decide) (by decide) (Nat.le_of_ble_eq_true rfl) (Nat.le_of_ble_eq_true rfl) (Nat.le_of_ble_eq_true rfl) dX0_init_54 (fun a6 H hP hD hS => ?_)
  have hP : va_P D vwCl [(h0, .inr (1, [.ref a0, .ref a1, .ref a2, .ref a3, .ref a4, .ref a5, .null, .int 0, .int 0])), (a0, .inl (tg 0, 20, .inl (fun _ => 0))), (a1, .inl (tg 0, 20, .inl (fun _ => 0))), (a2, .inl (tg 0, 20, .inl (fun _ => 0))), (a3, .inl (tg 0, 20, .inl (fun _ => 0))), (a4, .inl (tg 0, 20, .inl (fun _ => 0))), (a5, .inl (tg 0, 20, .inl (fun _ => 0))), (a6, .inl (tg 0, 5, .inl (fun _ => 0)))] H := hP
  have hD : va_D A [(h0, .inr (1, [.ref a0, .ref a1, .ref a2, .ref a3, .ref a4, .ref a5, .null, .int 0, .int 0])), (a0, .inl (tg 0, 20, .inl (fun _ => 0))), (a1, .inl (tg 0, 20, .inl (fun _ => 0))), (a2, .inl (tg 0, 20, .inl (fun _ => 0))), (a3, .inl (tg 0, 20, .inl (fun _ => 0))), (a4, .inl (tg 0, 20, .inl (fun _ => 0))), (a5, .inl (tg 0, 20, .inl (fun _ => 0))), (a6, .inl (tg 0, 5, .inl (fun _ => 0)))] := hD
  refine W.widen (k := 7) (n := 125) (Nat.le_of_ble_eq_true rfl) (Nat.le_of_ble_eq_true rfl) ?_
  refine va_putF (D := D) (ci := 1) (v := .ref a6) (ty := .array .int) (C := RX0) (T := TX0) (N := 9) hx hb hts (by decide +kernel) tyX0 tyX0_ok nmX0 hown hK hP hD hS 0 rfl rfl 6 (by decide) (hts (.fieldLink RX0 30 "Cardgate$Board" "limits" "[I") (by decide +kernel)) (fun _ h9 => h9) rfl hin rfl (by decide +kernel) rfl rfl (Nat.le_of_ble_eq_true rfl) dX0_init_56 (fun H locs hP hD hS => ?_)
  have hP : va_P D vwCl [(h0, .inr (1, [.ref a0, .ref a1, .ref a2, .ref a3, .ref a4, .ref a5, .ref a6, .int 0, .int 0])), (a0, .inl (tg 0, 20, .inl (fun _ => 0))), (a1, .inl (tg 0, 20, .inl (fun _ => 0))), (a2, .inl (tg 0, 20, .inl (fun _ => 0))), (a3, .inl (tg 0, 20, .inl (fun _ => 0))), (a4, .inl (tg 0, 20, .inl (fun _ => 0))), (a5, .inl (tg 0, 20, .inl (fun _ => 0))), (a6, .inl (tg 0, 5, .inl (fun _ => 0)))] H := hP
  have hD : va_D A [(h0, .inr (1, [.ref a0, .ref a1, .ref a2, .ref a3, .ref a4, .ref a5, .ref a6, .int 0, .int 0])), (a0, .inl (tg 0, 20, .inl (fun _ => 0))), (a1, .inl (tg 0, 20, .inl (fun _ => 0))), (a2, .inl (tg 0, 20, .inl (fun _ => 0))), (a3, .inl (tg 0, 20, .inl (fun _ => 0))), (a4, .inl (tg 0, 20, .inl (fun _ => 0))), (a5, .inl (tg 0, 20, .inl (fun _ => 0))), (a6, .inl (tg 0, 5, .inl (fun _ => 0)))] := hD
  refine lv_aload_n hx hb dX0_init_59 rfl (lv_at hl 0 rfl) ?_
  refine lv_iconst (v := 0) hx hb dX0_init_60 (by decide) ?_
  refine va_put (D := D) (ci := 1) (v := .int 0) (ty := .int) (C := RX0) (T := TX0) (N := 9) hx hb hts (by decide +kernel) tyX0 tyX0_ok nmX0 hown hK hP hD hS 0 rfl rfl 7 (by decide) (hts (.fieldLink RX0 33 "Cardgate$Board" "count" "I") (by decide +kernel)) (fun _ h9 => h9) rfl (by decide +kernel) rfl rfl (Nat.le_of_ble_eq_true rfl) dX0_init_61 (fun H locs hP hD hS => ?_)
  have hP : va_P D vwCl [(h0, .inr (1, [.ref a0, .ref a1, .ref a2, .ref a3, .ref a4, .ref a5, .ref a6, .int 0, .int 0])), (a0, .inl (tg 0, 20, .inl (fun _ => 0))), (a1, .inl (tg 0, 20, .inl (fun _ => 0))), (a2, .inl (tg 0, 20, .inl (fun _ => 0))), (a3, .inl (tg 0, 20, .inl (fun _ => 0))), (a4, .inl (tg 0, 20, .inl (fun _ => 0))), (a5, .inl (tg 0, 20, .inl (fun _ => 0))), (a6, .inl (tg 0, 5, .inl (fun _ => 0)))] H := hP
  have hD : va_D A [(h0, .inr (1, [.ref a0, .ref a1, .ref a2, .ref a3, .ref a4, .ref a5, .ref a6, .int 0, .int 0])), (a0, .inl (tg 0, 20, .inl (fun _ => 0))), (a1, .inl (tg 0, 20, .inl (fun _ => 0))), (a2, .inl (tg 0, 20, .inl (fun _ => 0))), (a3, .inl (tg 0, 20, .inl (fun _ => 0))), (a4, .inl (tg 0, 20, .inl (fun _ => 0))), (a5, .inl (tg 0, 20, .inl (fun _ => 0))), (a6, .inl (tg 0, 5, .inl (fun _ => 0)))] := hD
  refine lv_aload_n hx hb dX0_init_64 rfl (lv_at hl 0 rfl) ?_
  refine lv_iconst (v := 0) hx hb dX0_init_65 (by decide) ?_
  refine va_put (D := D) (ci := 1) (v := .int 0) (ty := .int) (C := RX0) (T := TX0) (N := 9) hx hb hts (by decide +kernel) tyX0 tyX0_ok nmX0 hown hK hP hD hS 0 rfl rfl 8 (by decide) (hts (.fieldLink RX0 37 "Cardgate$Board" "arrivalsSoFar" "I") (by decide +kernel)) (fun _ h9 => h9) rfl (by decide +kernel) rfl rfl (Nat.le_of_ble_eq_true rfl) dX0_init_66 (fun H locs hP hD hS => ?_)
  have hP : va_P D vwCl [(h0, .inr (1, [.ref a0, .ref a1, .ref a2, .ref a3, .ref a4, .ref a5, .ref a6, .int 0, .int 0])), (a0, .inl (tg 0, 20, .inl (fun _ => 0))), (a1, .inl (tg 0, 20, .inl (fun _ => 0))), (a2, .inl (tg 0, 20, .inl (fun _ => 0))), (a3, .inl (tg 0, 20, .inl (fun _ => 0))), (a4, .inl (tg 0, 20, .inl (fun _ => 0))), (a5, .inl (tg 0, 20, .inl (fun _ => 0))), (a6, .inl (tg 0, 5, .inl (fun _ => 0)))] H := hP
  have hD : va_D A [(h0, .inr (1, [.ref a0, .ref a1, .ref a2, .ref a3, .ref a4, .ref a5, .ref a6, .int 0, .int 0])), (a0, .inl (tg 0, 20, .inl (fun _ => 0))), (a1, .inl (tg 0, 20, .inl (fun _ => 0))), (a2, .inl (tg 0, 20, .inl (fun _ => 0))), (a3, .inl (tg 0, 20, .inl (fun _ => 0))), (a4, .inl (tg 0, 20, .inl (fun _ => 0))), (a5, .inl (tg 0, 20, .inl (fun _ => 0))), (a6, .inl (tg 0, 5, .inl (fun _ => 0)))] := hD
  refine lv_iconst (v := 1) hx hb dX0_init_69 (by decide) ?_
  refine lv_istore_n (lv' := [(1, .int 1), (0, .ref h0)]) hx hb dX0_init_70 rfl hl (by decide) rfl (fun ls hl => ?_)
  refine lv_iload_n hx hb dX0_init_71 rfl (lv_at hl 0 rfl) ?_
  refine lv_iconst (v := 3) hx hb dX0_init_72 (by decide) ?_
  refine lv_icmp_gt (tgt := 98) hx hb dX0_init_73 (by decide) (fun h => absurd h (by decide)) (fun _ => ?_)
  refine lv_iload_n hx hb dX0_init_76 rfl (lv_at hl 0 rfl) ?_
  refine lv_aload_n hx hb dX0_init_77 rfl (lv_at hl 1 rfl) ?_
  refine va_get (D := D) (ci := 1) (v := .ref a6) (C := RX0) (T := TX0) (N := 9) hx hb hts (by decide +kernel) hown hK hP 0 rfl rfl 6 (by decide) (hts (.fieldLink RX0 30 "Cardgate$Board" "limits" "[I") (by decide +kernel)) (fun _ h9 => h9) rfl dX0_init_78 ?_
  refine va_alen (v := 5) hx hb hK hP 7 0 rfl rfl (by decide) dX0_init_81 ?_
  refine lv_icmp_ge (tgt := 98) hx hb dX0_init_82 (by decide) (fun h => absurd h (by decide)) (fun _ => ?_)
  refine lv_aload_n hx hb dX0_init_85 rfl (lv_at hl 1 rfl) ?_
  refine va_get (D := D) (ci := 1) (v := .ref a6) (C := RX0) (T := TX0) (N := 9) hx hb hts (by decide +kernel) hown hK hP 0 rfl rfl 6 (by decide) (hts (.fieldLink RX0 30 "Cardgate$Board" "limits" "[I") (by decide +kernel)) (fun _ h9 => h9) rfl dX0_init_86 ?_
  refine lv_iload_n hx hb dX0_init_89 rfl (lv_at hl 0 rfl) ?_
  refine lv_iconst (v := 3) hx hb dX0_init_90 (by decide) ?_
  refine va_iast hx hb hK hP hD hS 7 0 rfl rfl (in_nI (k := 1) (by omega) (by omega)) dX0_init_91 (fun H locs hP hD hS => ?_)
  have hP : va_P D vwCl [(h0, .inr (1, [.ref a0, .ref a1, .ref a2, .ref a3, .ref a4, .ref a5, .ref a6, .int 0, .int 0])), (a0, .inl (tg 0, 20, .inl (fun _ => 0))), (a1, .inl (tg 0, 20, .inl (fun _ => 0))), (a2, .inl (tg 0, 20, .inl (fun _ => 0))), (a3, .inl (tg 0, 20, .inl (fun _ => 0))), (a4, .inl (tg 0, 20, .inl (fun _ => 0))), (a5, .inl (tg 0, 20, .inl (fun _ => 0))), (a6, .inl (tg 0, 5, .inl (upd (fun _ => 0) (1 : Int32).toNatClampNeg 3)))] H := hP
  have hD : va_D A [(h0, .inr (1, [.ref a0, .ref a1, .ref a2, .ref a3, .ref a4, .ref a5, .ref a6, .int 0, .int 0])), (a0, .inl (tg 0, 20, .inl (fun _ => 0))), (a1, .inl (tg 0, 20, .inl (fun _ => 0))), (a2, .inl (tg 0, 20, .inl (fun _ => 0))), (a3, .inl (tg 0, 20, .inl (fun _ => 0))), (a4, .inl (tg 0, 20, .inl (fun _ => 0))), (a5, .inl (tg 0, 20, .inl (fun _ => 0))), (a6, .inl (tg 0, 5, .inl (upd (fun _ => 0) (1 : Int32).toNatClampNeg 3)))] := hD
  refine lv_iinc (v := 2) (lv' := [(1, .int 2), (0, .ref h0)]) hx hb dX0_init_92 hl (k := 0) rfl (by decide) (by decide) rfl (fun ls hl => ?_)
  refine lv_goto (tgt := 71) hx hb dX0_init_95 (by decide) ?_
  refine lv_iload_n hx hb dX0_init_71 rfl (lv_at hl 0 rfl) ?_
  refine lv_iconst (v := 3) hx hb dX0_init_72 (by decide) ?_
  refine lv_icmp_gt (tgt := 98) hx hb dX0_init_73 (by decide) (fun h => absurd h (by decide)) (fun _ => ?_)
  refine lv_iload_n hx hb dX0_init_76 rfl (lv_at hl 0 rfl) ?_
  refine lv_aload_n hx hb dX0_init_77 rfl (lv_at hl 1 rfl) ?_
  refine va_get (D := D) (ci := 1) (v := .ref a6) (C := RX0) (T := TX0) (N := 9) hx hb hts (by decide +kernel) hown hK hP 0 rfl rfl 6 (by decide) (hts (.fieldLink RX0 30 "Cardgate$Board" "limits" "[I") (by decide +kernel)) (fun _ h9 => h9) rfl dX0_init_78 ?_
  refine va_alen (v := 5) hx hb hK hP 7 0 rfl rfl (by decide) dX0_init_81 ?_
  refine lv_icmp_ge (tgt := 98) hx hb dX0_init_82 (by decide) (fun h => absurd h (by decide)) (fun _ => ?_)
  refine lv_aload_n hx hb dX0_init_85 rfl (lv_at hl 1 rfl) ?_
  refine va_get (D := D) (ci := 1) (v := .ref a6) (C := RX0) (T := TX0) (N := 9) hx hb hts (by decide +kernel) hown hK hP 0 rfl rfl 6 (by decide) (hts (.fieldLink RX0 30 "Cardgate$Board" "limits" "[I") (by decide +kernel)) (fun _ h9 => h9) rfl dX0_init_86 ?_
  refine lv_iload_n hx hb dX0_init_89 rfl (lv_at hl 0 rfl) ?_
  refine lv_iconst (v := 3) hx hb dX0_init_90 (by decide) ?_
  refine va_iast hx hb hK hP hD hS 7 0 rfl rfl (in_nI (k := 2) (by omega) (by omega)) dX0_init_91 (fun H locs hP hD hS => ?_)
  have hP : va_P D vwCl [(h0, .inr (1, [.ref a0, .ref a1, .ref a2, .ref a3, .ref a4, .ref a5, .ref a6, .int 0, .int 0])), (a0, .inl (tg 0, 20, .inl (fun _ => 0))), (a1, .inl (tg 0, 20, .inl (fun _ => 0))), (a2, .inl (tg 0, 20, .inl (fun _ => 0))), (a3, .inl (tg 0, 20, .inl (fun _ => 0))), (a4, .inl (tg 0, 20, .inl (fun _ => 0))), (a5, .inl (tg 0, 20, .inl (fun _ => 0))), (a6, .inl (tg 0, 5, .inl (upd (upd (fun _ => 0) (1 : Int32).toNatClampNeg 3) (2 : Int32).toNatClampNeg 3)))] H := hP
  have hD : va_D A [(h0, .inr (1, [.ref a0, .ref a1, .ref a2, .ref a3, .ref a4, .ref a5, .ref a6, .int 0, .int 0])), (a0, .inl (tg 0, 20, .inl (fun _ => 0))), (a1, .inl (tg 0, 20, .inl (fun _ => 0))), (a2, .inl (tg 0, 20, .inl (fun _ => 0))), (a3, .inl (tg 0, 20, .inl (fun _ => 0))), (a4, .inl (tg 0, 20, .inl (fun _ => 0))), (a5, .inl (tg 0, 20, .inl (fun _ => 0))), (a6, .inl (tg 0, 5, .inl (upd (upd (fun _ => 0) (1 : Int32).toNatClampNeg 3) (2 : Int32).toNatClampNeg 3)))] := hD
  refine lv_iinc (v := 3) (lv' := [(1, .int 3), (0, .ref h0)]) hx hb dX0_init_92 hl (k := 0) rfl (by decide) (by decide) rfl (fun ls hl => ?_)
  refine lv_goto (tgt := 71) hx hb dX0_init_95 (by decide) ?_
  refine lv_iload_n hx hb dX0_init_71 rfl (lv_at hl 0 rfl) ?_
  refine lv_iconst (v := 3) hx hb dX0_init_72 (by decide) ?_
  refine lv_icmp_gt (tgt := 98) hx hb dX0_init_73 (by decide) (fun h => absurd h (by decide)) (fun _ => ?_)
  refine lv_iload_n hx hb dX0_init_76 rfl (lv_at hl 0 rfl) ?_
  refine lv_aload_n hx hb dX0_init_77 rfl (lv_at hl 1 rfl) ?_
  refine va_get (D := D) (ci := 1) (v := .ref a6) (C := RX0) (T := TX0) (N := 9) hx hb hts (by decide +kernel) hown hK hP 0 rfl rfl 6 (by decide) (hts (.fieldLink RX0 30 "Cardgate$Board" "limits" "[I") (by decide +kernel)) (fun _ h9 => h9) rfl dX0_init_78 ?_
  refine va_alen (v := 5) hx hb hK hP 7 0 rfl rfl (by decide) dX0_init_81 ?_
  refine lv_icmp_ge (tgt := 98) hx hb dX0_init_82 (by decide) (fun h => absurd h (by decide)) (fun _ => ?_)
  refine lv_aload_n hx hb dX0_init_85 rfl (lv_at hl 1 rfl) ?_
  refine va_get (D := D) (ci := 1) (v := .ref a6) (C := RX0) (T := TX0) (N := 9) hx hb hts (by decide +kernel) hown hK hP 0 rfl rfl 6 (by decide) (hts (.fieldLink RX0 30 "Cardgate$Board" "limits" "[I") (by decide +kernel)) (fun _ h9 => h9) rfl dX0_init_86 ?_
  refine lv_iload_n hx hb dX0_init_89 rfl (lv_at hl 0 rfl) ?_
  refine lv_iconst (v := 3) hx hb dX0_init_90 (by decide) ?_
  refine va_iast hx hb hK hP hD hS 7 0 rfl rfl (in_nI (k := 3) (by omega) (by omega)) dX0_init_91 (fun H locs hP hD hS => ?_)
  have hP : va_P D vwCl [(h0, .inr (1, [.ref a0, .ref a1, .ref a2, .ref a3, .ref a4, .ref a5, .ref a6, .int 0, .int 0])), (a0, .inl (tg 0, 20, .inl (fun _ => 0))), (a1, .inl (tg 0, 20, .inl (fun _ => 0))), (a2, .inl (tg 0, 20, .inl (fun _ => 0))), (a3, .inl (tg 0, 20, .inl (fun _ => 0))), (a4, .inl (tg 0, 20, .inl (fun _ => 0))), (a5, .inl (tg 0, 20, .inl (fun _ => 0))), (a6, .inl (tg 0, 5, .inl (upd (upd (upd (fun _ => 0) (1 : Int32).toNatClampNeg 3) (2 : Int32).toNatClampNeg 3) (3 : Int32).toNatClampNeg 3)))] H := hP
  have hD : va_D A [(h0, .inr (1, [.ref a0, .ref a1, .ref a2, .ref a3, .ref a4, .ref a5, .ref a6, .int 0, .int 0])), (a0, .inl (tg 0, 20, .inl (fun _ => 0))), (a1, .inl (tg 0, 20, .inl (fun _ => 0))), (a2, .inl (tg 0, 20, .inl (fun _ => 0))), (a3, .inl (tg 0, 20, .inl (fun _ => 0))), (a4, .inl (tg 0, 20, .inl (fun _ => 0))), (a5, .inl (tg 0, 20, .inl (fun _ => 0))), (a6, .inl (tg 0, 5, .inl (upd (upd (upd (fun _ => 0) (1 : Int32).toNatClampNeg 3) (2 : Int32).toNatClampNeg 3) (3 : Int32).toNatClampNeg 3)))] := hD
  refine lv_iinc (v := 4) (lv' := [(1, .int 4), (0, .ref h0)]) hx hb dX0_init_92 hl (k := 0) rfl (by decide) (by decide) rfl (fun ls hl => ?_)
  refine lv_goto (tgt := 71) hx hb dX0_init_95 (by decide) ?_
  refine lv_iload_n hx hb dX0_init_71 rfl (lv_at hl 0 rfl) ?_
  refine lv_iconst (v := 3) hx hb dX0_init_72 (by decide) ?_
  refine lv_icmp_gt (tgt := 98) hx hb dX0_init_73 (by decide) (fun _ => ?_) (fun h => absurd (by decide) h)
  exact W.vret hx hb hr (fun t ht hW => ⟨⟨fun i => [a0, a1, a2, a3, a4, a5, a6].getD i 0, rfl, trivial, by rw [ht]; exact hP, va_K.moved hW.alike hK, hD⟩, hS.F ht⟩) hS.2.2 dX0_init_98
def ce_X1 (tg : Nat → ClassId) (h0 : Nat) (u : Nat → Nat) : va_W := [(h0, .inr (2, [.ref (u 0), .ref (u 1), .ref (u 2), .ref (u 3), .ref (u 4), .int 0, .int 0, .int 0, .int 0, .int 0, .int 0])), ((u 0), .inl (tg 0, 30, .inl (fun _ => 0))), ((u 1), .inl (tg 0, 30, .inl (fun _ => 0))), ((u 2), .inl (tg 0, 30, .inl (fun _ => 0))), ((u 3), .inl (tg 0, 30, .inl (fun _ => 0))), ((u 4), .inl (tg 0, 30, .inl (fun _ => 0)))]
set_option maxHeartbeats 4000000 in
set_option maxRecDepth 100000 in
theorem i_X1 (l : Launch) (D : va_G) (tg : Nat → ClassId) (h0 sz : Nat) : Met l yX1_init wsX1_init ({ frames := 2, cells := 5, slots := 150, locals := 32 }) (va_Pc [.ref h0] (fun U => U.heap.size = sz ∧ va_P D vwCl [(h0, .inr (2, [.null, .null, .null, .null, .null, .int 0, .int 0, .int 0, .int 0, .int 0, .int 0]))] U.heap ∧ va_K D vwCl (xtys tg) U ∧ va_D (fun _ => True) [(h0, .inr (2, [.null, .null, .null, .null, .null, .int 0, .int 0, .int 0, .int 0, .int 0, .int 0]))])) (va_Qv (fun _ : Nat → Nat => True) (fun u t => va_P D vwCl (ce_X1 tg h0 u) t.heap ∧ va_K D vwCl (xtys tg) t ∧ va_D (va_A [(h0, .inr (2, [.null, .null, .null, .null, .null, .int 0, .int 0, .int 0, .int 0, .int 0, .int 0]))] sz) (ce_X1 tg h0 u)) (va_A [(h0, .inr (2, [.null, .null, .null, .null, .null, .int 0, .int 0, .int 0, .int 0, .int 0, .int 0]))] sz)) 5 150 (va_A [(h0, .inr (2, [.null, .null, .null, .null, .null, .int 0, .int 0, .int 0, .int 0, .int 0, .int 0]))] sz) := by
  refine Met.ofW (cc := cX1_init) (maxL := 1) (ret := none) (by decide) rfl ?_
  intro p e s m args below meth c s₁ B hml hv
  obtain ⟨rfl, hsz, hP, hK, hD0⟩ := hv
  have hx := B.exec
  have hb := B.bytes
  have hr := B.returns
  have hts := atoms_spec (ws := wsX1_init) B.pre
  have hown : s.vm.findClass RX1 = some m.cls := findClass_of_methodNamed B.named
  have hin : meth.name = "<init>" := (name_of_methodNamed B.named B.method).1
  subst hsz
  have hD := hD0.self (sz := s.heap.size)
  generalize hAe : va_A [(h0, .inr (2, [.null, .null, .null, .null, .null, .int 0, .int 0, .int 0, .int 0, .int 0, .int 0]))] s.heap.size = A at hD ⊢
  have hA : ∀ q : Nat, s.heap.size ≤ q → A q := fun q h => by rw [← hAe]; exact Or.inr h
  have hS : va_S A s.heap s.heap [] := va_S.rf
  have hP : va_P D vwCl [(h0, .inr (2, [.null, .null, .null, .null, .null, .int 0, .int 0, .int 0, .int 0, .int 0, .int 0]))] s.heap := hP
  have hl := lv_entry ([.ref h0]) (n := 1) (Nat.le_of_ble_eq_true rfl)
  rw [lg_entry_eq]
  generalize (lg_sl ([.ref h0]) ++ List.replicate (1 - (lg_sl ([.ref h0])).length) Slot.unset).toArray = ls at hl ⊢
  have hl : lv_has ls 1 [(0, .ref h0)] := hl
  refine lv_aload_n hx hb dX1_init_0 rfl (lv_at hl 0 rfl) ?_
  refine W.objInit hx hb hown (hts (.methodLink RX1 3 objectInit) (by decide +kernel)) (hts (.instanceMethod objectInit) (by decide +kernel)) (hts (.code objectInit ⟨#[0xb1]⟩ 1 none) (by decide +kernel)) rfl (by rw [hml]; exact hl.1) rfl dX1_init_1 (Nat.le_of_ble_eq_true rfl) (Nat.le_of_ble_eq_true rfl) ?_
  refine W.eq (g2 := F0 m 4 ls []) rfl ?_
  refine lv_aload_n hx hb dX1_init_4 rfl (lv_at hl 0 rfl) ?_
  refine lv_bipush (v := 30) hx hb dX1_init_5 (by decide) ?_
  refine xn_newa (atype := .int) (a0 := (30, .inl (fun _ => 0))) hx hb (hts (.arrayClass .int) (by decide +kernel)) (hK.2 0 _ rfl).2 hP hD hS hA rfl (by decide) (by decide) (Nat.le_of_ble_eq_true rfl) (Nat.le_of_ble_eq_true rfl) (Nat.le_of_ble_eq_true rfl) dX1_init_7 (fun a0 H hP hD hS => ?_)
  have hP : va_P D vwCl [(h0, .inr (2, [.null, .null, .null, .null, .null, .int 0, .int 0, .int 0, .int 0, .int 0, .int 0])), (a0, .inl (tg 0, 30, .inl (fun _ => 0)))] H := hP
  have hD : va_D A [(h0, .inr (2, [.null, .null, .null, .null, .null, .int 0, .int 0, .int 0, .int 0, .int 0, .int 0])), (a0, .inl (tg 0, 30, .inl (fun _ => 0)))] := hD
  refine W.widen (k := 1) (n := 30) (Nat.le_of_ble_eq_true rfl) (Nat.le_of_ble_eq_true rfl) ?_
  refine va_putF (D := D) (ci := 2) (v := .ref a0) (ty := .array .int) (C := RX1) (T := TX1) (N := 11) hx hb hts (by decide +kernel) tyX1 tyX1_ok nmX1 hown hK hP hD hS 0 rfl rfl 0 (by decide) (hts (.fieldLink RX1 9 "Cardgate$Gate" "weights" "[I") (by decide +kernel)) (fun _ h9 => h9) rfl hin rfl (by decide +kernel) rfl rfl (Nat.le_of_ble_eq_true rfl) dX1_init_9 (fun H locs hP hD hS => ?_)
  have hP : va_P D vwCl [(h0, .inr (2, [.ref a0, .null, .null, .null, .null, .int 0, .int 0, .int 0, .int 0, .int 0, .int 0])), (a0, .inl (tg 0, 30, .inl (fun _ => 0)))] H := hP
  have hD : va_D A [(h0, .inr (2, [.ref a0, .null, .null, .null, .null, .int 0, .int 0, .int 0, .int 0, .int 0, .int 0])), (a0, .inl (tg 0, 30, .inl (fun _ => 0)))] := hD
  refine lv_aload_n hx hb dX1_init_12 rfl (lv_at hl 0 rfl) ?_
  refine lv_bipush (v := 30) hx hb dX1_init_13 (by decide) ?_
  refine xn_newa (atype := .int) (a0 := (30, .inl (fun _ => 0))) hx hb (hts (.arrayClass .int) (by decide +kernel)) (hK.2 0 _ rfl).2 hP hD hS hA rfl (by decide) (by decide) (Nat.le_of_ble_eq_true rfl) (Nat.le_of_ble_eq_true rfl) (Nat.le_of_ble_eq_true rfl) dX1_init_15 (fun a1 H hP hD hS => ?_)
  have hP : va_P D vwCl [(h0, .inr (2, [.ref a0, .null, .null, .null, .null, .int 0, .int 0, .int 0, .int 0, .int 0, .int 0])), (a0, .inl (tg 0, 30, .inl (fun _ => 0))), (a1, .inl (tg 0, 30, .inl (fun _ => 0)))] H := hP
  have hD : va_D A [(h0, .inr (2, [.ref a0, .null, .null, .null, .null, .int 0, .int 0, .int 0, .int 0, .int 0, .int 0])), (a0, .inl (tg 0, 30, .inl (fun _ => 0))), (a1, .inl (tg 0, 30, .inl (fun _ => 0)))] := hD
  refine W.widen (k := 2) (n := 60) (Nat.le_of_ble_eq_true rfl) (Nat.le_of_ble_eq_true rfl) ?_
  refine va_putF (D := D) (ci := 2) (v := .ref a1) (ty := .array .int) (C := RX1) (T := TX1) (N := 11) hx hb hts (by decide +kernel) tyX1 tyX1_ok nmX1 hown hK hP hD hS 0 rfl rfl 1 (by decide) (hts (.fieldLink RX1 15 "Cardgate$Gate" "needs" "[I") (by decide +kernel)) (fun _ h9 => h9) rfl hin rfl (by decide +kernel) rfl rfl (Nat.le_of_ble_eq_true rfl) dX1_init_17 (fun H locs hP hD hS => ?_)
  have hP : va_P D vwCl [(h0, .inr (2, [.ref a0, .ref a1, .null, .null, .null, .int 0, .int 0, .int 0, .int 0, .int 0, .int 0])), (a0, .inl (tg 0, 30, .inl (fun _ => 0))), (a1, .inl (tg 0, 30, .inl (fun _ => 0)))] H := hP
  have hD : va_D A [(h0, .inr (2, [.ref a0, .ref a1, .null, .null, .null, .int 0, .int 0, .int 0, .int 0, .int 0, .int 0])), (a0, .inl (tg 0, 30, .inl (fun _ => 0))), (a1, .inl (tg 0, 30, .inl (fun _ => 0)))] := hD
  refine lv_aload_n hx hb dX1_init_20 rfl (lv_at hl 0 rfl) ?_
  refine lv_bipush (v := 30) hx hb dX1_init_21 (by decide) ?_
  refine xn_newa (atype := .int) (a0 := (30, .inl (fun _ => 0))) hx hb (hts (.arrayClass .int) (by decide +kernel)) (hK.2 0 _ rfl).2 hP hD hS hA rfl (by decide) (by decide) (Nat.le_of_ble_eq_true rfl) (Nat.le_of_ble_eq_true rfl) (Nat.le_of_ble_eq_true rfl) dX1_init_23 (fun a2 H hP hD hS => ?_)
  have hP : va_P D vwCl [(h0, .inr (2, [.ref a0, .ref a1, .null, .null, .null, .int 0, .int 0, .int 0, .int 0, .int 0, .int 0])), (a0, .inl (tg 0, 30, .inl (fun _ => 0))), (a1, .inl (tg 0, 30, .inl (fun _ => 0))), (a2, .inl (tg 0, 30, .inl (fun _ => 0)))] H := hP
  have hD : va_D A [(h0, .inr (2, [.ref a0, .ref a1, .null, .null, .null, .int 0, .int 0, .int 0, .int 0, .int 0, .int 0])), (a0, .inl (tg 0, 30, .inl (fun _ => 0))), (a1, .inl (tg 0, 30, .inl (fun _ => 0))), (a2, .inl (tg 0, 30, .inl (fun _ => 0)))] := hD
  refine W.widen (k := 3) (n := 90) (Nat.le_of_ble_eq_true rfl) (Nat.le_of_ble_eq_true rfl) ?_
  refine va_putF (D := D) (ci := 2) (v := .ref a2) (ty := .array .int) (C := RX1) (T := TX1) (N := 11) hx hb hts (by decide +kernel) tyX1 tyX1_ok nmX1 hown hK hP hD hS 0 rfl rfl 2 (by decide) (hts (.fieldLink RX1 18 "Cardgate$Gate" "clashes" "[I") (by decide +kernel)) (fun _ h9 => h9) rfl hin rfl (by decide +kernel) rfl rfl (Nat.le_of_ble_eq_true rfl) dX1_init_25 (fun H locs hP hD hS => ?_)
  have hP : va_P D vwCl [(h0, .inr (2, [.ref a0, .ref a1, .ref a2, .null, .null, .int 0, .int 0, .int 0, .int 0, .int 0, .int 0])), (a0, .inl (tg 0, 30, .inl (fun _ => 0))), (a1, .inl (tg 0, 30, .inl (fun _ => 0))), (a2, .inl (tg 0, 30, .inl (fun _ => 0)))] H := hP
  have hD : va_D A [(h0, .inr (2, [.ref a0, .ref a1, .ref a2, .null, .null, .int 0, .int 0, .int 0, .int 0, .int 0, .int 0])), (a0, .inl (tg 0, 30, .inl (fun _ => 0))), (a1, .inl (tg 0, 30, .inl (fun _ => 0))), (a2, .inl (tg 0, 30, .inl (fun _ => 0)))] := hD
  refine lv_aload_n hx hb dX1_init_28 rfl (lv_at hl 0 rfl) ?_
  refine lv_bipush (v := 30) hx hb dX1_init_29 (by decide) ?_
  refine xn_newa (atype := .int) (a0 := (30, .inl (fun _ => 0))) hx hb (hts (.arrayClass .int) (by decide +kernel)) (hK.2 0 _ rfl).2 hP hD hS hA rfl (by decide) (by decide) (Nat.le_of_ble_eq_true rfl) (Nat.le_of_ble_eq_true rfl) (Nat.le_of_ble_eq_true rfl) dX1_init_31 (fun a3 H hP hD hS => ?_)
  have hP : va_P D vwCl [(h0, .inr (2, [.ref a0, .ref a1, .ref a2, .null, .null, .int 0, .int 0, .int 0, .int 0, .int 0, .int 0])), (a0, .inl (tg 0, 30, .inl (fun _ => 0))), (a1, .inl (tg 0, 30, .inl (fun _ => 0))), (a2, .inl (tg 0, 30, .inl (fun _ => 0))), (a3, .inl (tg 0, 30, .inl (fun _ => 0)))] H := hP
  have hD : va_D A [(h0, .inr (2, [.ref a0, .ref a1, .ref a2, .null, .null, .int 0, .int 0, .int 0, .int 0, .int 0, .int 0])), (a0, .inl (tg 0, 30, .inl (fun _ => 0))), (a1, .inl (tg 0, 30, .inl (fun _ => 0))), (a2, .inl (tg 0, 30, .inl (fun _ => 0))), (a3, .inl (tg 0, 30, .inl (fun _ => 0)))] := hD
  refine W.widen (k := 4) (n := 120) (Nat.le_of_ble_eq_true rfl) (Nat.le_of_ble_eq_true rfl) ?_
  refine va_putF (D := D) (ci := 2) (v := .ref a3) (ty := .array .int) (C := RX1) (T := TX1) (N := 11) hx hb hts (by decide +kernel) tyX1 tyX1_ok nmX1 hown hK hP hD hS 0 rfl rfl 3 (by decide) (hts (.fieldLink RX1 21 "Cardgate$Gate" "states" "[I") (by decide +kernel)) (fun _ h9 => h9) rfl hin rfl (by decide +kernel) rfl rfl (Nat.le_of_ble_eq_true rfl) dX1_init_33 (fun H locs hP hD hS => ?_)
  have hP : va_P D vwCl [(h0, .inr (2, [.ref a0, .ref a1, .ref a2, .ref a3, .null, .int 0, .int 0, .int 0, .int 0, .int 0, .int 0])), (a0, .inl (tg 0, 30, .inl (fun _ => 0))), (a1, .inl (tg 0, 30, .inl (fun _ => 0))), (a2, .inl (tg 0, 30, .inl (fun _ => 0))), (a3, .inl (tg 0, 30, .inl (fun _ => 0)))] H := hP
  have hD : va_D A [(h0, .inr (2, [.ref a0, .ref a1, .ref a2, .ref a3, .null, .int 0, .int 0, .int 0, .int 0, .int 0, .int 0])), (a0, .inl (tg 0, 30, .inl (fun _ => 0))), (a1, .inl (tg 0, 30, .inl (fun _ => 0))), (a2, .inl (tg 0, 30, .inl (fun _ => 0))), (a3, .inl (tg 0, 30, .inl (fun _ => 0)))] := hD
  refine lv_aload_n hx hb dX1_init_36 rfl (lv_at hl 0 rfl) ?_
  refine lv_bipush (v := 30) hx hb dX1_init_37 (by decide) ?_
  refine xn_newa (atype := .int) (a0 := (30, .inl (fun _ => 0))) hx hb (hts (.arrayClass .int) (by decide +kernel)) (hK.2 0 _ rfl).2 hP hD hS hA rfl (by decide) (by decide) (Nat.le_of_ble_eq_true rfl) (Nat.le_of_ble_eq_true rfl) (Nat.le_of_ble_eq_true rfl) dX1_init_39 (fun a4 H hP hD hS => ?_)
  have hP : va_P D vwCl [(h0, .inr (2, [.ref a0, .ref a1, .ref a2, .ref a3, .null, .int 0, .int 0, .int 0, .int 0, .int 0, .int 0])), (a0, .inl (tg 0, 30, .inl (fun _ => 0))), (a1, .inl (tg 0, 30, .inl (fun _ => 0))), (a2, .inl (tg 0, 30, .inl (fun _ => 0))), (a3, .inl (tg 0, 30, .inl (fun _ => 0))), (a4, .inl (tg 0, 30, .inl (fun _ => 0)))] H := hP
  have hD : va_D A [(h0, .inr (2, [.ref a0, .ref a1, .ref a2, .ref a3, .null, .int 0, .int 0, .int 0, .int 0, .int 0, .int 0])), (a0, .inl (tg 0, 30, .inl (fun _ => 0))), (a1, .inl (tg 0, 30, .inl (fun _ => 0))), (a2, .inl (tg 0, 30, .inl (fun _ => 0))), (a3, .inl (tg 0, 30, .inl (fun _ => 0))), (a4, .inl (tg 0, 30, .inl (fun _ => 0)))] := hD
  refine W.widen (k := 5) (n := 150) (Nat.le_of_ble_eq_true rfl) (Nat.le_of_ble_eq_true rfl) ?_
  refine va_putF (D := D) (ci := 2) (v := .ref a4) (ty := .array .int) (C := RX1) (T := TX1) (N := 11) hx hb hts (by decide +kernel) tyX1 tyX1_ok nmX1 hown hK hP hD hS 0 rfl rfl 4 (by decide) (hts (.fieldLink RX1 24 "Cardgate$Gate" "queue" "[I") (by decide +kernel)) (fun _ h9 => h9) rfl hin rfl (by decide +kernel) rfl rfl (Nat.le_of_ble_eq_true rfl) dX1_init_41 (fun H locs hP hD hS => ?_)
  have hP : va_P D vwCl [(h0, .inr (2, [.ref a0, .ref a1, .ref a2, .ref a3, .ref a4, .int 0, .int 0, .int 0, .int 0, .int 0, .int 0])), (a0, .inl (tg 0, 30, .inl (fun _ => 0))), (a1, .inl (tg 0, 30, .inl (fun _ => 0))), (a2, .inl (tg 0, 30, .inl (fun _ => 0))), (a3, .inl (tg 0, 30, .inl (fun _ => 0))), (a4, .inl (tg 0, 30, .inl (fun _ => 0)))] H := hP
  have hD : va_D A [(h0, .inr (2, [.ref a0, .ref a1, .ref a2, .ref a3, .ref a4, .int 0, .int 0, .int 0, .int 0, .int 0, .int 0])), (a0, .inl (tg 0, 30, .inl (fun _ => 0))), (a1, .inl (tg 0, 30, .inl (fun _ => 0))), (a2, .inl (tg 0, 30, .inl (fun _ => 0))), (a3, .inl (tg 0, 30, .inl (fun _ => 0))), (a4, .inl (tg 0, 30, .inl (fun _ => 0)))] := hD
  refine lv_aload_n hx hb dX1_init_44 rfl (lv_at hl 0 rfl) ?_
  refine lv_iconst (v := 0) hx hb dX1_init_45 (by decide) ?_
  refine va_put (D := D) (ci := 2) (v := .int 0) (ty := .int) (C := RX1) (T := TX1) (N := 11) hx hb hts (by decide +kernel) tyX1 tyX1_ok nmX1 hown hK hP hD hS 0 rfl rfl 5 (by decide) (hts (.fieldLink RX1 27 "Cardgate$Gate" "broken" "I") (by decide +kernel)) (fun _ h9 => h9) rfl (by decide +kernel) rfl rfl (Nat.le_of_ble_eq_true rfl) dX1_init_46 (fun H locs hP hD hS => ?_)
  have hP : va_P D vwCl [(h0, .inr (2, [.ref a0, .ref a1, .ref a2, .ref a3, .ref a4, .int 0, .int 0, .int 0, .int 0, .int 0, .int 0])), (a0, .inl (tg 0, 30, .inl (fun _ => 0))), (a1, .inl (tg 0, 30, .inl (fun _ => 0))), (a2, .inl (tg 0, 30, .inl (fun _ => 0))), (a3, .inl (tg 0, 30, .inl (fun _ => 0))), (a4, .inl (tg 0, 30, .inl (fun _ => 0)))] H := hP
  have hD : va_D A [(h0, .inr (2, [.ref a0, .ref a1, .ref a2, .ref a3, .ref a4, .int 0, .int 0, .int 0, .int 0, .int 0, .int 0])), (a0, .inl (tg 0, 30, .inl (fun _ => 0))), (a1, .inl (tg 0, 30, .inl (fun _ => 0))), (a2, .inl (tg 0, 30, .inl (fun _ => 0))), (a3, .inl (tg 0, 30, .inl (fun _ => 0))), (a4, .inl (tg 0, 30, .inl (fun _ => 0)))] := hD
  refine lv_aload_n hx hb dX1_init_49 rfl (lv_at hl 0 rfl) ?_
  refine lv_iconst (v := 0) hx hb dX1_init_50 (by decide) ?_
  refine va_put (D := D) (ci := 2) (v := .int 0) (ty := .int) (C := RX1) (T := TX1) (N := 11) hx hb hts (by decide +kernel) tyX1 tyX1_ok nmX1 hown hK hP hD hS 0 rfl rfl 6 (by decide) (hts (.fieldLink RX1 31 "Cardgate$Gate" "count" "I") (by decide +kernel)) (fun _ h9 => h9) rfl (by decide +kernel) rfl rfl (Nat.le_of_ble_eq_true rfl) dX1_init_51 (fun H locs hP hD hS => ?_)
  have hP : va_P D vwCl [(h0, .inr (2, [.ref a0, .ref a1, .ref a2, .ref a3, .ref a4, .int 0, .int 0, .int 0, .int 0, .int 0, .int 0])), (a0, .inl (tg 0, 30, .inl (fun _ => 0))), (a1, .inl (tg 0, 30, .inl (fun _ => 0))), (a2, .inl (tg 0, 30, .inl (fun _ => 0))), (a3, .inl (tg 0, 30, .inl (fun _ => 0))), (a4, .inl (tg 0, 30, .inl (fun _ => 0)))] H := hP
  have hD : va_D A [(h0, .inr (2, [.ref a0, .ref a1, .ref a2, .ref a3, .ref a4, .int 0, .int 0, .int 0, .int 0, .int 0, .int 0])), (a0, .inl (tg 0, 30, .inl (fun _ => 0))), (a1, .inl (tg 0, 30, .inl (fun _ => 0))), (a2, .inl (tg 0, 30, .inl (fun _ => 0))), (a3, .inl (tg 0, 30, .inl (fun _ => 0))), (a4, .inl (tg 0, 30, .inl (fun _ => 0)))] := hD
  refine lv_aload_n hx hb dX1_init_54 rfl (lv_at hl 0 rfl) ?_
  refine lv_iconst (v := 0) hx hb dX1_init_55 (by decide) ?_
  refine va_put (D := D) (ci := 2) (v := .int 0) (ty := .int) (C := RX1) (T := TX1) (N := 11) hx hb hts (by decide +kernel) tyX1 tyX1_ok nmX1 hown hK hP hD hS 0 rfl rfl 7 (by decide) (hts (.fieldLink RX1 34 "Cardgate$Gate" "queueLength" "I") (by decide +kernel)) (fun _ h9 => h9) rfl (by decide +kernel) rfl rfl (Nat.le_of_ble_eq_true rfl) dX1_init_56 (fun H locs hP hD hS => ?_)
  have hP : va_P D vwCl [(h0, .inr (2, [.ref a0, .ref a1, .ref a2, .ref a3, .ref a4, .int 0, .int 0, .int 0, .int 0, .int 0, .int 0])), (a0, .inl (tg 0, 30, .inl (fun _ => 0))), (a1, .inl (tg 0, 30, .inl (fun _ => 0))), (a2, .inl (tg 0, 30, .inl (fun _ => 0))), (a3, .inl (tg 0, 30, .inl (fun _ => 0))), (a4, .inl (tg 0, 30, .inl (fun _ => 0)))] H := hP
  have hD : va_D A [(h0, .inr (2, [.ref a0, .ref a1, .ref a2, .ref a3, .ref a4, .int 0, .int 0, .int 0, .int 0, .int 0, .int 0])), (a0, .inl (tg 0, 30, .inl (fun _ => 0))), (a1, .inl (tg 0, 30, .inl (fun _ => 0))), (a2, .inl (tg 0, 30, .inl (fun _ => 0))), (a3, .inl (tg 0, 30, .inl (fun _ => 0))), (a4, .inl (tg 0, 30, .inl (fun _ => 0)))] := hD
  refine lv_aload_n hx hb dX1_init_59 rfl (lv_at hl 0 rfl) ?_
  refine lv_iconst (v := 0) hx hb dX1_init_60 (by decide) ?_
  refine va_put (D := D) (ci := 2) (v := .int 0) (ty := .int) (C := RX1) (T := TX1) (N := 11) hx hb hts (by decide +kernel) tyX1 tyX1_ok nmX1 hown hK hP hD hS 0 rfl rfl 8 (by decide) (hts (.fieldLink RX1 37 "Cardgate$Gate" "trialIn" "I") (by decide +kernel)) (fun _ h9 => h9) rfl (by decide +kernel) rfl rfl (Nat.le_of_ble_eq_true rfl) dX1_init_61 (fun H locs hP hD hS => ?_)
  have hP : va_P D vwCl [(h0, .inr (2, [.ref a0, .ref a1, .ref a2, .ref a3, .ref a4, .int 0, .int 0, .int 0, .int 0, .int 0, .int 0])), (a0, .inl (tg 0, 30, .inl (fun _ => 0))), (a1, .inl (tg 0, 30, .inl (fun _ => 0))), (a2, .inl (tg 0, 30, .inl (fun _ => 0))), (a3, .inl (tg 0, 30, .inl (fun _ => 0))), (a4, .inl (tg 0, 30, .inl (fun _ => 0)))] H := hP
  have hD : va_D A [(h0, .inr (2, [.ref a0, .ref a1, .ref a2, .ref a3, .ref a4, .int 0, .int 0, .int 0, .int 0, .int 0, .int 0])), (a0, .inl (tg 0, 30, .inl (fun _ => 0))), (a1, .inl (tg 0, 30, .inl (fun _ => 0))), (a2, .inl (tg 0, 30, .inl (fun _ => 0))), (a3, .inl (tg 0, 30, .inl (fun _ => 0))), (a4, .inl (tg 0, 30, .inl (fun _ => 0)))] := hD
  refine lv_aload_n hx hb dX1_init_64 rfl (lv_at hl 0 rfl) ?_
  refine lv_iconst (v := 0) hx hb dX1_init_65 (by decide) ?_
  refine va_put (D := D) (ci := 2) (v := .int 0) (ty := .int) (C := RX1) (T := TX1) (N := 11) hx hb hts (by decide +kernel) tyX1 tyX1_ok nmX1 hown hK hP hD hS 0 rfl rfl 9 (by decide) (hts (.fieldLink RX1 40 "Cardgate$Gate" "trialTries" "I") (by decide +kernel)) (fun _ h9 => h9) rfl (by decide +kernel) rfl rfl (Nat.le_of_ble_eq_true rfl) dX1_init_66 (fun H locs hP hD hS => ?_)
  have hP : va_P D vwCl [(h0, .inr (2, [.ref a0, .ref a1, .ref a2, .ref a3, .ref a4, .int 0, .int 0, .int 0, .int 0, .int 0, .int 0])), (a0, .inl (tg 0, 30, .inl (fun _ => 0))), (a1, .inl (tg 0, 30, .inl (fun _ => 0))), (a2, .inl (tg 0, 30, .inl (fun _ => 0))), (a3, .inl (tg 0, 30, .inl (fun _ => 0))), (a4, .inl (tg 0, 30, .inl (fun _ => 0)))] H := hP
  have hD : va_D A [(h0, .inr (2, [.ref a0, .ref a1, .ref a2, .ref a3, .ref a4, .int 0, .int 0, .int 0, .int 0, .int 0, .int 0])), (a0, .inl (tg 0, 30, .inl (fun _ => 0))), (a1, .inl (tg 0, 30, .inl (fun _ => 0))), (a2, .inl (tg 0, 30, .inl (fun _ => 0))), (a3, .inl (tg 0, 30, .inl (fun _ => 0))), (a4, .inl (tg 0, 30, .inl (fun _ => 0)))] := hD
  refine lv_aload_n hx hb dX1_init_69 rfl (lv_at hl 0 rfl) ?_
  refine lv_iconst (v := 0) hx hb dX1_init_70 (by decide) ?_
  refine va_put (D := D) (ci := 2) (v := .int 0) (ty := .int) (C := RX1) (T := TX1) (N := 11) hx hb hts (by decide +kernel) tyX1 tyX1_ok nmX1 hown hK hP hD hS 0 rfl rfl 10 (by decide) (hts (.fieldLink RX1 43 "Cardgate$Gate" "trialHours" "I") (by decide +kernel)) (fun _ h9 => h9) rfl (by decide +kernel) rfl rfl (Nat.le_of_ble_eq_true rfl) dX1_init_71 (fun H locs hP hD hS => ?_)
  have hP : va_P D vwCl [(h0, .inr (2, [.ref a0, .ref a1, .ref a2, .ref a3, .ref a4, .int 0, .int 0, .int 0, .int 0, .int 0, .int 0])), (a0, .inl (tg 0, 30, .inl (fun _ => 0))), (a1, .inl (tg 0, 30, .inl (fun _ => 0))), (a2, .inl (tg 0, 30, .inl (fun _ => 0))), (a3, .inl (tg 0, 30, .inl (fun _ => 0))), (a4, .inl (tg 0, 30, .inl (fun _ => 0)))] H := hP
  have hD : va_D A [(h0, .inr (2, [.ref a0, .ref a1, .ref a2, .ref a3, .ref a4, .int 0, .int 0, .int 0, .int 0, .int 0, .int 0])), (a0, .inl (tg 0, 30, .inl (fun _ => 0))), (a1, .inl (tg 0, 30, .inl (fun _ => 0))), (a2, .inl (tg 0, 30, .inl (fun _ => 0))), (a3, .inl (tg 0, 30, .inl (fun _ => 0))), (a4, .inl (tg 0, 30, .inl (fun _ => 0)))] := hD
  exact W.vret hx hb hr (fun t ht hW => ⟨⟨fun i => [a0, a1, a2, a3, a4].getD i 0, rfl, trivial, by rw [ht]; exact hP, va_K.moved hW.alike hK, hD⟩, hS.F ht⟩) hS.2.2 dX1_init_74
end IN
