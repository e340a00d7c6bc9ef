/-! the constructors: names -/
abbrev wsX00 : List Cond := u_ws RX0 TX0 9
abbrev wsX10 : List Cond := u_ws RX1 TX1 11
abbrev wsX20 : List Cond := u_ws RX2 TX2 3
abbrev wsX30 : List Cond := u_ws RX3 TX3 24
def wsX0_init : List Cond := .code yX0_init cX0_init 2 none :: ([.methodLink RX0 3 objectInit, .instanceMethod objectInit, .code objectInit ⟨#[0xb1]⟩ 1 none, .arrayClass .int, .fieldLink RX0 9 "Cardgate$Board" "ranks" "[I", .fieldLink RX0 15 "Cardgate$Board" "columns" "[I", .fieldLink RX0 18 "Cardgate$Board" "arrivals" "[I", .fieldLink RX0 21 "Cardgate$Board" "names" "[I", .fieldLink RX0 24 "Cardgate$Board" "fallCounts" "[I", .fieldLink RX0 27 "Cardgate$Board" "pushCounts" "[I", .fieldLink RX0 30 "Cardgate$Board" "limits" "[I", .fieldLink RX0 33 "Cardgate$Board" "count" "I", .fieldLink RX0 37 "Cardgate$Board" "arrivalsSoFar" "I"] ++ wsX00)
def wsX1_init : List Cond := .code yX1_init cX1_init 1 none :: ([.methodLink RX1 3 objectInit, .instanceMethod objectInit, .code objectInit ⟨#[0xb1]⟩ 1 none, .arrayClass .int, .fieldLink RX1 9 "Cardgate$Gate" "weights" "[I", .fieldLink RX1 15 "Cardgate$Gate" "needs" "[I", .fieldLink RX1 18 "Cardgate$Gate" "clashes" "[I", .fieldLink RX1 21 "Cardgate$Gate" "states" "[I", .fieldLink RX1 24 "Cardgate$Gate" "queue" "[I", .fieldLink RX1 27 "Cardgate$Gate" "broken" "I", .fieldLink RX1 31 "Cardgate$Gate" "count" "I", .fieldLink RX1 34 "Cardgate$Gate" "queueLength" "I", .fieldLink RX1 37 "Cardgate$Gate" "trialIn" "I", .fieldLink RX1 40 "Cardgate$Gate" "trialTries" "I", .fieldLink RX1 43 "Cardgate$Gate" "trialHours" "I"] ++ wsX10)
def wsX2_init_r1 : List Cond := [Cond.methodLink RX2 1 objectInit, Cond.instanceMethod objectInit, Cond.code objectInit ⟨#[0xb1]⟩ 1 none, Cond.classLink RX2 7 RX0, Cond.instantiable RX0 9, Cond.initialized RX0, Cond.fieldLink RX2 10 "Cardgate" "board" "LCardgate$Board;", Cond.classLink RX2 16 RX1, Cond.instantiable RX1 11, Cond.initialized RX1, Cond.fieldLink RX2 19 "Cardgate" "gate" "LCardgate$Gate;", Cond.fieldLink RX2 23 "Cardgate" "hoursSoFar" "I", Cond.methodLink RX2 9 yX0_init, Cond.instanceMethod yX0_init, Cond.code yX0_init cX0_init 2 none, Cond.methodLink RX0 3 objectInit, Cond.arrayClass .int, Cond.fieldLink RX0 9 "Cardgate$Board" "ranks" "[I", Cond.fieldLink RX0 15 "Cardgate$Board" "columns" "[I", Cond.fieldLink RX0 18 "Cardgate$Board" "arrivals" "[I", Cond.fieldLink RX0 21 "Cardgate$Board" "names" "[I", Cond.fieldLink RX0 24 "Cardgate$Board" "fallCounts" "[I", Cond.fieldLink RX0 27 "Cardgate$Board" "pushCounts" "[I", Cond.fieldLink RX0 30 "Cardgate$Board" "limits" "[I"]
def wsX2_init_r2 : List Cond := [Cond.fieldLink RX0 33 "Cardgate$Board" "count" "I", Cond.fieldLink RX0 37 "Cardgate$Board" "arrivalsSoFar" "I", Cond.instanceMethod yX1_init, Cond.code yX1_init cX1_init 1 none, Cond.methodLink RX1 3 objectInit, Cond.fieldLink RX1 9 "Cardgate$Gate" "weights" "[I", Cond.fieldLink RX1 15 "Cardgate$Gate" "needs" "[I", Cond.fieldLink RX1 18 "Cardgate$Gate" "clashes" "[I", Cond.fieldLink RX1 21 "Cardgate$Gate" "states" "[I", Cond.fieldLink RX1 24 "Cardgate$Gate" "queue" "[I", Cond.fieldLink RX1 27 "Cardgate$Gate" "broken" "I", Cond.fieldLink RX1 31 "Cardgate$Gate" "count" "I", Cond.fieldLink RX1 34 "Cardgate$Gate" "queueLength" "I", Cond.fieldLink RX1 37 "Cardgate$Gate" "trialIn" "I", Cond.fieldLink RX1 40 "Cardgate$Gate" "trialTries" "I", Cond.fieldLink RX1 43 "Cardgate$Gate" "trialHours" "I"]
def wsX2_init : List Cond := .code yX2_init cX2_init 1 none :: ((wsX2_init_r1 ++ wsX2_init_r2) ++ wsX00 ++ wsX20 ++ wsX10)
def wsX3_init : List Cond := .code yX3_init cX3_init 2 none :: ([.methodLink RX3 1 objectInit, .instanceMethod objectInit, .code objectInit ⟨#[0xb1]⟩ 1 none, .arrayClass .int, .fieldLink RX3 7 "CardgateModel" "ranks" "[I", .fieldLink RX3 13 "CardgateModel" "columns" "[I", .fieldLink RX3 16 "CardgateModel" "came" "[I", .fieldLink RX3 19 "CardgateModel" "falls" "[I", .fieldLink RX3 22 "CardgateModel" "pushes" "[I", .arrayClass .boolean, .fieldLink RX3 25 "CardgateModel" "names" "[Z", .fieldLink RX3 29 "CardgateModel" "limits" "[I", .fieldLink RX3 32 "CardgateModel" "weights" "[I", .fieldLink RX3 35 "CardgateModel" "states" "[I", .fieldLink RX3 38 "CardgateModel" "broken" "[Z", .fieldLink RX3 41 "CardgateModel" "needs" "[Z", .fieldLink RX3 44 "CardgateModel" "clashes" "[Z", .fieldLink RX3 47 "CardgateModel" "queue" "[I", .fieldLink RX3 50 "CardgateModel" "isIn" "[Z", .fieldLink RX3 53 "CardgateModel" "froms" "[I", .fieldLink RX3 56 "CardgateModel" "manys" "[I"] ++ wsX30)
theorem dX0_init_0 : decode cX0_init 0 = .ok (.aload_n 0, 1) := by decide +kernel
theorem dX0_init_1 : decode cX0_init 1 = .ok (.invokespecial 3, 3) := by decide +kernel
theorem dX0_init_4 : decode cX0_init 4 = .ok (.aload_n 0, 1) := by decide +kernel
theorem dX0_init_5 : decode cX0_init 5 = .ok (.bipush 20, 2) := by decide +kernel
theorem dX0_init_7 : decode cX0_init 7 = .ok (.newarray .int, 2) := by decide +kernel
theorem dX0_init_9 : decode cX0_init 9 = .ok (.putfield 9, 3) := by decide +kernel
theorem dX0_init_12 : decode cX0_init 12 = .ok (.aload_n 0, 1) := by decide +kernel
theorem dX0_init_13 : decode cX0_init 13 = .ok (.bipush 20, 2) := by decide +kernel
theorem dX0_init_15 : decode cX0_init 15 = .ok (.newarray .int, 2) := by decide +kernel
theorem dX0_init_17 : decode cX0_init 17 = .ok (.putfield 15, 3) := by decide +kernel
theorem dX0_init_20 : decode cX0_init 20 = .ok (.aload_n 0, 1) := by decide +kernel
theorem dX0_init_21 : decode cX0_init 21 = .ok (.bipush 20, 2) := by decide +kernel
theorem dX0_init_23 : decode cX0_init 23 = .ok (.newarray .int, 2) := by decide +kernel
theorem dX0_init_25 : decode cX0_init 25 = .ok (.putfield 18, 3) := by decide +kernel
theorem dX0_init_28 : decode cX0_init 28 = .ok (.aload_n 0, 1) := by decide +kernel
theorem dX0_init_29 : decode cX0_init 29 = .ok (.bipush 20, 2) := by decide +kernel
theorem dX0_init_31 : decode cX0_init 31 = .ok (.newarray .int, 2) := by decide +kernel
theorem dX0_init_33 : decode cX0_init 33 = .ok (.putfield 21, 3) := by decide +kernel
theorem dX0_init_36 : decode cX0_init 36 = .ok (.aload_n 0, 1) := by decide +kernel
theorem dX0_init_37 : decode cX0_init 37 = .ok (.bipush 20, 2) := by decide +kernel
theorem dX0_init_39 : decode cX0_init 39 = .ok (.newarray .int, 2) := by decide +kernel
theorem dX0_init_41 : decode cX0_init 41 = .ok (.putfield 24, 3) := by decide +kernel
theorem dX0_init_44 : decode cX0_init 44 = .ok (.aload_n 0, 1) := by decide +kernel
theorem dX0_init_45 : decode cX0_init 45 = .ok (.bipush 20, 2) := by decide +kernel
theorem dX0_init_47 : decode cX0_init 47 = .ok (.newarray .int, 2) := by decide +kernel
theorem dX0_init_49 : decode cX0_init 49 = .ok (.putfield 27, 3) := by decide +kernel
theorem dX0_init_52 : decode cX0_init 52 = .ok (.aload_n 0, 1) := by decide +kernel
theorem dX0_init_53 : decode cX0_init 53 = .ok (.iconst 5, 1) := by decide +kernel
theorem dX0_init_54 : decode cX0_init 54 = .ok (.newarray .int, 2) := by decide +kernel
theorem dX0_init_56 : decode cX0_init 56 = .ok (.putfield 30, 3) := by decide +kernel
theorem dX0_init_59 : decode cX0_init 59 = .ok (.aload_n 0, 1) := by decide +kernel
theorem dX0_init_60 : decode cX0_init 60 = .ok (.iconst 0, 1) := by decide +kernel
theorem dX0_init_61 : decode cX0_init 61 = .ok (.putfield 33, 3) := by decide +kernel
theorem dX0_init_64 : decode cX0_init 64 = .ok (.aload_n 0, 1) := by decide +kernel
theorem dX0_init_65 : decode cX0_init 65 = .ok (.iconst 0, 1) := by decide +kernel
theorem dX0_init_66 : decode cX0_init 66 = .ok (.putfield 37, 3) := by decide +kernel
theorem dX0_init_69 : decode cX0_init 69 = .ok (.iconst 1, 1) := by decide +kernel
theorem dX0_init_70 : decode cX0_init 70 = .ok (.istore_n 1, 1) := by decide +kernel
theorem dX0_init_71 : decode cX0_init 71 = .ok (.iload_n 1, 1) := by decide +kernel
theorem dX0_init_72 : decode cX0_init 72 = .ok (.iconst 3, 1) := by decide +kernel
theorem dX0_init_73 : decode cX0_init 73 = .ok (.if_icmp .gt 25, 3) := by decide +kernel
theorem dX0_init_76 : decode cX0_init 76 = .ok (.iload_n 1, 1) := by decide +kernel
theorem dX0_init_77 : decode cX0_init 77 = .ok (.aload_n 0, 1) := by decide +kernel
theorem dX0_init_78 : decode cX0_init 78 = .ok (.getfield 30, 3) := by decide +kernel
theorem dX0_init_81 : decode cX0_init 81 = .ok (.arraylength, 1) := by decide +kernel
theorem dX0_init_82 : decode cX0_init 82 = .ok (.if_icmp .ge 16, 3) := by decide +kernel
theorem dX0_init_85 : decode cX0_init 85 = .ok (.aload_n 0, 1) := by decide +kernel
theorem dX0_init_86 : decode cX0_init 86 = .ok (.getfield 30, 3) := by decide +kernel
theorem dX0_init_89 : decode cX0_init 89 = .ok (.iload_n 1, 1) := by decide +kernel
theorem dX0_init_90 : decode cX0_init 90 = .ok (.iconst 3, 1) := by decide +kernel
theorem dX0_init_91 : decode cX0_init 91 = .ok (.iastore, 1) := by decide +kernel
theorem dX0_init_92 : decode cX0_init 92 = .ok (.iinc 1 1, 3) := by decide +kernel
theorem dX0_init_95 : decode cX0_init 95 = .ok (.goto (-24), 3) := by decide +kernel
theorem dX0_init_98 : decode cX0_init 98 = .ok (.return_, 1) := by decide +kernel
theorem dX1_init_0 : decode cX1_init 0 = .ok (.aload_n 0, 1) := by decide +kernel
theorem dX1_init_1 : decode cX1_init 1 = .ok (.invokespecial 3, 3) := by decide +kernel
theorem dX1_init_4 : decode cX1_init 4 = .ok (.aload_n 0, 1) := by decide +kernel
theorem dX1_init_5 : decode cX1_init 5 = .ok (.bipush 30, 2) := by decide +kernel
theorem dX1_init_7 : decode cX1_init 7 = .ok (.newarray .int, 2) := by decide +kernel
theorem dX1_init_9 : decode cX1_init 9 = .ok (.putfield 9, 3) := by decide +kernel
theorem dX1_init_12 : decode cX1_init 12 = .ok (.aload_n 0, 1) := by decide +kernel
theorem dX1_init_13 : decode cX1_init 13 = .ok (.bipush 30, 2) := by decide +kernel
theorem dX1_init_15 : decode cX1_init 15 = .ok (.newarray .int, 2) := by decide +kernel
theorem dX1_init_17 : decode cX1_init 17 = .ok (.putfield 15, 3) := by decide +kernel
theorem dX1_init_20 : decode cX1_init 20 = .ok (.aload_n 0, 1) := by decide +kernel
theorem dX1_init_21 : decode cX1_init 21 = .ok (.bipush 30, 2) := by decide +kernel
theorem dX1_init_23 : decode cX1_init 23 = .ok (.newarray .int, 2) := by decide +kernel
theorem dX1_init_25 : decode cX1_init 25 = .ok (.putfield 18, 3) := by decide +kernel
theorem dX1_init_28 : decode cX1_init 28 = .ok (.aload_n 0, 1) := by decide +kernel
theorem dX1_init_29 : decode cX1_init 29 = .ok (.bipush 30, 2) := by decide +kernel
theorem dX1_init_31 : decode cX1_init 31 = .ok (.newarray .int, 2) := by decide +kernel
theorem dX1_init_33 : decode cX1_init 33 = .ok (.putfield 21, 3) := by decide +kernel
theorem dX1_init_36 : decode cX1_init 36 = .ok (.aload_n 0, 1) := by decide +kernel
theorem dX1_init_37 : decode cX1_init 37 = .ok (.bipush 30, 2) := by decide +kernel
theorem dX1_init_39 : decode cX1_init 39 = .ok (.newarray .int, 2) := by decide +kernel
theorem dX1_init_41 : decode cX1_init 41 = .ok (.putfield 24, 3) := by decide +kernel
theorem dX1_init_44 : decode cX1_init 44 = .ok (.aload_n 0, 1) := by decide +kernel
theorem dX1_init_45 : decode cX1_init 45 = .ok (.iconst 0, 1) := by decide +kernel
theorem dX1_init_46 : decode cX1_init 46 = .ok (.putfield 27, 3) := by decide +kernel
theorem dX1_init_49 : decode cX1_init 49 = .ok (.aload_n 0, 1) := by decide +kernel
theorem dX1_init_50 : decode cX1_init 50 = .ok (.iconst 0, 1) := by decide +kernel
theorem dX1_init_51 : decode cX1_init 51 = .ok (.putfield 31, 3) := by decide +kernel
theorem dX1_init_54 : decode cX1_init 54 = .ok (.aload_n 0, 1) := by decide +kernel
theorem dX1_init_55 : decode cX1_init 55 = .ok (.iconst 0, 1) := by decide +kernel
theorem dX1_init_56 : decode cX1_init 56 = .ok (.putfield 34, 3) := by decide +kernel
theorem dX1_init_59 : decode cX1_init 59 = .ok (.aload_n 0, 1) := by decide +kernel
theorem dX1_init_60 : decode cX1_init 60 = .ok (.iconst 0, 1) := by decide +kernel
theorem dX1_init_61 : decode cX1_init 61 = .ok (.putfield 37, 3) := by decide +kernel
theorem dX1_init_64 : decode cX1_init 64 = .ok (.aload_n 0, 1) := by decide +kernel
theorem dX1_init_65 : decode cX1_init 65 = .ok (.iconst 0, 1) := by decide +kernel
theorem dX1_init_66 : decode cX1_init 66 = .ok (.putfield 40, 3) := by decide +kernel
theorem dX1_init_69 : decode cX1_init 69 = .ok (.aload_n 0, 1) := by decide +kernel
theorem dX1_init_70 : decode cX1_init 70 = .ok (.iconst 0, 1) := by decide +kernel
theorem dX1_init_71 : decode cX1_init 71 = .ok (.putfield 43, 3) := by decide +kernel
theorem dX1_init_74 : decode cX1_init 74 = .ok (.return_, 1) := by decide +kernel
theorem ggX2_init_X0_init : GoodIn wsX2_init wsX0_init := goodIn_r _ [15, 16, 2, 3, 17, 18, 19, 20, 21, 22, 23, 24, 25, 26, 41, 42, 43, 44, 45, 46, 47, 48, 49] (by decide +kernel) (by decide +kernel)
theorem ggX2_init_X1_init : GoodIn wsX2_init wsX1_init := goodIn_r _ [28, 29, 2, 3, 17, 30, 31, 32, 33, 34, 35, 36, 37, 38, 39, 40, 53, 54, 55, 56, 57, 58, 59, 60, 61, 62, 63] (by decide +kernel) (by decide +kernel)
theorem dX2_init_0 : decode cX2_init 0 = .ok (.aload_n 0, 1) := by decide +kernel
theorem dX2_init_1 : decode cX2_init 1 = .ok (.invokespecial 1, 3) := by decide +kernel
theorem dX2_init_4 : decode cX2_init 4 = .ok (.aload_n 0, 1) := by decide +kernel
theorem dX2_init_5 : decode cX2_init 5 = .ok (.new 7, 3) := by decide +kernel
theorem dX2_init_8 : decode cX2_init 8 = .ok (.dup, 1) := by decide +kernel
theorem dX2_init_9 : decode cX2_init 9 = .ok (.invokespecial 9, 3) := by decide +kernel
theorem dX2_init_12 : decode cX2_init 12 = .ok (.putfield 10, 3) := by decide +kernel
theorem dX2_init_15 : decode cX2_init 15 = .ok (.aload_n 0, 1) := by decide +kernel
theorem dX2_init_16 : decode cX2_init 16 = .ok (.new 16, 3) := by decide +kernel
theorem dX2_init_19 : decode cX2_init 19 = .ok (.dup, 1) := by decide +kernel
theorem dX2_init_20 : decode cX2_init 20 = .ok (.invokespecial 18, 3) := by decide +kernel
theorem dX2_init_23 : decode cX2_init 23 = .ok (.putfield 19, 3) := by decide +kernel
theorem dX2_init_26 : decode cX2_init 26 = .ok (.aload_n 0, 1) := by decide +kernel
theorem dX2_init_27 : decode cX2_init 27 = .ok (.iconst 0, 1) := by decide +kernel
theorem dX2_init_28 : decode cX2_init 28 = .ok (.putfield 23, 3) := by decide +kernel
theorem dX2_init_31 : decode cX2_init 31 = .ok (.return_, 1) := by decide +kernel
theorem dX3_init_0 : decode cX3_init 0 = .ok (.aload_n 0, 1) := by decide +kernel
theorem dX3_init_1 : decode cX3_init 1 = .ok (.invokespecial 1, 3) := by decide +kernel
theorem dX3_init_4 : decode cX3_init 4 = .ok (.aload_n 0, 1) := by decide +kernel
theorem dX3_init_5 : decode cX3_init 5 = .ok (.bipush 20, 2) := by decide +kernel
theorem dX3_init_7 : decode cX3_init 7 = .ok (.newarray .int, 2) := by decide +kernel
theorem dX3_init_9 : decode cX3_init 9 = .ok (.putfield 7, 3) := by decide +kernel
theorem dX3_init_12 : decode cX3_init 12 = .ok (.aload_n 0, 1) := by decide +kernel
theorem dX3_init_13 : decode cX3_init 13 = .ok (.bipush 20, 2) := by decide +kernel
theorem dX3_init_15 : decode cX3_init 15 = .ok (.newarray .int, 2) := by decide +kernel
theorem dX3_init_17 : decode cX3_init 17 = .ok (.putfield 13, 3) := by decide +kernel
theorem dX3_init_20 : decode cX3_init 20 = .ok (.aload_n 0, 1) := by decide +kernel
theorem dX3_init_21 : decode cX3_init 21 = .ok (.bipush 20, 2) := by decide +kernel
theorem dX3_init_23 : decode cX3_init 23 = .ok (.newarray .int, 2) := by decide +kernel
theorem dX3_init_25 : decode cX3_init 25 = .ok (.putfield 16, 3) := by decide +kernel
theorem dX3_init_28 : decode cX3_init 28 = .ok (.aload_n 0, 1) := by decide +kernel
theorem dX3_init_29 : decode cX3_init 29 = .ok (.bipush 20, 2) := by decide +kernel
theorem dX3_init_31 : decode cX3_init 31 = .ok (.newarray .int, 2) := by decide +kernel
theorem dX3_init_33 : decode cX3_init 33 = .ok (.putfield 19, 3) := by decide +kernel
theorem dX3_init_36 : decode cX3_init 36 = .ok (.aload_n 0, 1) := by decide +kernel
theorem dX3_init_37 : decode cX3_init 37 = .ok (.bipush 20, 2) := by decide +kernel
theorem dX3_init_39 : decode cX3_init 39 = .ok (.newarray .int, 2) := by decide +kernel
theorem dX3_init_41 : decode cX3_init 41 = .ok (.putfield 22, 3) := by decide +kernel
theorem dX3_init_44 : decode cX3_init 44 = .ok (.aload_n 0, 1) := by decide +kernel
theorem dX3_init_45 : decode cX3_init 45 = .ok (.sipush 600, 3) := by decide +kernel
theorem dX3_init_48 : decode cX3_init 48 = .ok (.newarray .boolean, 2) := by decide +kernel
theorem dX3_init_50 : decode cX3_init 50 = .ok (.putfield 25, 3) := by decide +kernel
theorem dX3_init_53 : decode cX3_init 53 = .ok (.aload_n 0, 1) := by decide +kernel
theorem dX3_init_54 : decode cX3_init 54 = .ok (.iconst 4, 1) := by decide +kernel
theorem dX3_init_55 : decode cX3_init 55 = .ok (.newarray .int, 2) := by decide +kernel
theorem dX3_init_57 : decode cX3_init 57 = .ok (.putfield 29, 3) := by decide +kernel
theorem dX3_init_60 : decode cX3_init 60 = .ok (.aload_n 0, 1) := by decide +kernel
theorem dX3_init_61 : decode cX3_init 61 = .ok (.bipush 30, 2) := by decide +kernel
theorem dX3_init_63 : decode cX3_init 63 = .ok (.newarray .int, 2) := by decide +kernel
theorem dX3_init_65 : decode cX3_init 65 = .ok (.putfield 32, 3) := by decide +kernel
theorem dX3_init_68 : decode cX3_init 68 = .ok (.aload_n 0, 1) := by decide +kernel
theorem dX3_init_69 : decode cX3_init 69 = .ok (.bipush 30, 2) := by decide +kernel
theorem dX3_init_71 : decode cX3_init 71 = .ok (.newarray .int, 2) := by decide +kernel
theorem dX3_init_73 : decode cX3_init 73 = .ok (.putfield 35, 3) := by decide +kernel
theorem dX3_init_76 : decode cX3_init 76 = .ok (.aload_n 0, 1) := by decide +kernel
theorem dX3_init_77 : decode cX3_init 77 = .ok (.bipush 30, 2) := by decide +kernel
theorem dX3_init_79 : decode cX3_init 79 = .ok (.newarray .boolean, 2) := by decide +kernel
theorem dX3_init_81 : decode cX3_init 81 = .ok (.putfield 38, 3) := by decide +kernel
theorem dX3_init_84 : decode cX3_init 84 = .ok (.aload_n 0, 1) := by decide +kernel
theorem dX3_init_85 : decode cX3_init 85 = .ok (.sipush 900, 3) := by decide +kernel
theorem dX3_init_88 : decode cX3_init 88 = .ok (.newarray .boolean, 2) := by decide +kernel
theorem dX3_init_90 : decode cX3_init 90 = .ok (.putfield 41, 3) := by decide +kernel
theorem dX3_init_93 : decode cX3_init 93 = .ok (.aload_n 0, 1) := by decide +kernel
theorem dX3_init_94 : decode cX3_init 94 = .ok (.sipush 900, 3) := by decide +kernel
theorem dX3_init_97 : decode cX3_init 97 = .ok (.newarray .boolean, 2) := by decide +kernel
theorem dX3_init_99 : decode cX3_init 99 = .ok (.putfield 44, 3) := by decide +kernel
theorem dX3_init_102 : decode cX3_init 102 = .ok (.aload_n 0, 1) := by decide +kernel
theorem dX3_init_103 : decode cX3_init 103 = .ok (.bipush 30, 2) := by decide +kernel
theorem dX3_init_105 : decode cX3_init 105 = .ok (.newarray .int, 2) := by decide +kernel
theorem dX3_init_107 : decode cX3_init 107 = .ok (.putfield 47, 3) := by decide +kernel
theorem dX3_init_110 : decode cX3_init 110 = .ok (.aload_n 0, 1) := by decide +kernel
theorem dX3_init_111 : decode cX3_init 111 = .ok (.bipush 30, 2) := by decide +kernel
theorem dX3_init_113 : decode cX3_init 113 = .ok (.newarray .boolean, 2) := by decide +kernel
theorem dX3_init_115 : decode cX3_init 115 = .ok (.putfield 50, 3) := by decide +kernel
theorem dX3_init_118 : decode cX3_init 118 = .ok (.aload_n 0, 1) := by decide +kernel
theorem dX3_init_119 : decode cX3_init 119 = .ok (.bipush 20, 2) := by decide +kernel
theorem dX3_init_121 : decode cX3_init 121 = .ok (.newarray .int, 2) := by decide +kernel
theorem dX3_init_123 : decode cX3_init 123 = .ok (.putfield 53, 3) := by decide +kernel
theorem dX3_init_126 : decode cX3_init 126 = .ok (.aload_n 0, 1) := by decide +kernel
theorem dX3_init_127 : decode cX3_init 127 = .ok (.bipush 20, 2) := by decide +kernel
theorem dX3_init_129 : decode cX3_init 129 = .ok (.newarray .int, 2) := by decide +kernel
theorem dX3_init_131 : decode cX3_init 131 = .ok (.putfield 56, 3) := by decide +kernel
theorem dX3_init_134 : decode cX3_init 134 = .ok (.iconst 1, 1) := by decide +kernel
theorem dX3_init_135 : decode cX3_init 135 = .ok (.istore_n 1, 1) := by decide +kernel
theorem dX3_init_136 : decode cX3_init 136 = .ok (.iload_n 1, 1) := by decide +kernel
theorem dX3_init_137 : decode cX3_init 137 = .ok (.iconst 3, 1) := by decide +kernel
theorem dX3_init_138 : decode cX3_init 138 = .ok (.if_icmp .gt 16, 3) := by decide +kernel
theorem dX3_init_141 : decode cX3_init 141 = .ok (.aload_n 0, 1) := by decide +kernel
theorem dX3_init_142 : decode cX3_init 142 = .ok (.getfield 29, 3) := by decide +kernel
theorem dX3_init_145 : decode cX3_init 145 = .ok (.iload_n 1, 1) := by decide +kernel
theorem dX3_init_146 : decode cX3_init 146 = .ok (.iconst 3, 1) := by decide +kernel
theorem dX3_init_147 : decode cX3_init 147 = .ok (.iastore, 1) := by decide +kernel
theorem dX3_init_148 : decode cX3_init 148 = .ok (.iinc 1 1, 3) := by decide +kernel
theorem dX3_init_151 : decode cX3_init 151 = .ok (.goto (-15), 3) := by decide +kernel
theorem dX3_init_154 : decode cX3_init 154 = .ok (.return_, 1) := by decide +kernel
theorem dL_law_0 : decode cL_law 0 = .ok (.new 8, 3) := by decide +kernel
theorem dL_law_3 : decode cL_law 3 = .ok (.dup, 1) := by decide +kernel
theorem dL_law_4 : decode cL_law 4 = .ok (.invokespecial 97, 3) := by decide +kernel
theorem dL_law_7 : decode cL_law 7 = .ok (.astore_n 1, 1) := by decide +kernel
theorem dL_law_8 : decode cL_law 8 = .ok (.new 98, 3) := by decide +kernel
theorem dL_law_11 : decode cL_law 11 = .ok (.dup, 1) := by decide +kernel
theorem dL_law_12 : decode cL_law 12 = .ok (.invokespecial 100, 3) := by decide +kernel
theorem dL_law_15 : decode cL_law 15 = .ok (.astore_n 2, 1) := by decide +kernel
theorem dL_law_16 : decode cL_law 16 = .ok (.iconst 1, 1) := by decide +kernel
theorem dL_law_17 : decode cL_law 17 = .ok (.newarray .long, 2) := by decide +kernel
theorem dL_law_19 : decode cL_law 19 = .ok (.astore_n 3, 1) := by decide +kernel
theorem dL_law_20 : decode cL_law 20 = .ok (.iconst 0, 1) := by decide +kernel
theorem dL_law_21 : decode cL_law 21 = .ok (.istore 4, 2) := by decide +kernel
section XN
variable {p : Program} {l : Launch} {e : Env} {R : Room} {s : State} {m : MethodId} {args : Array Value} {below : List Frame} {meth : Method} {c : Code} {H H0 : Heap} {locs : List Loc} {cells slots : Nat}
variable {Q : State → Prop} {cc : ByteArray} {pc : Nat} {ls : Array Slot} {rest : List Value} {D : va_G} {cl : List vw_C} {ws : va_W} {A : Nat → Prop}
/-- a new array whose class is known -/
theorem xn_newa (hexec : p.tables.exec = Jvm.exec) (hb : c.code = cc) {atype : ArrayType} (harr : (Cond.arrayClass (newarray.typeOf atype)).before args s = true) {cA : ClassId} (hun : s.vm.findClass ("[" ++ (newarray.typeOf atype).toString) = some cA) (hP : va_P D cl ws H) (hD : va_D A ws) (hS : va_S A H0 H locs) (hA : ∀ q, H0.size ≤ q → A q)
    {n : Int32} {N' : Nat} {a0 : vp_A} (ha : vp_cell cA a0 = arrV cA N' (fun _ => defaultValue (newarray.typeOf atype))) (hn : ¬ n < 0) (hN : n.toNatClampNeg = N') (hbytes : N' * componentBytes (newarray.typeOf atype) ≤ 536870912) (hcells : cells + 1 ≤ R.cells) (hslots : slots + N' ≤ R.slots) (hdg : decode cc pc = .ok (.newarray atype, 2))
    (kk : ∀ (q : Nat) (H1 : Heap), va_P D cl (ws ++ [(q, .inl (cA, a0))]) H1 → va_D A (ws ++ [(q, .inl (cA, a0))]) → va_S A H0 H1 locs →
      W p l e R s m args below meth c H1 locs (cells + 1) (slots + N') Q (F0 m (pc + 2) ls (.ref q :: rest))) : W p l e R s m args below meth c H locs cells slots Q (F0 m pc ls (.int n :: rest)) := by
  refine va_newaK hexec hb harr rfl hdg rfl hn hN hbytes hcells hslots rfl fun H1 cA1 e1 z1 o1 hAr hNm => ?_
  have e9 : cA1 = cA := Option.some.inj (hNm.symm.trans hun)
  subst e9
  have hk : ∀ (k : Nat) (x : Nat × va_E), ws[k]? = some x → H1[x.1]? = H[x.1]? := fun k x hx => o1 x.1 ((hP k x hx).lt)
  refine kk H.size H1 ((hP.kept hk).app (fun k x hx => ?_)) (hD.push hP rfl (hA _ hS.1)) ⟨Nat.le_trans hS.1 (by omega), fun x h1 h2 => (o1 x (Nat.lt_of_lt_of_le h1 hS.1)).trans (hS.2.1 x h1 h2), hS.2.2⟩
  have hz : k < 1 := (List.getElem?_eq_some_iff.mp hx).1
  rw [show k = 0 by omega] at hx
  cases hx
  show H1[H.size]? = some (vp_cell _ _)
  rw [ha]
  exact e1
end XN
section IN
def ce_X0 (tg : Nat → ClassId) (h0 : Nat) (u : Nat → Nat) : va_W := [(h0, .inr (1, [.ref (u 0), .ref (u 1), .ref (u 2), .ref (u 3), .ref (u 4), .ref (u 5), .ref (u 6), .int 0, .int 0])), ((u 0), .inl (tg 0, 20, .inl (fun _ => 0))), ((u 1), .inl (tg 0, 20, .inl (fun _ => 0))), ((u 2), .inl (tg 0, 20, .inl (fun _ => 0))), ((u 3), .inl (tg 0, 20, .inl (fun _ => 0))), ((u 4), .inl (tg 0, 20, .inl (fun _ => 0))), ((u 5), .inl (tg 0, 20, .inl (fun _ => 0))), ((u 6), .inl (tg 0, 5, .inl (upd (upd (upd (fun _ => 0) (1 : Int32).toNatClampNeg 3) (2 : Int32).toNatClampNeg 3) (3 : Int32).toNatClampNeg 3)))]
set_option maxHeartbeats 4000000 in
set_option maxRecDepth 100000 in
theorem i_X0 (l : Launch) (D : va_G) (tg : Nat → ClassId) (h0 sz : Nat) : Met l yX0_init wsX0_init ({ frames := 2, cells := 7, slots := 125, locals := 32 }) (va_Pc [.ref h0] (fun U => U.heap.size = sz ∧ va_P D vwCl [(h0, .inr (1, [.null, .null, .null, .null, .null, .null, .null, .int 0, .int 0]))] U.heap ∧ va_K D vwCl (xtys tg) U ∧ va_D (fun _ => True) [(h0, .inr (1, [.null, .null, .null, .null, .null, .null, .null, .int 0, .int 0]))])) (va_Qv (fun _ : Nat → Nat => True) (fun u t => va_P D vwCl (ce_X0 tg h0 u) t.heap ∧ va_K D vwCl (xtys tg) t ∧ va_D (va_A [(h0, .inr (1, [.null, .null, .null, .null, .null, .null, .null, .int 0, .int 0]))] sz) (ce_X0 tg h0 u)) (va_A [(h0, .inr (1, [.null, .null, .null, .null, .null, .null, .null, .int 0, .int 0]))] sz)) 7 125 (va_A [(h0, .inr (1, [.null, .null, .null, .null, .null, .null, .null, .int 0, .int 0]))] sz) := by
  refine Met.ofW (cc := cX0_init) (maxL := 2) (ret := none) (by decide) rfl ?_
  intro p e s m args below meth c s₁ B hml hv
  obtain ⟨rfl, hsz, hP, hK, hD0⟩ := hv
  have hx := B.exec
  have hb := B.bytes
  have hr := B.returns
  have hts := atoms_spec (ws := wsX0_init) B.pre
  have hown : s.vm.findClass RX0 = some m.cls := findClass_of_methodNamed B.named
  have hin : meth.name = "<init>" := (name_of_methodNamed B.named B.method).1
  subst hsz
  have hD := hD0.self (sz := s.heap.size)
  generalize hAe : va_A [(h0, .inr (1, [.null, .null, .null, .null, .null, .null, .null, .int 0, .int 0]))] s.heap.size = A at hD ⊢
  have hA : ∀ q : Nat, s.heap.size ≤ q → A q := fun q h => by rw [← hAe]; exact Or.inr h
  have hS : va_S A s.heap s.heap [] := va_S.rf
  have hP : va_P D vwCl [(h0, .inr (1, [.null, .null, .null, .null, .null, .null, .null, .int 0, .int 0]))] s.heap := hP
  have hl := lv_entry ([.ref h0]) (n := 2) (Nat.le_of_ble_eq_true rfl)
  rw [lg_entry_eq]
  generalize (lg_sl ([.ref h0]) ++ List.replicate (2 - (lg_sl ([.ref h0])).length) Slot.unset).toArray = ls at hl ⊢
  have hl : lv_has ls 2 [(0, .ref h0)] := hl
  refine lv_aload_n hx hb dX0_init_0 rfl (lv_at hl 0 rfl) ?_
  refine W.objInit hx hb hown (hts (.methodLink RX0 3 objectInit) (by decide +kernel)) (hts (.instanceMethod objectInit) (by decide +kernel)) (hts (.code objectInit ⟨#[0xb1]⟩ 1 none) (by decide +kernel)) rfl (by rw [hml]; exact hl.1) rfl dX0_init_1 (Nat.le_of_ble_eq_true rfl) (Nat.le_of_ble_eq_true rfl) ?_
  refine W.eq (g2 := F0 m 4 ls []) rfl ?_
  refine lv_aload_n hx hb dX0_init_4 rfl (lv_at hl 0 rfl) ?_
  refine lv_bipush (v := 20) hx hb dX0_init_5 (by decide) ?_
  refine xn_newa (atype := .int) (a0 := (20, .inl (fun _ => 0))) hx hb (hts (.arrayClass .int) (by decide +kernel)) (hK.2 0 _ rfl).2 hP hD hS hA rfl (by decide) (by decide) (Nat.le_of_ble_eq_true rfl) (Nat.le_of_ble_eq_true rfl) (Nat.le_of_ble_eq_true rfl) dX0_init_7 (fun a0 H hP hD hS => ?_)
  have hP : va_P D vwCl [(h0, .inr (1, [.null, .null, .null, .null, .null, .null, .null, .int 0, .int 0])), (a0, .inl (tg 0, 20, .inl (fun _ => 0)))] H := hP
  have hD : va_D A [(h0, .inr (1, [.null, .null, .null, .null, .null, .null, .null, .int 0, .int 0])), (a0, .inl (tg 0, 20, .inl (fun _ => 0)))] := hD
  refine W.widen (k := 1) (n := 20) (Nat.le_of_ble_eq_true rfl) (Nat.le_of_ble_eq_true rfl) ?_
  refine va_putF (D := D) (ci := 1) (v := .ref a0) (ty := .array .int) (C := RX0) (T := TX0) (N := 9) hx hb hts (by decide +kernel) tyX0 tyX0_ok nmX0 hown hK hP hD hS 0 rfl rfl 0 (by decide) (hts (.fieldLink RX0 9 "Cardgate$Board" "ranks" "[I") (by decide +kernel)) (fun _ h9 => h9) rfl hin rfl (by decide +kernel) rfl rfl (Nat.le_of_ble_eq_true rfl) dX0_init_9 (fun H locs hP hD hS => ?_)
  have hP : va_P D vwCl [(h0, .inr (1, [.ref a0, .null, .null, .null, .null, .null, .null, .int 0, .int 0])), (a0, .inl (tg 0, 20, .inl (fun _ => 0)))] H := hP
  have hD : va_D A [(h0, .inr (1, [.ref a0, .null, .null, .null, .null, .null, .null, .int 0, .int 0])), (a0, .inl (tg 0, 20, .inl (fun _ => 0)))] := hD
  refine lv_aload_n hx hb dX0_init_12 rfl (lv_at hl 0 rfl) ?_
  refine lv_bipush (v := 20) hx hb dX0_init_13 (by decide) ?_
  refine xn_newa (atype := .int) (a0 := (20, .inl (fun _ => 0))) hx hb (hts (.arrayClass .int) (by decide +kernel)) (hK.2 0 _ rfl).2 hP hD hS hA rfl (by decide) (by decide) (Nat.le_of_ble_eq_true rfl) (Nat.le_of_ble_eq_true rfl) (Nat.le_of_ble_eq_true rfl) dX0_init_15 (fun a1 H hP hD hS => ?_)
  have hP : va_P D vwCl [(h0, .inr (1, [.ref a0, .null, .null, .null, .null, .null, .null, .int 0, .int 0])), (a0, .inl (tg 0, 20, .inl (fun _ => 0))), (a1, .inl (tg 0, 20, .inl (fun _ => 0)))] H := hP
  have hD : va_D A [(h0, .inr (1, [.ref a0, .null, .null, .null, .null, .null, .null, .int 0, .int 0])), (a0, .inl (tg 0, 20, .inl (fun _ => 0))), (a1, .inl (tg 0, 20, .inl (fun _ => 0)))] := hD
  refine W.widen (k := 2) (n := 40) (Nat.le_of_ble_eq_true rfl) (Nat.le_of_ble_eq_true rfl) ?_
  refine va_putF (D := D) (ci := 1) (v := .ref a1) (ty := .array .int) (C := RX0) (T := TX0) (N := 9) hx hb hts (by decide +kernel) tyX0 tyX0_ok nmX0 hown hK hP hD hS 0 rfl rfl 1 (by decide) (hts (.fieldLink RX0 15 "Cardgate$Board" "columns" "[I") (by decide +kernel)) (fun _ h9 => h9) rfl hin rfl (by decide +kernel) rfl rfl (Nat.le_of_ble_eq_true rfl) dX0_init_17 (fun H locs hP hD hS => ?_)
  have hP : va_P D vwCl [(h0, .inr (1, [.ref a0, .ref a1, .null, .null, .null, .null, .null, .int 0, .int 0])), (a0, .inl (tg 0, 20, .inl (fun _ => 0))), (a1, .inl (tg 0, 20, .inl (fun _ => 0)))] H := hP
  have hD : va_D A [(h0, .inr (1, [.ref a0, .ref a1, .null, .null, .null, .null, .null, .int 0, .int 0])), (a0, .inl (tg 0, 20, .inl (fun _ => 0))), (a1, .inl (tg 0, 20, .inl (fun _ => 0)))] := hD
  refine lv_aload_n hx hb dX0_init_20 rfl (lv_at hl 0 rfl) ?_
  refine lv_bipush (v := 20) hx hb dX0_init_21 (by decide) ?_
  refine xn_newa (atype := .int) (a0 := (20, .inl (fun _ => 0))) hx hb (hts (.arrayClass .int) (by decide +kernel)) (hK.2 0 _ rfl).2 hP hD hS hA rfl (by decide) (by decide) (Nat.le_of_ble_eq_true rfl) (Nat.le_of_ble_eq_true rfl) (Nat.le_of_ble_eq_true rfl) dX0_init_23 (fun a2 H hP hD hS => ?_)
  have hP : va_P D vwCl [(h0, .inr (1, [.ref a0, .ref a1, .null, .null, .null, .null, .null, .int 0, .int 0])), (a0, .inl (tg 0, 20, .inl (fun _ => 0))), (a1, .inl (tg 0, 20, .inl (fun _ => 0))), (a2, .inl (tg 0, 20, .inl (fun _ => 0)))] H := hP
  have hD : va_D A [(h0, .inr (1, [.ref a0, .ref a1, .null, .null, .null, .null, .null, .int 0, .int 0])), (a0, .inl (tg 0, 20, .inl (fun _ => 0))), (a1, .inl (tg 0, 20, .inl (fun _ => 0))), (a2, .inl (tg 0, 20, .inl (fun _ => 0)))] := hD
  refine W.widen (k := 3) (n := 60) (Nat.le_of_ble_eq_true rfl) (Nat.le_of_ble_eq_true rfl) ?_
  refine va_putF (D := D) (ci := 1) (v := .ref a2) (ty := .array .int) (C := RX0) (T := TX0) (N := 9) hx hb hts (by decide +kernel) tyX0 tyX0_ok nmX0 hown hK hP hD hS 0 rfl rfl 2 (by decide) (hts (.fieldLink RX0 18 "Cardgate$Board" "arrivals" "[I") (by decide +kernel)) (fun _ h9 => h9) rfl hin rfl (by decide +kernel) rfl rfl (Nat.le_of_ble_eq_true rfl) dX0_init_25 (fun H locs hP hD hS => ?_)
  have hP : va_P D vwCl [(h0, .inr (1, [.ref a0, .ref a1, .ref a2, .null, .null, .null, .null, .int 0, .int 0])), (a0, .inl (tg 0, 20, .inl (fun _ => 0))), (a1, .inl (tg 0, 20, .inl (fun _ => 0))), (a2, .inl (tg 0, 20, .inl (fun _ => 0)))] H := hP
  have hD : va_D A [(h0, .inr (1, [.ref a0, .ref a1, .ref a2, .null, .null, .null, .null, .int 0, .int 0])), (a0, .inl (tg 0, 20, .inl (fun _ => 0))), (a1, .inl (tg 0, 20, .inl (fun _ => 0))), (a2, .inl (tg 0, 20, .inl (fun _ => 0)))] := hD
  refine lv_aload_n hx hb dX0_init_28 rfl (lv_at hl 0 rfl) ?_
  refine lv_bipush (v := 20) hx hb dX0_init_29 (by decide) ?_
  refine xn_newa (atype := .int) (a0 := (20, .inl (fun _ => 0))) hx hb (hts (.arrayClass .int) (by decide +kernel)) (hK.2 0 _ rfl).2 hP hD hS hA rfl (by decide) (by decide) (Nat.le_of_ble_eq_true rfl) (Nat.le_of_ble_eq_true rfl) (Nat.le_of_ble_eq_true rfl) dX0_init_31 (fun a3 H hP hD hS => ?_)
  have hP : va_P D vwCl [(h0, .inr (1, [.ref a0, .ref a1, .ref a2, .null, .null, .null, .null, .int 0, .int 0])), (a0, .inl (tg 0, 20, .inl (fun _ => 0))), (a1, .inl (tg 0, 20, .inl (fun _ => 0))), (a2, .inl (tg 0, 20, .inl (fun _ => 0))), (a3, .inl (tg 0, 20, .inl (fun _ => 0)))] H := hP
  have hD : va_D A [(h0, .inr (1, [.ref a0, .ref a1, .ref a2, .null, .null, .null, .null, .int 0, .int 0])), (a0, .inl (tg 0, 20, .inl (fun _ => 0))), (a1, .inl (tg 0, 20, .inl (fun _ => 0))), (a2, .inl (tg 0, 20, .inl (fun _ => 0))), (a3, .inl (tg 0, 20, .inl (fun _ => 0)))] := hD
  refine W.widen (k := 4) (n := 80) (Nat.le_of_ble_eq_true rfl) (Nat.le_of_ble_eq_true rfl) ?_
  refine va_putF (D := D) (ci := 1) (v := .ref a3) (ty := .array .int) (C := RX0) (T := TX0) (N := 9) hx hb hts (by decide +kernel) tyX0 tyX0_ok nmX0 hown hK hP hD hS 0 rfl rfl 3 (by decide) (hts (.fieldLink RX0 21 "Cardgate$Board" "names" "[I") (by decide +kernel)) (fun _ h9 => h9) rfl hin rfl (by decide +kernel) rfl rfl (Nat.le_of_ble_eq_true rfl) dX0_init_33 (fun H locs hP hD hS => ?_)
  have hP : va_P D vwCl [(h0, .inr (1, [.ref a0, .ref a1, .ref a2, .ref a3, .null, .null, .null, .int 0, .int 0])), (a0, .inl (tg 0, 20, .inl (fun _ => 0))), (a1, .inl (tg 0, 20, .inl (fun _ => 0))), (a2, .inl (tg 0, 20, .inl (fun _ => 0))), (a3, .inl (tg 0, 20, .inl (fun _ => 0)))] H := hP
  have hD : va_D A [(h0, .inr (1, [.ref a0, .ref a1, .ref a2, .ref a3, .null, .null, .null, .int 0, .int 0])), (a0, .inl (tg 0, 20, .inl (fun _ => 0))), (a1, .inl (tg 0, 20, .inl (fun _ => 0))), (a2, .inl (tg 0, 20, .inl (fun _ => 0))), (a3, .inl (tg 0, 20, .inl (fun _ => 0)))] := hD
  refine lv_aload_n hx hb dX0_init_36 rfl (lv_at hl 0 rfl) ?_
  refine lv_bipush (v := 20) hx hb dX0_init_37 (by decide) ?_
  refine xn_newa (atype := .int) (a0 := (20, .inl (fun _ => 0))) hx hb (hts (.arrayClass .int) (by decide +kernel)) (hK.2 0 _ rfl).2 hP hD hS hA rfl (by decide) (by decide) (Nat.le_of_ble_eq_true rfl) (Nat.le_of_ble_eq_true rfl) (Nat.le_of_ble_eq_true rfl) dX0_init_39 (fun a4 H hP hD hS => ?_)
  have hP : va_P D vwCl [(h0, .inr (1, [.ref a0, .ref a1, .ref a2, .ref a3, .null, .null, .null, .int 0, .int 0])), (a0, .inl (tg 0, 20, .inl (fun _ => 0))), (a1, .inl (tg 0, 20, .inl (fun _ => 0))), (a2, .inl (tg 0, 20, .inl (fun _ => 0))), (a3, .inl (tg 0, 20, .inl (fun _ => 0))), (a4, .inl (tg 0, 20, .inl (fun _ => 0)))] H := hP
  have hD : va_D A [(h0, .inr (1, [.ref a0, .ref a1, .ref a2, .ref a3, .null, .null, .null, .int 0, .int 0])), (a0, .inl (tg 0, 20, .inl (fun _ => 0))), (a1, .inl (tg 0, 20, .inl (fun _ => 0))), (a2, .inl (tg 0, 20, .inl (fun _ => 0))), (a3, .inl (tg 0, 20, .inl (fun _ => 0))), (a4, .inl (tg 0, 20, .inl (fun _ => 0)))] := hD
  refine W.widen (k := 5) (n := 100) (Nat.le_of_ble_eq_true rfl) (Nat.le_of_ble_eq_true rfl) ?_
  refine va_putF (D := D) (ci := 1) (v := .ref a4) (ty := .array .int) (C := RX0) (T := TX0) (N := 9) hx hb hts (by decide +kernel) tyX0 tyX0_ok nmX0 hown hK hP hD hS 0 rfl rfl 4 (by decide) (hts (.fieldLink RX0 24 "Cardgate$Board" "fallCounts" "[I") (by decide +kernel)) (fun _ h9 => h9) rfl hin rfl (by decide +kernel) rfl rfl (Nat.le_of_ble_eq_true rfl) dX0_init_41 (fun H locs hP hD hS => ?_)
  have hP : va_P D vwCl [(h0, .inr (1, [.ref a0, .ref a1, .ref a2, .ref a3, .ref a4, .null, .null, .int 0, .int 0])), (a0, .inl (tg 0, 20, .inl (fun _ => 0))), (a1, .inl (tg 0, 20, .inl (fun _ => 0))), (a2, .inl (tg 0, 20, .inl (fun _ => 0))), (a3, .inl (tg 0, 20, .inl (fun _ => 0))), (a4, .inl (tg 0, 20, .inl (fun _ => 0)))] H := hP
  have hD : va_D A [(h0, .inr (1, [.ref a0, .ref a1, .ref a2, .ref a3, .ref a4, .null, .null, .int 0, .int 0])), (a0, .inl (tg 0, 20, .inl (fun _ => 0))), (a1, .inl (tg 0, 20, .inl (fun _ => 0))), (a2, .inl (tg 0, 20, .inl (fun _ => 0))), (a3, .inl (tg 0, 20, .inl (fun _ => 0))), (a4, .inl (tg 0, 20, .inl (fun _ => 0)))] := hD
  refine lv_aload_n hx hb dX0_init_44 rfl (lv_at hl 0 rfl) ?_
  refine lv_bipush (v := 20) hx hb dX0_init_45 (by decide) ?_
  refine xn_newa (atype := .int) (a0 := (20, .inl (fun _ => 0))) hx hb (hts (.arrayClass .int) (by decide +kernel)) (hK.2 0 _ rfl).2 hP hD hS hA rfl (by decide) (by decide) (Nat.le_of_ble_eq_true rfl) (Nat.le_of_ble_eq_true rfl) (Nat.le_of_ble_eq_true rfl) dX0_init_47 (fun a5 H hP hD hS => ?_)
  have hP : va_P D vwCl [(h0, .inr (1, [.ref a0, .ref a1, .ref a2, .ref a3, .ref a4, .null, .null, .int 0, .int 0])), (a0, .inl (tg 0, 20, .inl (fun _ => 0))), (a1, .inl (tg 0, 20, .inl (fun _ => 0))), (a2, .inl (tg 0, 20, .inl (fun _ => 0))), (a3, .inl (tg 0, 20, .inl (fun _ => 0))), (a4, .inl (tg 0, 20, .inl (fun _ => 0))), (a5, .inl (tg 0, 20, .inl (fun _ => 0)))] H := hP
  have hD : va_D A [(h0, .inr (1, [.ref a0, .ref a1, .ref a2, .ref a3, .ref a4, .null, .null, .int 0, .int 0])), (a0, .inl (tg 0, 20, .inl (fun _ => 0))), (a1, .inl (tg 0, 20, .inl (fun _ => 0))), (a2, .inl (tg 0, 20, .inl (fun _ => 0))), (a3, .inl (tg 0, 20, .inl (fun _ => 0))), (a4, .inl (tg 0, 20, .inl (fun _ => 0))), (a5, .inl (tg 0, 20, .inl (fun _ => 0)))] := hD
  refine W.widen (k := 6) (n := 120) (Nat.le_of_ble_eq_true rfl) (Nat.le_of_ble_eq_true rfl) ?_
  refine va_putF (D := D) (ci := 1) (v := .ref a5) (ty := .array .int) (C := RX0) (T := TX0) (N := 9) hx hb hts (by decide +kernel) tyX0 tyX0_ok nmX0 hown hK hP hD hS 0 rfl rfl 5 (by decide) (hts (.fieldLink RX0 27 "Cardgate$Board" "pushCounts" "[I") (by decide +kernel)) (fun _ h9 => h9) rfl hin rfl (by decide +kernel) rfl rfl (Nat.le_of_ble_eq_true rfl) dX0_init_49 (fun H locs hP hD hS => ?_)
  have hP : va_P D vwCl [(h0, .inr (1, [.ref a0, .ref a1, .ref a2, .ref a3, .ref a4, .ref a5, .null, .int 0, .int 0])), (a0, .inl (tg 0, 20, .inl (fun _ => 0))), (a1, .inl (tg 0, 20, .inl (fun _ => 0))), (a2, .inl (tg 0, 20, .inl (fun _ => 0))), (a3, .inl (tg 0, 20, .inl (fun _ => 0))), (a4, .inl (tg 0, 20, .inl (fun _ => 0))), (a5, .inl (tg 0, 20, .inl (fun _ => 0)))] H := hP
  have hD : va_D A [(h0, .inr (1, [.ref a0, .ref a1, .ref a2, .ref a3, .ref a4, .ref a5, .null, .int 0, .int 0])), (a0, .inl (tg 0, 20, .inl (fun _ => 0))), (a1, .inl (tg 0, 20, .inl (fun _ => 0))), (a2, .inl (tg 0, 20, .inl (fun _ => 0))), (a3, .inl (tg 0, 20, .inl (fun _ => 0))), (a4, .inl (tg 0, 20, .inl (fun _ => 0))), (a5, .inl (tg 0, 20, .inl (fun _ => 0)))] := hD
  refine lv_aload_n hx hb dX0_init_52 rfl (lv_at hl 0 rfl) ?_
  refine lv_iconst (v := 5) hx hb dX0_init_53 (by decide) ?_
  refine xn_newa (atype := .int) (a0 := (5, .inl (fun _ => 0))) hx hb (hts (.arrayClass .int) (by decide +kernel)) (hK.2 0 _ rfl).2 hP hD hS hA rfl (by decide) (by decide) (Nat.le_of_ble_eq_true rfl) (Nat.le_of_ble_eq_true rfl) (Nat.le_of_ble_eq_true rfl) dX0_init_54 (fun a6 H hP hD hS => ?_)
  have hP : va_P D vwCl [(h0, .inr (1, [.ref a0, .ref a1, .ref a2, .ref a3, .ref a4, .ref a5, .null, .int 0, .int 0])), (a0, .inl (tg 0, 20, .inl (fun _ => 0))), (a1, .inl (tg 0, 20, .inl (fun _ => 0))), (a2, .inl (tg 0, 20, .inl (fun _ => 0))), (a3, .inl (tg 0, 20, .inl (fun _ => 0))), (a4, .inl (tg 0, 20, .inl (fun _ => 0))), (a5, .inl (tg 0, 20, .inl (fun _ => 0))), (a6, .inl (tg 0, 5, .inl (fun _ => 0)))] H := hP
  have hD : va_D A [(h0, .inr (1, [.ref a0, .ref a1, .ref a2, .ref a3, .ref a4, .ref a5, .null, .int 0, .int 0])), (a0, .inl (tg 0, 20, .inl (fun _ => 0))), (a1, .inl (tg 0, 20, .inl (fun _ => 0))), (a2, .inl (tg 0, 20, .inl (fun _ => 0))), (a3, .inl (tg 0, 20, .inl (fun _ => 0))), (a4, .inl (tg 0, 20, .inl (fun _ => 0))), (a5, .inl (tg 0, 20, .inl (fun _ => 0))), (a6, .inl (tg 0, 5, .inl (fun _ => 0)))] := hD
  refine W.widen (k := 7) (n := 125) (Nat.le_of_ble_eq_true rfl) (Nat.le_of_ble_eq_true rfl) ?_
  refine va_putF (D := D) (ci := 1) (v := .ref a6) (ty := .array .int) (C := RX0) (T := TX0) (N := 9) hx hb hts (by decide +kernel) tyX0 tyX0_ok nmX0 hown hK hP hD hS 0 rfl rfl 6 (by decide) (hts (.fieldLink RX0 30 "Cardgate$Board" "limits" "[I") (by decide +kernel)) (fun _ h9 => h9) rfl hin rfl (by decide +kernel) rfl rfl (Nat.le_of_ble_eq_true rfl) dX0_init_56 (fun H locs hP hD hS => ?_)
  have hP : va_P D vwCl [(h0, .inr (1, [.ref a0, .ref a1, .ref a2, .ref a3, .ref a4, .ref a5, .ref a6, .int 0, .int 0])), (a0, .inl (tg 0, 20, .inl (fun _ => 0))), (a1, .inl (tg 0, 20, .inl (fun _ => 0))), (a2, .inl (tg 0, 20, .inl (fun _ => 0))), (a3, .inl (tg 0, 20, .inl (fun _ => 0))), (a4, .inl (tg 0, 20, .inl (fun _ => 0))), (a5, .inl (tg 0, 20, .inl (fun _ => 0))), (a6, .inl (tg 0, 5, .inl (fun _ => 0)))] H := hP
  have hD : va_D A [(h0, .inr (1, [.ref a0, .ref a1, .ref a2, .ref a3, .ref a4, .ref a5, .ref a6, .int 0, .int 0])), (a0, .inl (tg 0, 20, .inl (fun _ => 0))), (a1, .inl (tg 0, 20, .inl (fun _ => 0))), (a2, .inl (tg 0, 20, .inl (fun _ => 0))), (a3, .inl (tg 0, 20, .inl (fun _ => 0))), (a4, .inl (tg 0, 20, .inl (fun _ => 0))), (a5, .inl (tg 0, 20, .inl (fun _ => 0))), (a6, .inl (tg 0, 5, .inl (fun _ => 0)))] := hD
  refine lv_aload_n hx hb dX0_init_59 rfl (lv_at hl 0 rfl) ?_
  refine lv_iconst (v := 0) hx hb dX0_init_60 (by decide) ?_
  refine va_put (D := D) (ci := 1) (v := .int 0) (ty := .int) (C := RX0) (T := TX0) (N := 9) hx hb hts (by decide +kernel) tyX0 tyX0_ok nmX0 hown hK hP hD hS 0 rfl rfl 7 (by decide) (hts (.fieldLink RX0 33 "Cardgate$Board" "count" "I") (by decide +kernel)) (fun _ h9 => h9) rfl (by decide +kernel) rfl rfl (Nat.le_of_ble_eq_true rfl) dX0_init_61 (fun H locs hP hD hS => ?_)
  have hP : va_P D vwCl [(h0, .inr (1, [.ref a0, .ref a1, .ref a2, .ref a3, .ref a4, .ref a5, .ref a6, .int 0, .int 0])), (a0, .inl (tg 0, 20, .inl (fun _ => 0))), (a1, .inl (tg 0, 20, .inl (fun _ => 0))), (a2, .inl (tg 0, 20, .inl (fun _ => 0))), (a3, .inl (tg 0, 20, .inl (fun _ => 0))), (a4, .inl (tg 0, 20, .inl (fun _ => 0))), (a5, .inl (tg 0, 20, .inl (fun _ => 0))), (a6, .inl (tg 0, 5, .inl (fun _ => 0)))] H := hP
  have hD : va_D A [(h0, .inr (1, [.ref a0, .ref a1, .ref a2, .ref a3, .ref a4, .ref a5, .ref a6, .int 0, .int 0])), (a0, .inl (tg 0, 20, .inl (fun _ => 0))), (a1, .inl (tg 0, 20, .inl (fun _ => 0))), (a2, .inl (tg 0, 20, .inl (fun _ => 0))), (a3, .inl (tg 0, 20, .inl (fun _ => 0))), (a4, .inl (tg 0, 20, .inl (fun _ => 0))), (a5, .inl (tg 0, 20, .inl (fun _ => 0))), (a6, .inl (tg 0, 5, .inl (fun _ => 0)))] := hD
  refine lv_aload_n hx hb dX0_init_64 rfl (lv_at hl 0 rfl) ?_
  refine lv_iconst (v := 0) hx hb dX0_init_65 (by decide) ?_
  refine va_put (D := D) (ci := 1) (v := .int 0) (ty := .int) (C := RX0) (T := TX0) (N := 9) hx hb hts (by decide +kernel) tyX0 tyX0_ok nmX0 hown hK hP hD hS 0 rfl rfl 8 (by decide) (hts (.fieldLink RX0 37 "Cardgate$Board" "arrivalsSoFar" "I") (by decide +kernel)) (fun _ h9 => h9) rfl (by decide +kernel) rfl rfl (Nat.le_of_ble_eq_true rfl) dX0_init_66 (fun H locs hP hD hS => ?_)
  have hP : va_P D vwCl [(h0, .inr (1, [.ref a0, .ref a1, .ref a2, .ref a3, .ref a4, .ref a5, .ref a6, .int 0, .int 0])), (a0, .inl (tg 0, 20, .inl (fun _ => 0))), (a1, .inl (tg 0, 20, .inl (fun _ => 0))), (a2, .inl (tg 0, 20, .inl (fun _ => 0))), (a3, .inl (tg 0, 20, .inl (fun _ => 0))), (a4, .inl (tg 0, 20, .inl (fun _ => 0))), (a5, .inl (tg 0, 20, .inl (fun _ => 0))), (a6, .inl (tg 0, 5, .inl (fun _ => 0)))] H := hP
  have hD : va_D A [(h0, .inr (1, [.ref a0, .ref a1, .ref a2, .ref a3, .ref a4, .ref a5, .ref a6, .int 0, .int 0])), (a0, .inl (tg 0, 20, .inl (fun _ => 0))), (a1, .inl (tg 0, 20, .inl (fun _ => 0))), (a2, .inl (tg 0, 20, .inl (fun _ => 0))), (a3, .inl (tg 0, 20, .inl (fun _ => 0))), (a4, .inl (tg 0, 20, .inl (fun _ => 0))), (a5, .inl (tg 0, 20, .inl (fun _ => 0))), (a6, .inl (tg 0, 5, .inl (fun _ => 0)))] := hD
  refine lv_iconst (v := 1) hx hb dX0_init_69 (by decide) ?_
  refine lv_istore_n (lv' := [(1, .int 1), (0, .ref h0)]) hx hb dX0_init_70 rfl hl (by decide) rfl (fun ls hl => ?_)
  refine lv_iload_n hx hb dX0_init_71 rfl (lv_at hl 0 rfl) ?_
  refine lv_iconst (v := 3) hx hb dX0_init_72 (by decide) ?_
  refine lv_icmp_gt (tgt := 98) hx hb dX0_init_73 (by decide) (fun h => absurd h (by decide)) (fun _ => ?_)
  refine lv_iload_n hx hb dX0_init_76 rfl (lv_at hl 0 rfl) ?_
  refine lv_aload_n hx hb dX0_init_77 rfl (lv_at hl 1 rfl) ?_
  refine va_get (D := D) (ci := 1) (v := .ref a6) (C := RX0) (T := TX0) (N := 9) hx hb hts (by decide +kernel) hown hK hP 0 rfl rfl 6 (by decide) (hts (.fieldLink RX0 30 "Cardgate$Board" "limits" "[I") (by decide +kernel)) (fun _ h9 => h9) rfl dX0_init_78 ?_
  refine va_alen (v := 5) hx hb hK hP 7 0 rfl rfl (by decide) dX0_init_81 ?_
  refine lv_icmp_ge (tgt := 98) hx hb dX0_init_82 (by decide) (fun h => absurd h (by decide)) (fun _ => ?_)
  refine lv_aload_n hx hb dX0_init_85 rfl (lv_at hl 1 rfl) ?_
  refine va_get (D := D) (ci := 1) (v := .ref a6) (C := RX0) (T := TX0) (N := 9) hx hb hts (by decide +kernel) hown hK hP 0 rfl rfl 6 (by decide) (hts (.fieldLink RX0 30 "Cardgate$Board" "limits" "[I") (by decide +kernel)) (fun _ h9 => h9) rfl dX0_init_86 ?_
  refine lv_iload_n hx hb dX0_init_89 rfl (lv_at hl 0 rfl) ?_
  refine lv_iconst (v := 3) hx hb dX0_init_90 (by decide) ?_
  refine va_iast hx hb hK hP hD hS 7 0 rfl rfl (in_nI (k := 1) (by omega) (by omega)) dX0_init_91 (fun H locs hP hD hS => ?_)
  have hP : va_P D vwCl [(h0, .inr (1, [.ref a0, .ref a1, .ref a2, .ref a3, .ref a4, .ref a5, .ref a6, .int 0, .int 0])), (a0, .inl (tg 0, 20, .inl (fun _ => 0))), (a1, .inl (tg 0, 20, .inl (fun _ => 0))), (a2, .inl (tg 0, 20, .inl (fun _ => 0))), (a3, .inl (tg 0, 20, .inl (fun _ => 0))), (a4, .inl (tg 0, 20, .inl (fun _ => 0))), (a5, .inl (tg 0, 20, .inl (fun _ => 0))), (a6, .inl (tg 0, 5, .inl (upd (fun _ => 0) (1 : Int32).toNatClampNeg 3)))] H := hP
  have hD : va_D A [(h0, .inr (1, [.ref a0, .ref a1, .ref a2, .ref a3, .ref a4, .ref a5, .ref a6, .int 0, .int 0])), (a0, .inl (tg 0, 20, .inl (fun _ => 0))), (a1, .inl (tg 0, 20, .inl (fun _ => 0))), (a2, .inl (tg 0, 20, .inl (fun _ => 0))), (a3, .inl (tg 0, 20, .inl (fun _ => 0))), (a4, .inl (tg 0, 20, .inl (fun _ => 0))), (a5, .inl (tg 0, 20, .inl (fun _ => 0))), (a6, .inl (tg 0, 5, .inl (upd (fun _ => 0) (1 : Int32).toNatClampNeg 3)))] := hD
  refine lv_iinc (v := 2) (lv' := [(1, .int 2), (0, .ref h0)]) hx hb dX0_init_92 hl (k := 0) rfl (by decide) (by decide) rfl (fun ls hl => ?_)
  refine lv_goto (tgt := 71) hx hb dX0_init_95 (by decide) ?_
  refine lv_iload_n hx hb dX0_init_71 rfl (lv_at hl 0 rfl) ?_
  refine lv_iconst (v := 3) hx hb dX0_init_72 (by decide) ?_
  refine lv_icmp_gt (tgt := 98) hx hb dX0_init_73 (by decide) (fun h => absurd h (by decide)) (fun _ => ?_)
  refine lv_iload_n hx hb dX0_init_76 rfl (lv_at hl 0 rfl) ?_
  refine lv_aload_n hx hb dX0_init_77 rfl (lv_at hl 1 rfl) ?_
  refine va_get (D := D) (ci := 1) (v := .ref a6) (C := RX0) (T := TX0) (N := 9) hx hb hts (by decide +kernel) hown hK hP 0 rfl rfl 6 (by decide) (hts (.fieldLink RX0 30 "Cardgate$Board" "limits" "[I") (by decide +kernel)) (fun _ h9 => h9) rfl dX0_init_78 ?_
  refine va_alen (v := 5) hx hb hK hP 7 0 rfl rfl (by decide) dX0_init_81 ?_
  refine lv_icmp_ge (tgt := 98) hx hb dX0_init_82 (by decide) (fun h => absurd h (by decide)) (fun _ => ?_)
  refine lv_aload_n hx hb dX0_init_85 rfl (lv_at hl 1 rfl) ?_
  refine va_get (D := D) (ci := 1) (v := .ref a6) (C := RX0) (T := TX0) (N := 9) hx hb hts (by decide +kernel) hown hK hP 0 rfl rfl 6 (by decide) (hts (.fieldLink RX0 30 "Cardgate$Board" "limits" "[I") (by decide +kernel)) (fun _ h9 => h9) rfl dX0_init_86 ?_
  refine lv_iload_n hx hb dX0_init_89 rfl (lv_at hl 0 rfl) ?_
  refine lv_iconst (v := 3) hx hb dX0_init_90 (by decide) ?_
  refine va_iast hx hb hK hP hD hS 7 0 rfl rfl (in_nI (k := 2) (by omega) (by omega)) dX0_init_91 (fun H locs hP hD hS => ?_)
  have hP : va_P D vwCl [(h0, .inr (1, [.ref a0, .ref a1, .ref a2, .ref a3, .ref a4, .ref a5, .ref a6, .int 0, .int 0])), (a0, .inl (tg 0, 20, .inl (fun _ => 0))), (a1, .inl (tg 0, 20, .inl (fun _ => 0))), (a2, .inl (tg 0, 20, .inl (fun _ => 0))), (a3, .inl (tg 0, 20, .inl (fun _ => 0))), (a4, .inl (tg 0, 20, .inl (fun _ => 0))), (a5, .inl (tg 0, 20, .inl (fun _ => 0))), (a6, .inl (tg 0, 5, .inl (upd (upd (fun _ => 0) (1 : Int32).toNatClampNeg 3) (2 : Int32).toNatClampNeg 3)))] H := hP
  have hD : va_D A [(h0, .inr (1, [.ref a0, .ref a1, .ref a2, .ref a3, .ref a4, .ref a5, .ref a6, .int 0, .int 0])), (a0, .inl (tg 0, 20, .inl (fun _ => 0))), (a1, .inl (tg 0, 20, .inl (fun _ => 0))), (a2, .inl (tg 0, 20, .inl (fun _ => 0))), (a3, .inl (tg 0, 20, .inl (fun _ => 0))), (a4, .inl (tg 0, 20, .inl (fun _ => 0))), (a5, .inl (tg 0, 20, .inl (fun _ => 0))), (a6, .inl (tg 0, 5, .inl (upd (upd (fun _ => 0) (1 : Int32).toNatClampNeg 3) (2 : Int32).toNatClampNeg 3)))] := hD
  refine lv_iinc (v := 3) (lv' := [(1, .int 3), (0, .ref h0)]) hx hb dX0_init_92 hl (k := 0) rfl (by decide) (by decide) rfl (fun ls hl => ?_)
  refine lv_goto (tgt := 71) hx hb dX0_init_95 (by decide) ?_
  refine lv_iload_n hx hb dX0_init_71 rfl (lv_at hl 0 rfl) ?_
  refine lv_iconst (v := 3) hx hb dX0_init_72 (by decide) ?_
  refine lv_icmp_gt (tgt := 98) hx hb dX0_init_73 (by decide) (fun h => absurd h (by decide)) (fun _ => ?_)
  refine lv_iload_n hx hb dX0_init_76 rfl (lv_at hl 0 rfl) ?_
  refine lv_aload_n hx hb dX0_init_77 rfl (lv_at hl 1 rfl) ?_
  refine va_get (D := D) (ci := 1) (v := .ref a6) (C := RX0) (T := TX0) (N := 9) hx hb hts (by decide +kernel) hown hK hP 0 rfl rfl 6 (by decide) (hts (.fieldLink RX0 30 "Cardgate$Board" "limits" "[I") (by decide +kernel)) (fun _ h9 => h9) rfl dX0_init_78 ?_
  refine va_alen (v := 5) hx hb hK hP 7 0 rfl rfl (by decide) dX0_init_81 ?_
  refine lv_icmp_ge (tgt := 98) hx hb dX0_init_82 (by decide) (fun h => absurd h (by decide)) (fun _ => ?_)
  refine lv_aload_n hx hb dX0_init_85 rfl (lv_at hl 1 rfl) ?_
  refine va_get (D := D) (ci := 1) (v := .ref a6) (C := RX0) (T := TX0) (N := 9) hx hb hts (by decide +kernel) hown hK hP 0 rfl rfl 6 (by decide) (hts (.fieldLink RX0 30 "Cardgate$Board" "limits" "[I") (by decide +kernel)) (fun _ h9 => h9) rfl dX0_init_86 ?_
  refine lv_iload_n hx hb dX0_init_89 rfl (lv_at hl 0 rfl) ?_
  refine lv_iconst (v := 3) hx hb dX0_init_90 (by decide) ?_
  refine va_iast hx hb hK hP hD hS 7 0 rfl rfl (in_nI (k := 3) (by omega) (by omega)) dX0_init_91 (fun H locs hP hD hS => ?_)
  have hP : va_P D vwCl [(h0, .inr (1, [.ref a0, .ref a1, .ref a2, .ref a3, .ref a4, .ref a5, .ref a6, .int 0, .int 0])), (a0, .inl (tg 0, 20, .inl (fun _ => 0))), (a1, .inl (tg 0, 20, .inl (fun _ => 0))), (a2, .inl (tg 0, 20, .inl (fun _ => 0))), (a3, .inl (tg 0, 20, .inl (fun _ => 0))), (a4, .inl (tg 0, 20, .inl (fun _ => 0))), (a5, .inl (tg 0, 20, .inl (fun _ => 0))), (a6, .inl (tg 0, 5, .inl (upd (upd (upd (fun _ => 0) (1 : Int32).toNatClampNeg 3) (2 : Int32).toNatClampNeg 3) (3 : Int32).toNatClampNeg 3)))] H := hP
  have hD : va_D A [(h0, .inr (1, [.ref a0, .ref a1, .ref a2, .ref a3, .ref a4, .ref a5, .ref a6, .int 0, .int 0])), (a0, .inl (tg 0, 20, .inl (fun _ => 0))), (a1, .inl (tg 0, 20, .inl (fun _ => 0))), (a2, .inl (tg 0, 20, .inl (fun _ => 0))), (a3, .inl (tg 0, 20, .inl (fun _ => 0))), (a4, .inl (tg 0, 20, .inl (fun _ => 0))), (a5, .inl (tg 0, 20, .inl (fun _ => 0))), (a6, .inl (tg 0, 5, .inl (upd (upd (upd (fun _ => 0) (1 : Int32).toNatClampNeg 3) (2 : Int32).toNatClampNeg 3) (3 : Int32).toNatClampNeg 3)))] := hD
  refine lv_iinc (v := 4) (lv' := [(1, .int 4), (0, .ref h0)]) hx hb dX0_init_92 hl (k := 0) rfl (by decide) (by decide) rfl (fun ls hl => ?_)
  refine lv_goto (tgt := 71) hx hb dX0_init_95 (by decide) ?_
  refine lv_iload_n hx hb dX0_init_71 rfl (lv_at hl 0 rfl) ?_
  refine lv_iconst (v := 3) hx hb dX0_init_72 (by decide) ?_
  refine lv_icmp_gt (tgt := 98) hx hb dX0_init_73 (by decide) (fun _ => ?_) (fun h => absurd (by decide) h)
  exact W.vret hx hb hr (fun t ht hW => ⟨⟨fun i => [a0, a1, a2, a3, a4, a5, a6].getD i 0, rfl, trivial, by rw [ht]; exact hP, va_K.moved hW.alike hK, hD⟩, hS.F ht⟩) hS.2.2 dX0_init_98
def ce_X1 (tg : Nat → ClassId) (h0 : Nat) (u : Nat → Nat) : va_W := [(h0, .inr (2, [.ref (u 0), .ref (u 1), .ref (u 2), .ref (u 3), .ref (u 4), .int 0, .int 0, .int 0, .int 0, .int 0, .int 0])), ((u 0), .inl (tg 0, 30, .inl (fun _ => 0))), ((u 1), .inl (tg 0, 30, .inl (fun _ => 0))), ((u 2), .inl (tg 0, 30, .inl (fun _ => 0))), ((u 3), .inl (tg 0, 30, .inl (fun _ => 0))), ((u 4), .inl (tg 0, 30, .inl (fun _ => 0)))]
set_option maxHeartbeats 4000000 in
set_option maxRecDepth 100000 in
theorem i_X1 (l : Launch) (D : va_G) (tg : Nat → ClassId) (h0 sz : Nat) : Met l yX1_init wsX1_init ({ frames := 2, cells := 5, slots := 150, locals := 32 }) (va_Pc [.ref h0] (fun U => U.heap.size = sz ∧ va_P D vwCl [(h0, .inr (2, [.null, .null, .null, .null, .null, .int 0, .int 0, .int 0, .int 0, .int 0, .int 0]))] U.heap ∧ va_K D vwCl (xtys tg) U ∧ va_D (fun _ => True) [(h0, .inr (2, [.null, .null, .null, .null, .null, .int 0, .int 0, .int 0, .int 0, .int 0, .int 0]))])) (va_Qv (fun _ : Nat → Nat => True) (fun u t => va_P D vwCl (ce_X1 tg h0 u) t.heap ∧ va_K D vwCl (xtys tg) t ∧ va_D (va_A [(h0, .inr (2, [.null, .null, .null, .null, .null, .int 0, .int 0, .int 0, .int 0, .int 0, .int 0]))] sz) (ce_X1 tg h0 u)) (va_A [(h0, .inr (2, [.null, .null, .null, .null, .null, .int 0, .int 0, .int 0, .int 0, .int 0, .int 0]))] sz)) 5 150 (va_A [(h0, .inr (2, [.null, .null, .null, .null, .null, .int 0, .int 0, .int 0, .int 0, .int 0, .int 0]))] sz) := by
  refine Met.ofW (cc := cX1_init) (maxL := 1) (ret := none) (by decide) rfl ?_
  intro p e s m args below meth c s₁ B hml hv
  obtain ⟨rfl, hsz, hP, hK, hD0⟩ := hv
  have hx := B.exec
  have hb := B.bytes
  have hr := B.returns
  have hts := atoms_spec (ws := wsX1_init) B.pre
  have hown : s.vm.findClass RX1 = some m.cls := findClass_of_methodNamed B.named
  have hin : meth.name = "<init>" := (name_of_methodNamed B.named B.method).1
  subst hsz
  have hD := hD0.self (sz := s.heap.size)
  generalize hAe : va_A [(h0, .inr (2, [.null, .null, .null, .null, .null, .int 0, .int 0, .int 0, .int 0, .int 0, .int 0]))] s.heap.size = A at hD ⊢
  have hA : ∀ q : Nat, s.heap.size ≤ q → A q := fun q h => by rw [← hAe]; exact Or.inr h
  have hS : va_S A s.heap s.heap [] := va_S.rf
  have hP : va_P D vwCl [(h0, .inr (2, [.null, .null, .null, .null, .null, .int 0, .int 0, .int 0, .int 0, .int 0, .int 0]))] s.heap := hP
  have hl := lv_entry ([.ref h0]) (n := 1) (Nat.le_of_ble_eq_true rfl)
  rw [lg_entry_eq]
  generalize (lg_sl ([.ref h0]) ++ List.replicate (1 - (lg_sl ([.ref h0])).length) Slot.unset).toArray = ls at hl ⊢
  have hl : lv_has ls 1 [(0, .ref h0)] := hl
  refine lv_aload_n hx hb dX1_init_0 rfl (lv_at hl 0 rfl) ?_
  refine W.objInit hx hb hown (hts (.methodLink RX1 3 objectInit) (by decide +kernel)) (hts (.instanceMethod objectInit) (by decide +kernel)) (hts (.code objectInit ⟨#[0xb1]⟩ 1 none) (by decide +kernel)) rfl (by rw [hml]; exact hl.1) rfl dX1_init_1 (Nat.le_of_ble_eq_true rfl) (Nat.le_of_ble_eq_true rfl) ?_
  refine W.eq (g2 := F0 m 4 ls []) rfl ?_
  refine lv_aload_n hx hb dX1_init_4 rfl (lv_at hl 0 rfl) ?_
  refine lv_bipush (v := 30) hx hb dX1_init_5 (by decide) ?_
  refine xn_newa (atype := .int) (a0 := (30, .inl (fun _ => 0))) hx hb (hts (.arrayClass .int) (by decide +kernel)) (hK.2 0 _ rfl).2 hP hD hS hA rfl (by decide) (by decide) (Nat.le_of_ble_eq_true rfl) (Nat.le_of_ble_eq_true rfl) (Nat.le_of_ble_eq_true rfl) dX1_init_7 (fun a0 H hP hD hS => ?_)
  have hP : va_P D vwCl [(h0, .inr (2, [.null, .null, .null, .null, .null, .int 0, .int 0, .int 0, .int 0, .int 0, .int 0])), (a0, .inl (tg 0, 30, .inl (fun _ => 0)))] H := hP
  have hD : va_D A [(h0, .inr (2, [.null, .null, .null, .null, .null, .int 0, .int 0, .int 0, .int 0, .int 0, .int 0])), (a0, .inl (tg 0, 30, .inl (fun _ => 0)))] := hD
  refine W.widen (k := 1) (n := 30) (Nat.le_of_ble_eq_true rfl) (Nat.le_of_ble_eq_true rfl) ?_
  refine va_putF (D := D) (ci := 2) (v := .ref a0) (ty := .array .int) (C := RX1) (T := TX1) (N := 11) hx hb hts (by decide +kernel) tyX1 tyX1_ok nmX1 hown hK hP hD hS 0 rfl rfl 0 (by decide) (hts (.fieldLink RX1 9 "Cardgate$Gate" "weights" "[I") (by decide +kernel)) (fun _ h9 => h9) rfl hin rfl (by decide +kernel) rfl rfl (Nat.le_of_ble_eq_true rfl) dX1_init_9 (fun H locs hP hD hS => ?_)
  have hP : va_P D vwCl [(h0, .inr (2, [.ref a0, .null, .null, .null, .null, .int 0, .int 0, .int 0, .int 0, .int 0, .int 0])), (a0, .inl (tg 0, 30, .inl (fun _ => 0)))] H := hP
  have hD : va_D A [(h0, .inr (2, [.ref a0, .null, .null, .null, .null, .int 0, .int 0, .int 0, .int 0, .int 0, .int 0])), (a0, .inl (tg 0, 30, .inl (fun _ => 0)))] := hD
  refine lv_aload_n hx hb dX1_init_12 rfl (lv_at hl 0 rfl) ?_
  refine lv_bipush (v := 30) hx hb dX1_init_13 (by decide) ?_
  refine xn_newa (atype := .int) (a0 := (30, .inl (fun _ => 0))) hx hb (hts (.arrayClass .int) (by decide +kernel)) (hK.2 0 _ rfl).2 hP hD hS hA rfl (by decide) (by decide) (Nat.le_of_ble_eq_true rfl) (Nat.le_of_ble_eq_true rfl) (Nat.le_of_ble_eq_true rfl) dX1_init_15 (fun a1 H hP hD hS => ?_)
  have hP : va_P D vwCl [(h0, .inr (2, [.ref a0, .null, .null, .null, .null, .int 0, .int 0, .int 0, .int 0, .int 0, .int 0])), (a0, .inl (tg 0, 30, .inl (fun _ => 0))), (a1, .inl (tg 0, 30, .inl (fun _ => 0)))] H := hP
  have hD : va_D A [(h0, .inr (2, [.ref a0, .null, .null, .null, .null, .int 0, .int 0, .int 0, .int 0, .int 0, .int 0])), (a0, .inl (tg 0, 30, .inl (fun _ => 0))), (a1, .inl (tg 0, 30, .inl (fun _ => 0)))] := hD
  refine W.widen (k := 2) (n := 60) (Nat.le_of_ble_eq_true rfl) (Nat.le_of_ble_eq_true rfl) ?_
  refine va_putF (D := D) (ci := 2) (v := .ref a1) (ty := .array .int) (C := RX1) (T := TX1) (N := 11) hx hb hts (by decide +kernel) tyX1 tyX1_ok nmX1 hown hK hP hD hS 0 rfl rfl 1 (by decide) (hts (.fieldLink RX1 15 "Cardgate$Gate" "needs" "[I") (by decide +kernel)) (fun _ h9 => h9) rfl hin rfl (by decide +kernel) rfl rfl (Nat.le_of_ble_eq_true rfl) dX1_init_17 (fun H locs hP hD hS => ?_)
  have hP : va_P D vwCl [(h0, .inr (2, [.ref a0, .ref a1, .null, .null, .null, .int 0, .int 0, .int 0, .int 0, .int 0, .int 0])), (a0, .inl (tg 0, 30, .inl (fun _ => 0))), (a1, .inl (tg 0, 30, .inl (fun _ => 0)))] H := hP
  have hD : va_D A [(h0, .inr (2, [.ref a0, .ref a1, .null, .null, .null, .int 0, .int 0, .int 0, .int 0, .int 0, .int 0])), (a0, .inl (tg 0, 30, .inl (fun _ => 0))), (a1, .inl (tg 0, 30, .inl (fun _ => 0)))] := hD
  refine lv_aload_n hx hb dX1_init_20 rfl (lv_at hl 0 rfl) ?_
  refine lv_bipush (v := 30) hx hb dX1_init_21 (by decide) ?_
  refine xn_newa (atype := .int) (a0 := (30, .inl (fun _ => 0))) hx hb (hts (.arrayClass .int) (by decide +kernel)) (hK.2 0 _ rfl).2 hP hD hS hA rfl (by decide) (by decide) (Nat.le_of_ble_eq_true rfl) (Nat.le_of_ble_eq_true rfl) (Nat.le_of_ble_eq_true rfl) dX1_init_23 (fun a2 H hP hD hS => ?_)
  have hP : va_P D vwCl [(h0, .inr (2, [.ref a0, .ref a1, .null, .null, .null, .int 0, .int 0, .int 0, .int 0, .int 0, .int 0])), (a0, .inl (tg 0, 30, .inl (fun _ => 0))), (a1, .inl (tg 0, 30, .inl (fun _ => 0))), (a2, .inl (tg 0, 30, .inl (fun _ => 0)))] H := hP
  have hD : va_D A [(h0, .inr (2, [.ref a0, .ref a1, .null, .null, .null, .int 0, .int 0, .int 0, .int 0, .int 0, .int 0])), (a0, .inl (tg 0, 30, .inl (fun _ => 0))), (a1, .inl (tg 0, 30, .inl (fun _ => 0))), (a2, .inl (tg 0, 30, .inl (fun _ => 0)))] := hD
  refine W.widen (k := 3) (n := 90) (Nat.le_of_ble_eq_true rfl) (Nat.le_of_ble_eq_true rfl) ?_
  refine va_putF (D := D) (ci := 2) (v := .ref a2) (ty := .array .int) (C := RX1) (T := TX1) (N := 11) hx hb hts (by decide +kernel) tyX1 tyX1_ok nmX1 hown hK hP hD hS 0 rfl rfl 2 (by decide) (hts (.fieldLink RX1 18 "Cardgate$Gate" "clashes" "[I") (by decide +kernel)) (fun _ h9 => h9) rfl hin rfl (by decide +kernel) rfl rfl (Nat.le_of_ble_eq_true rfl) dX1_init_25 (fun H locs hP hD hS => ?_)
  have hP : va_P D vwCl [(h0, .inr (2, [.ref a0, .ref a1, .ref a2, .null, .null, .int 0, .int 0, .int 0, .int 0, .int 0, .int 0])), (a0, .inl (tg 0, 30, .inl (fun _ => 0))), (a1, .inl (tg 0, 30, .inl (fun _ => 0))), (a2, .inl (tg 0, 30, .inl (fun _ => 0)))] H := hP
  have hD : va_D A [(h0, .inr (2, [.ref a0, .ref a1, .ref a2, .null, .null, .int 0, .int 0, .int 0, .int 0, .int 0, .int 0])), (a0, .inl (tg 0, 30, .inl (fun _ => 0))), (a1, .inl (tg 0, 30, .inl (fun _ => 0))), (a2, .inl (tg 0, 30, .inl (fun _ => 0)))] := hD
  refine lv_aload_n hx hb dX1_init_28 rfl (lv_at hl 0 rfl) ?_
  refine lv_bipush (v := 30) hx hb dX1_init_29 (by decide) ?_
  refine xn_newa (atype := .int) (a0 := (30, .inl (fun _ => 0))) hx hb (hts (.arrayClass .int) (by decide +kernel)) (hK.2 0 _ rfl).2 hP hD hS hA rfl (by decide) (by decide) (Nat.le_of_ble_eq_true rfl) (Nat.le_of_ble_eq_true rfl) (Nat.le_of_ble_eq_true rfl) dX1_init_31 (fun a3 H hP hD hS => ?_)
  have hP : va_P D vwCl [(h0, .inr (2, [.ref a0, .ref a1, .ref a2, .null, .null, .int 0, .int 0, .int 0, .int 0, .int 0, .int 0])), (a0, .inl (tg 0, 30, .inl (fun _ => 0))), (a1, .inl (tg 0, 30, .inl (fun _ => 0))), (a2, .inl (tg 0, 30, .inl (fun _ => 0))), (a3, .inl (tg 0, 30, .inl (fun _ => 0)))] H := hP
  have hD : va_D A [(h0, .inr (2, [.ref a0, .ref a1, .ref a2, .null, .null, .int 0, .int 0, .int 0, .int 0, .int 0, .int 0])), (a0, .inl (tg 0, 30, .inl (fun _ => 0))), (a1, .inl (tg 0, 30, .inl (fun _ => 0))), (a2, .inl (tg 0, 30, .inl (fun _ => 0))), (a3, .inl (tg 0, 30, .inl (fun _ => 0)))] := hD
  refine W.widen (k := 4) (n := 120) (Nat.le_of_ble_eq_true rfl) (Nat.le_of_ble_eq_true rfl) ?_
  refine va_putF (D := D) (ci := 2) (v := .ref a3) (ty := .array .int) (C := RX1) (T := TX1) (N := 11) hx hb hts (by decide +kernel) tyX1 tyX1_ok nmX1 hown hK hP hD hS 0 rfl rfl 3 (by decide) (hts (.fieldLink RX1 21 "Cardgate$Gate" "states" "[I") (by decide +kernel)) (fun _ h9 => h9) rfl hin rfl (by decide +kernel) rfl rfl (Nat.le_of_ble_eq_true rfl) dX1_init_33 (fun H locs hP hD hS => ?_)
  have hP : va_P D vwCl [(h0, .inr (2, [.ref a0, .ref a1, .ref a2, .ref a3, .null, .int 0, .int 0, .int 0, .int 0, .int 0, .int 0])), (a0, .inl (tg 0, 30, .inl (fun _ => 0))), (a1, .inl (tg 0, 30, .inl (fun _ => 0))), (a2, .inl (tg 0, 30, .inl (fun _ => 0))), (a3, .inl (tg 0, 30, .inl (fun _ => 0)))] H := hP
  have hD : va_D A [(h0, .inr (2, [.ref a0, .ref a1, .ref a2, .ref a3, .null, .int 0, .int 0, .int 0, .int 0, .int 0, .int 0])), (a0, .inl (tg 0, 30, .inl (fun _ => 0))), (a1, .inl (tg 0, 30, .inl (fun _ => 0))), (a2, .inl (tg 0, 30, .inl (fun _ => 0))), (a3, .inl (tg 0, 30, .inl (fun _ => 0)))] := hD
  refine lv_aload_n hx hb dX1_init_36 rfl (lv_at hl 0 rfl) ?_
  refine lv_bipush (v := 30) hx hb dX1_init_37 (by decide) ?_
  refine xn_newa (atype := .int) (a0 := (30, .inl (fun _ => 0))) hx hb (hts (.arrayClass .int) (by decide +kernel)) (hK.2 0 _ rfl).2 hP hD hS hA rfl (by decide) (by decide) (Nat.le_of_ble_eq_true rfl) (Nat.le_of_ble_eq_true rfl) (Nat.le_of_ble_eq_true rfl) dX1_init_39 (fun a4 H hP hD hS => ?_)
  have hP : va_P D vwCl [(h0, .inr (2, [.ref a0, .ref a1, .ref a2, .ref a3, .null, .int 0, .int 0, .int 0, .int 0, .int 0, .int 0])), (a0, .inl (tg 0, 30, .inl (fun _ => 0))), (a1, .inl (tg 0, 30, .inl (fun _ => 0))), (a2, .inl (tg 0, 30, .inl (fun _ => 0))), (a3, .inl (tg 0, 30, .inl (fun _ => 0))), (a4, .inl (tg 0, 30, .inl (fun _ => 0)))] H := hP
  have hD : va_D A [(h0, .inr (2, [.ref a0, .ref a1, .ref a2, .ref a3, .null, .int 0, .int 0, .int 0, .int 0, .int 0, .int 0])), (a0, .inl (tg 0, 30, .inl (fun _ => 0))), (a1, .inl (tg 0, 30, .inl (fun _ => 0))), (a2, .inl (tg 0, 30, .inl (fun _ => 0))), (a3, .inl (tg 0, 30, .inl (fun _ => 0))), (a4, .inl (tg 0, 30, .inl (fun _ => 0)))] := hD
  refine W.widen (k := 5) (n := 150) (Nat.le_of_ble_eq_true rfl) (Nat.le_of_ble_eq_true rfl) ?_
  refine va_putF (D := D) (ci := 2) (v := .ref a4) (ty := .array .int) (C := RX1) (T := TX1) (N := 11) hx hb hts (by decide +kernel) tyX1 tyX1_ok nmX1 hown hK hP hD hS 0 rfl rfl 4 (by decide) (hts (.fieldLink RX1 24 "Cardgate$Gate" "queue" "[I") (by decide +kernel)) (fun _ h9 => h9) rfl hin rfl (by decide +kernel) rfl rfl (Nat.le_of_ble_eq_true rfl) dX1_init_41 (fun H locs hP hD hS => ?_)
  have hP : va_P D vwCl [(h0, .inr (2, [.ref a0, .ref a1, .ref a2, .ref a3, .ref a4, .int 0, .int 0, .int 0, .int 0, .int 0, .int 0])), (a0, .inl (tg 0, 30, .inl (fun _ => 0))), (a1, .inl (tg 0, 30, .inl (fun _ => 0))), (a2, .inl (tg 0, 30, .inl (fun _ => 0))), (a3, .inl (tg 0, 30, .inl (fun _ => 0))), (a4, .inl (tg 0, 30, .inl (fun _ => 0)))] H := hP
  have hD : va_D A [(h0, .inr (2, [.ref a0, .ref a1, .ref a2, .ref a3, .ref a4, .int 0, .int 0, .int 0, .int 0, .int 0, .int 0])), (a0, .inl (tg 0, 30, .inl (fun _ => 0))), (a1, .inl (tg 0, 30, .inl (fun _ => 0))), (a2, .inl (tg 0, 30, .inl (fun _ => 0))), (a3, .inl (tg 0, 30, .inl (fun _ => 0))), (a4, .inl (tg 0, 30, .inl (fun _ => 0)))] := hD
  refine lv_aload_n hx hb dX1_init_44 rfl (lv_at hl 0 rfl) ?_
  refine lv_iconst (v := 0) hx hb dX1_init_45 (by decide) ?_
  refine va_put (D := D) (ci := 2) (v := .int 0) (ty := .int) (C := RX1) (T := TX1) (N := 11) hx hb hts (by decide +kernel) tyX1 tyX1_ok nmX1 hown hK hP hD hS 0 rfl rfl 5 (by decide) (hts (.fieldLink RX1 27 "Cardgate$Gate" "broken" "I") (by decide +kernel)) (fun _ h9 => h9) rfl (by decide +kernel) rfl rfl (Nat.le_of_ble_eq_true rfl) dX1_init_46 (fun H locs hP hD hS => ?_)
  have hP : va_P D vwCl [(h0, .inr (2, [.ref a0, .ref a1, .ref a2, .ref a3, .ref a4, .int 0, .int 0, .int 0, .int 0, .int 0, .int 0])), (a0, .inl (tg 0, 30, .inl (fun _ => 0))), (a1, .inl (tg 0, 30, .inl (fun _ => 0))), (a2, .inl (tg 0, 30, .inl (fun _ => 0))), (a3, .inl (tg 0, 30, .inl (fun _ => 0))), (a4, .inl (tg 0, 30, .inl (fun _ => 0)))] H := hP
  have hD : va_D A [(h0, .inr (2, [.ref a0, .ref a1, .ref a2, .ref a3, .ref a4, .int 0, .int 0, .int 0, .int 0, .int 0, .int 0])), (a0, .inl (tg 0, 30, .inl (fun _ => 0))), (a1, .inl (tg 0, 30, .inl (fun _ => 0))), (a2, .inl (tg 0, 30, .inl (fun _ => 0))), (a3, .inl (tg 0, 30, .inl (fun _ => 0))), (a4, .inl (tg 0, 30, .inl (fun _ => 0)))] := hD
  refine lv_aload_n hx hb dX1_init_49 rfl (lv_at hl 0 rfl) ?_
  refine lv_iconst (v := 0) hx hb dX1_init_50 (by decide) ?_
  refine va_put (D := D) (ci := 2) (v := .int 0) (ty := .int) (C := RX1) (T := TX1) (N := 11) hx hb hts (by decide +kernel) tyX1 tyX1_ok nmX1 hown hK hP hD hS 0 rfl rfl 6 (by decide) (hts (.fieldLink RX1 31 "Cardgate$Gate" "count" "I") (by decide +kernel)) (fun _ h9 => h9) rfl (by decide +kernel) rfl rfl (Nat.le_of_ble_eq_true rfl) dX1_init_51 (fun H locs hP hD hS => ?_)
  have hP : va_P D vwCl [(h0, .inr (2, [.ref a0, .ref a1, .ref a2, .ref a3, .ref a4, .int 0, .int 0, .int 0, .int 0, .int 0, .int 0])), (a0, .inl (tg 0, 30, .inl (fun _ => 0))), (a1, .inl (tg 0, 30, .inl (fun _ => 0))), (a2, .inl (tg 0, 30, .inl (fun _ => 0))), (a3, .inl (tg 0, 30, .inl (fun _ => 0))), (a4, .inl (tg 0, 30, .inl (fun _ => 0)))] H := hP
  have hD : va_D A [(h0, .inr (2, [.ref a0, .ref a1, .ref a2, .ref a3, .ref a4, .int 0, .int 0, .int 0, .int 0, .int 0, .int 0])), (a0, .inl (tg 0, 30, .inl (fun _ => 0))), (a1, .inl (tg 0, 30, .inl (fun _ => 0))), (a2, .inl (tg 0, 30, .inl (fun _ => 0))), (a3, .inl (tg 0, 30, .inl (fun _ => 0))), (a4, .inl (tg 0, 30, .inl (fun _ => 0)))] := hD
  refine lv_aload_n hx hb dX1_init_54 rfl (lv_at hl 0 rfl) ?_
  refine lv_iconst (v := 0) hx hb dX1_init_55 (by decide) ?_
  refine va_put (D := D) (ci := 2) (v := .int 0) (ty := .int) (C := RX1) (T := TX1) (N := 11) hx hb hts (by decide +kernel) tyX1 tyX1_ok nmX1 hown hK hP hD hS 0 rfl rfl 7 (by decide) (hts (.fieldLink RX1 34 "Cardgate$Gate" "queueLength" "I") (by decide +kernel)) (fun _ h9 => h9) rfl (by decide +kernel) rfl rfl (Nat.le_of_ble_eq_true rfl) dX1_init_56 (fun H locs hP hD hS => ?_)
  have hP : va_P D vwCl [(h0, .inr (2, [.ref a0, .ref a1, .ref a2, .ref a3, .ref a4, .int 0, .int 0, .int 0, .int 0, .int 0, .int 0])), (a0, .inl (tg 0, 30, .inl (fun _ => 0))), (a1, .inl (tg 0, 30, .inl (fun _ => 0))), (a2, .inl (tg 0, 30, .inl (fun _ => 0))), (a3, .inl (tg 0, 30, .inl (fun _ => 0))), (a4, .inl (tg 0, 30, .inl (fun _ => 0)))] H := hP
  have hD : va_D A [(h0, .inr (2, [.ref a0, .ref a1, .ref a2, .ref a3, .ref a4, .int 0, .int 0, .int 0, .int 0, .int 0, .int 0])), (a0, .inl (tg 0, 30, .inl (fun _ => 0))), (a1, .inl (tg 0, 30, .inl (fun _ => 0))), (a2, .inl (tg 0, 30, .inl (fun _ => 0))), (a3, .inl (tg 0, 30, .inl (fun _ => 0))), (a4, .inl (tg 0, 30, .inl (fun _ => 0)))] := hD
  refine lv_aload_n hx hb dX1_init_59 rfl (lv_at hl 0 rfl) ?_
  refine lv_iconst (v := 0) hx hb dX1_init_60 (by decide) ?_
  refine va_put (D := D) (ci := 2) (v := .int 0) (ty := .int) (C := RX1) (T := TX1) (N := 11) hx hb hts (by decide +kernel) tyX1 tyX1_ok nmX1 hown hK hP hD hS 0 rfl rfl 8 (by decide) (hts (.fieldLink RX1 37 "Cardgate$Gate" "trialIn" "I") (by decide +kernel)) (fun _ h9 => h9) rfl (by decide +kernel) rfl rfl (Nat.le_of_ble_eq_true rfl) dX1_init_61 (fun H locs hP hD hS => ?_)
  have hP : va_P D vwCl [(h0, .inr (2, [.ref a0, .ref a1, .ref a2, .ref a3, .ref a4, .int 0, .int 0, .int 0, .int 0, .int 0, .int 0])), (a0, .inl (tg 0, 30, .inl (fun _ => 0))), (a1, .inl (tg 0, 30, .inl (fun _ => 0))), (a2, .inl (tg 0, 30, .inl (fun _ => 0))), (a3, .inl (tg 0, 30, .inl (fun _ => 0))), (a4, .inl (tg 0, 30, .inl (fun _ => 0)))] H := hP
  have hD : va_D A [(h0, .inr (2, [.ref a0, .ref a1, .ref a2, .ref a3, .ref a4, .int 0, .int 0, .int 0, .int 0, .int 0, .int 0])), (a0, .inl (tg 0, 30, .inl (fun _ => 0))), (a1, .inl (tg 0, 30, .inl (fun _ => 0))), (a2, .inl (tg 0, 30, .inl (fun _ => 0))), (a3, .inl (tg 0, 30, .inl (fun _ => 0))), (a4, .inl (tg 0, 30, .inl (fun _ => 0)))] := hD
  refine lv_aload_n hx hb dX1_init_64 rfl (lv_at hl 0 rfl) ?_
  refine lv_iconst (v := 0) hx hb dX1_init_65 (by decide) ?_
  refine va_put (D := D) (ci := 2) (v := .int 0) (ty := .int) (C := RX1) (T := TX1) (N := 11) hx hb hts (by decide +kernel) tyX1 tyX1_ok nmX1 hown hK hP hD hS 0 rfl rfl 9 (by decide) (hts (.fieldLink RX1 40 "Cardgate$Gate" "trialTries" "I") (by decide +kernel)) (fun _ h9 => h9) rfl (by decide +kernel) rfl rfl (Nat.le_of_ble_eq_true rfl) dX1_init_66 (fun H locs hP hD hS => ?_)
  have hP : va_P D vwCl [(h0, .inr (2, [.ref a0, .ref a1, .ref a2, .ref a3, .ref a4, .int 0, .int 0, .int 0, .int 0, .int 0, .int 0])), (a0, .inl (tg 0, 30, .inl (fun _ => 0))), (a1, .inl (tg 0, 30, .inl (fun _ => 0))), (a2, .inl (tg 0, 30, .inl (fun _ => 0))), (a3, .inl (tg 0, 30, .inl (fun _ => 0))), (a4, .inl (tg 0, 30, .inl (fun _ => 0)))] H := hP
  have hD : va_D A [(h0, .inr (2, [.ref a0, .ref a1, .ref a2, .ref a3, .ref a4, .int 0, .int 0, .int 0, .int 0, .int 0, .int 0])), (a0, .inl (tg 0, 30, .inl (fun _ => 0))), (a1, .inl (tg 0, 30, .inl (fun _ => 0))), (a2, .inl (tg 0, 30, .inl (fun _ => 0))), (a3, .inl (tg 0, 30, .inl (fun _ => 0))), (a4, .inl (tg 0, 30, .inl (fun _ => 0)))] := hD
  refine lv_aload_n hx hb dX1_init_69 rfl (lv_at hl 0 rfl) ?_
  refine lv_iconst (v := 0) hx hb dX1_init_70 (by decide) ?_
  refine va_put (D := D) (ci := 2) (v := .int 0) (ty := .int) (C := RX1) (T := TX1) (N := 11) hx hb hts (by decide +kernel) tyX1 tyX1_ok nmX1 hown hK hP hD hS 0 rfl rfl 10 (by decide) (hts (.fieldLink RX1 43 "Cardgate$Gate" "trialHours" "I") (by decide +kernel)) (fun _ h9 => h9) rfl (by decide +kernel) rfl rfl (Nat.le_of_ble_eq_true rfl) dX1_init_71 (fun H locs hP hD hS => ?_)
  have hP : va_P D vwCl [(h0, .inr (2, [.ref a0, .ref a1, .ref a2, .ref a3, .ref a4, .int 0, .int 0, .int 0, .int 0, .int 0, .int 0])), (a0, .inl (tg 0, 30, .inl (fun _ => 0))), (a1, .inl (tg 0, 30, .inl (fun _ => 0))), (a2, .inl (tg 0, 30, .inl (fun _ => 0))), (a3, .inl (tg 0, 30, .inl (fun _ => 0))), (a4, .inl (tg 0, 30, .inl (fun _ => 0)))] H := hP
  have hD : va_D A [(h0, .inr (2, [.ref a0, .ref a1, .ref a2, .ref a3, .ref a4, .int 0, .int 0, .int 0, .int 0, .int 0, .int 0])), (a0, .inl (tg 0, 30, .inl (fun _ => 0))), (a1, .inl (tg 0, 30, .inl (fun _ => 0))), (a2, .inl (tg 0, 30, .inl (fun _ => 0))), (a3, .inl (tg 0, 30, .inl (fun _ => 0))), (a4, .inl (tg 0, 30, .inl (fun _ => 0)))] := hD
  exact W.vret hx hb hr (fun t ht hW => ⟨⟨fun i => [a0, a1, a2, a3, a4].getD i 0, rfl, trivial, by rw [ht]; exact hP, va_K.moved hW.alike hK, hD⟩, hS.F ht⟩) hS.2.2 dX1_init_74
def ce_X3 (tg : Nat → ClassId) (h0 : Nat) (u : Nat → Nat) : va_W := [(h0, .inr (3, [.ref (u 0), .ref (u 1), .ref (u 2), .ref (u 3), .ref (u 4), .ref (u 5), .int 0, .int 0, .ref (u 6), .ref (u 7), .ref (u 8), .ref (u 9), .ref (u 10), .ref (u 11), .int 0, .ref (u 12), .int 0, .int 0, .ref (u 13), .ref (u 14), .ref (u 15), .int 0, .int 0, .int 0])), ((u 0), .inl (tg 0, 20, .inl (fun _ => 0))), ((u 1), .inl (tg 0, 20, .inl (fun _ => 0))), ((u 2), .inl (tg 0, 20, .inl (fun _ => 0))), ((u 3), .inl (tg 0, 20, .inl (fun _ => 0))), ((u 4), .inl (tg 0, 20, .inl (fun _ => 0))), ((u 5), .inl (tg 1, 600, .inl (fun _ => 0))), ((u 6), .inl (tg 0, 4, .inl (upd (upd (upd (fun _ => 0) (1 : Int32).toNatClampNeg 3) (2 : Int32).toNatClampNeg 3) (3 : Int32).toNatClampNeg 3))), ((u 7), .inl (tg 0, 30, .inl (fun _ => 0))), ((u 8), .inl (tg 0, 30, .inl (fun _ => 0))), ((u 9), .inl (tg 1, 30, .inl (fun _ => 0))), ((u 10), .inl (tg 1, 900, .inl (fun _ => 0))), ((u 11), .inl (tg 1, 900, .inl (fun _ => 0))), ((u 12), .inl (tg 0, 30, .inl (fun _ => 0))), ((u 13), .inl (tg 1, 30, .inl (fun _ => 0))), ((u 14), .inl (tg 0, 20, .inl (fun _ => 0))), ((u 15), .inl (tg 0, 20, .inl (fun _ => 0)))]
set_option maxHeartbeats 4000000 in
set_option maxRecDepth 100000 in
theorem i_X3 (l : Launch) (D : va_G) (tg : Nat → ClassId) (h0 sz : Nat) : Met l yX3_init wsX3_init ({ frames := 2, cells := 16, slots := 2694, locals := 32 }) (va_Pc [.ref h0] (fun U => U.heap.size = sz ∧ va_P D vwCl [(h0, .inr (3, [.null, .null, .null, .null, .null, .null, .int 0, .int 0, .null, .null, .null, .null, .null, .null, .int 0, .null, .int 0, .int 0, .null, .null, .null, .int 0, .int 0, .int 0]))] U.heap ∧ va_K D vwCl (xtys tg) U ∧ va_D (fun _ => True) [(h0, .inr (3, [.null, .null, .null, .null, .null, .null, .int 0, .int 0, .null, .null, .null, .null, .null, .null, .int 0, .null, .int 0, .int 0, .null, .null, .null, .int 0, .int 0, .int 0]))])) (va_Qv (fun _ : Nat → Nat => True) (fun u t => va_P D vwCl (ce_X3 tg h0 u) t.heap ∧ va_K D vwCl (xtys tg) t ∧ va_D (va_A [(h0, .inr (3, [.null, .null, .null, .null, .null, .null, .int 0, .int 0, .null, .null, .null, .null, .null, .null, .int 0, .null, .int 0, .int 0, .null, .null, .null, .int 0, .int 0, .int 0]))] sz) (ce_X3 tg h0 u)) (va_A [(h0, .inr (3, [.null, .null, .null, .null, .null, .null, .int 0, .int 0, .null, .null, .null, .null, .null, .null, .int 0, .null, .int 0, .int 0, .null, .null, .null, .int 0, .int 0, .int 0]))] sz)) 16 2694 (va_A [(h0, .inr (3, [.null, .null, .null, .null, .null, .null, .int 0, .int 0, .null, .null, .null, .null, .null, .null, .int 0, .null, .int 0, .int 0, .null, .null, .null, .int 0, .int 0, .int 0]))] sz) := by
  refine Met.ofW (cc := cX3_init) (maxL := 2) (ret := none) (by decide) rfl ?_
  intro p e s m args below meth c s₁ B hml hv
  obtain ⟨rfl, hsz, hP, hK, hD0⟩ := hv
  have hx := B.exec
  have hb := B.bytes
  have hr := B.returns
  have hts := atoms_spec (ws := wsX3_init) B.pre
  have hown : s.vm.findClass RX3 = some m.cls := findClass_of_methodNamed B.named
  have hin : meth.name = "<init>" := (name_of_methodNamed B.named B.method).1
  subst hsz
  have hD := hD0.self (sz := s.heap.size)
  generalize hAe : va_A [(h0, .inr (3, [.null, .null, .null, .null, .null, .null, .int 0, .int 0, .null, .null, .null, .null, .null, .null, .int 0, .null, .int 0, .int 0, .null, .null, .null, .int 0, .int 0, .int 0]))] s.heap.size = A at hD ⊢
  have hA : ∀ q : Nat, s.heap.size ≤ q → A q := fun q h => by rw [← hAe]; exact Or.inr h
  have hS : va_S A s.heap s.heap [] := va_S.rf
  have hP : va_P D vwCl [(h0, .inr (3, [.null, .null, .null, .null, .null, .null, .int 0, .int 0, .null, .null, .null, .null, .null, .null, .int 0, .null, .int 0, .int 0, .null, .null, .null, .int 0, .int 0, .int 0]))] s.heap := hP
  have hl := lv_entry ([.ref h0]) (n := 2) (Nat.le_of_ble_eq_true rfl)
  rw [lg_entry_eq]
  generalize (lg_sl ([.ref h0]) ++ List.replicate (2 - (lg_sl ([.ref h0])).length) Slot.unset).toArray = ls at hl ⊢
  have hl : lv_has ls 2 [(0, .ref h0)] := hl
  refine lv_aload_n hx hb dX3_init_0 rfl (lv_at hl 0 rfl) ?_
  refine W.objInit hx hb hown (hts (.methodLink RX3 1 objectInit) (by decide +kernel)) (hts (.instanceMethod objectInit) (by decide +kernel)) (hts (.code objectInit ⟨#[0xb1]⟩ 1 none) (by decide +kernel)) rfl (by rw [hml]; exact hl.1) rfl dX3_init_1 (Nat.le_of_ble_eq_true rfl) (Nat.le_of_ble_eq_true rfl) ?_
  refine W.eq (g2 := F0 m 4 ls []) rfl ?_
  refine lv_aload_n hx hb dX3_init_4 rfl (lv_at hl 0 rfl) ?_
  refine lv_bipush (v := 20) hx hb dX3_init_5 (by decide) ?_
  refine xn_newa (atype := .int) (a0 := (20, .inl (fun _ => 0))) hx hb (hts (.arrayClass .int) (by decide +kernel)) (hK.2 0 _ rfl).2 hP hD hS hA rfl (by decide) (by decide) (Nat.le_of_ble_eq_true rfl) (Nat.le_of_ble_eq_true rfl) (Nat.le_of_ble_eq_true rfl) dX3_init_7 (fun a0 H hP hD hS => ?_)
  have hP : va_P D vwCl [(h0, .inr (3, [.null, .null, .null, .null, .null, .null, .int 0, .int 0, .null, .null, .null, .null, .null, .null, .int 0, .null, .int 0, .int 0, .null, .null, .null, .int 0, .int 0, .int 0])), (a0, .inl (tg 0, 20, .inl (fun _ => 0)))] H := hP
  have hD : va_D A [(h0, .inr (3, [.null, .null, .null, .null, .null, .null, .int 0, .int 0, .null, .null, .null, .null, .null, .null, .int 0, .null, .int 0, .int 0, .null, .null, .null, .int 0, .int 0, .int 0])), (a0, .inl (tg 0, 20, .inl (fun _ => 0)))] := hD
  refine W.widen (k := 1) (n := 20) (Nat.le_of_ble_eq_true rfl) (Nat.le_of_ble_eq_true rfl) ?_
  refine va_putF (D := D) (ci := 3) (v := .ref a0) (ty := .array .int) (C := RX3) (T := TX3) (N := 24) hx hb hts (by decide +kernel) tyX3 tyX3_ok nmX3 hown hK hP hD hS 0 rfl rfl 0 (by decide) (hts (.fieldLink RX3 7 "CardgateModel" "ranks" "[I") (by decide +kernel)) (fun _ h9 => h9) rfl hin rfl (by decide +kernel) rfl rfl (Nat.le_of_ble_eq_true rfl) dX3_init_9 (fun H locs hP hD hS => ?_)
  have hP : va_P D vwCl [(h0, .inr (3, [.ref a0, .null, .null, .null, .null, .null, .int 0, .int 0, .null, .null, .null, .null, .null, .null, .int 0, .null, .int 0, .int 0, .null, .null, .null, .int 0, .int 0, .int 0])), (a0, .inl (tg 0, 20, .inl (fun _ => 0)))] H := hP
  have hD : va_D A [(h0, .inr (3, [.ref a0, .null, .null, .null, .null, .null, .int 0, .int 0, .null, .null, .null, .null, .null, .null, .int 0, .null, .int 0, .int 0, .null, .null, .null, .int 0, .int 0, .int 0])), (a0, .inl (tg 0, 20, .inl (fun _ => 0)))] := hD
  refine lv_aload_n hx hb dX3_init_12 rfl (lv_at hl 0 rfl) ?_
  refine lv_bipush (v := 20) hx hb dX3_init_13 (by decide) ?_
  refine xn_newa (atype := .int) (a0 := (20, .inl (fun _ => 0))) hx hb (hts (.arrayClass .int) (by decide +kernel)) (hK.2 0 _ rfl).2 hP hD hS hA rfl (by decide) (by decide) (Nat.le_of_ble_eq_true rfl) (Nat.le_of_ble_eq_true rfl) (Nat.le_of_ble_eq_true rfl) dX3_init_15 (fun a1 H hP hD hS => ?_)
  have hP : va_P D vwCl [(h0, .inr (3, [.ref a0, .null, .null, .null, .null, .null, .int 0, .int 0, .null, .null, .null, .null, .null, .null, .int 0, .null, .int 0, .int 0, .null, .null, .null, .int 0, .int 0, .int 0])), (a0, .inl (tg 0, 20, .inl (fun _ => 0))), (a1, .inl (tg 0, 20, .inl (fun _ => 0)))] H := hP
  have hD : va_D A [(h0, .inr (3, [.ref a0, .null, .null, .null, .null, .null, .int 0, .int 0, .null, .null, .null, .null, .null, .null, .int 0, .null, .int 0, .int 0, .null, .null, .null, .int 0, .int 0, .int 0])), (a0, .inl (tg 0, 20, .inl (fun _ => 0))), (a1, .inl (tg 0, 20, .inl (fun _ => 0)))] := hD
  refine W.widen (k := 2) (n := 40) (Nat.le_of_ble_eq_true rfl) (Nat.le_of_ble_eq_true rfl) ?_
  refine va_putF (D := D) (ci := 3) (v := .ref a1) (ty := .array .int) (C := RX3) (T := TX3) (N := 24) hx hb hts (by decide +kernel) tyX3 tyX3_ok nmX3 hown hK hP hD hS 0 rfl rfl 1 (by decide) (hts (.fieldLink RX3 13 "CardgateModel" "columns" "[I") (by decide +kernel)) (fun _ h9 => h9) rfl hin rfl (by decide +kernel) rfl rfl (Nat.le_of_ble_eq_true rfl) dX3_init_17 (fun H locs hP hD hS => ?_)
  have hP : va_P D vwCl [(h0, .inr (3, [.ref a0, .ref a1, .null, .null, .null, .null, .int 0, .int 0, .null, .null, .null, .null, .null, .null, .int 0, .null, .int 0, .int 0, .null, .null, .null, .int 0, .int 0, .int 0])), (a0, .inl (tg 0, 20, .inl (fun _ => 0))), (a1, .inl (tg 0, 20, .inl (fun _ => 0)))] H := hP
  have hD : va_D A [(h0, .inr (3, [.ref a0, .ref a1, .null, .null, .null, .null, .int 0, .int 0, .null, .null, .null, .null, .null, .null, .int 0, .null, .int 0, .int 0, .null, .null, .null, .int 0, .int 0, .int 0])), (a0, .inl (tg 0, 20, .inl (fun _ => 0))), (a1, .inl (tg 0, 20, .inl (fun _ => 0)))] := hD
  refine lv_aload_n hx hb dX3_init_20 rfl (lv_at hl 0 rfl) ?_
  refine lv_bipush (v := 20) hx hb dX3_init_21 (by decide) ?_
  refine xn_newa (atype := .int) (a0 := (20, .inl (fun _ => 0))) hx hb (hts (.arrayClass .int) (by decide +kernel)) (hK.2 0 _ rfl).2 hP hD hS hA rfl (by decide) (by decide) (Nat.le_of_ble_eq_true rfl) (Nat.le_of_ble_eq_true rfl) (Nat.le_of_ble_eq_true rfl) dX3_init_23 (fun a2 H hP hD hS => ?_)
  have hP : va_P D vwCl [(h0, .inr (3, [.ref a0, .ref a1, .null, .null, .null, .null, .int 0, .int 0, .null, .null, .null, .null, .null, .null, .int 0, .null, .int 0, .int 0, .null, .null, .null, .int 0, .int 0, .int 0])), (a0, .inl (tg 0, 20, .inl (fun _ => 0))), (a1, .inl (tg 0, 20, .inl (fun _ => 0))), (a2, .inl (tg 0, 20, .inl (fun _ => 0)))] H := hP
  have hD : va_D A [(h0, .inr (3, [.ref a0, .ref a1, .null, .null, .null, .null, .int 0, .int 0, .null, .null, .null, .null, .null, .null, .int 0, .null, .int 0, .int 0, .null, .null, .null, .int 0, .int 0, .int 0])), (a0, .inl (tg 0, 20, .inl (fun _ => 0))), (a1, .inl (tg 0, 20, .inl (fun _ => 0))), (a2, .inl (tg 0, 20, .inl (fun _ => 0)))] := hD
  refine W.widen (k := 3) (n := 60) (Nat.le_of_ble_eq_true rfl) (Nat.le_of_ble_eq_true rfl) ?_
  refine va_putF (D := D) (ci := 3) (v := .ref a2) (ty := .array .int) (C := RX3) (T := TX3) (N := 24) hx hb hts (by decide +kernel) tyX3 tyX3_ok nmX3 hown hK hP hD hS 0 rfl rfl 2 (by decide) (hts (.fieldLink RX3 16 "CardgateModel" "came" "[I") (by decide +kernel)) (fun _ h9 => h9) rfl hin rfl (by decide +kernel) rfl rfl (Nat.le_of_ble_eq_true rfl) dX3_init_25 (fun H locs hP hD hS => ?_)
  have hP : va_P D vwCl [(h0, .inr (3, [.ref a0, .ref a1, .ref a2, .null, .null, .null, .int 0, .int 0, .null, .null, .null, .null, .null, .null, .int 0, .null, .int 0, .int 0, .null, .null, .null, .int 0, .int 0, .int 0])), (a0, .inl (tg 0, 20, .inl (fun _ => 0))), (a1, .inl (tg 0, 20, .inl (fun _ => 0))), (a2, .inl (tg 0, 20, .inl (fun _ => 0)))] H := hP
  have hD : va_D A [(h0, .inr (3, [.ref a0, .ref a1, .ref a2, .null, .null, .null, .int 0, .int 0, .null, .null, .null, .null, .null, .null, .int 0, .null, .int 0, .int 0, .null, .null, .null, .int 0, .int 0, .int 0])), (a0, .inl (tg 0, 20, .inl (fun _ => 0))), (a1, .inl (tg 0, 20, .inl (fun _ => 0))), (a2, .inl (tg 0, 20, .inl (fun _ => 0)))] := hD
  refine lv_aload_n hx hb dX3_init_28 rfl (lv_at hl 0 rfl) ?_
  refine lv_bipush (v := 20) hx hb dX3_init_29 (by decide) ?_
  refine xn_newa (atype := .int) (a0 := (20, .inl (fun _ => 0))) hx hb (hts (.arrayClass .int) (by decide +kernel)) (hK.2 0 _ rfl).2 hP hD hS hA rfl (by decide) (by decide) (Nat.le_of_ble_eq_true rfl) (Nat.le_of_ble_eq_true rfl) (Nat.le_of_ble_eq_true rfl) dX3_init_31 (fun a3 H hP hD hS => ?_)
  have hP : va_P D vwCl [(h0, .inr (3, [.ref a0, .ref a1, .ref a2, .null, .null, .null, .int 0, .int 0, .null, .null, .null, .null, .null, .null, .int 0, .null, .int 0, .int 0, .null, .null, .null, .int 0, .int 0, .int 0])), (a0, .inl (tg 0, 20, .inl (fun _ => 0))), (a1, .inl (tg 0, 20, .inl (fun _ => 0))), (a2, .inl (tg 0, 20, .inl (fun _ => 0))), (a3, .inl (tg 0, 20, .inl (fun _ => 0)))] H := hP
  have hD : va_D A [(h0, .inr (3, [.ref a0, .ref a1, .ref a2, .null, .null, .null, .int 0, .int 0, .null, .null, .null, .null, .null, .null, .int 0, .null, .int 0, .int 0, .null, .null, .null, .int 0, .int 0, .int 0])), (a0, .inl (tg 0, 20, .inl (fun _ => 0))), (a1, .inl (tg 0, 20, .inl (fun _ => 0))), (a2, .inl (tg 0, 20, .inl (fun _ => 0))), (a3, .inl (tg 0, 20, .inl (fun _ => 0)))] := hD
  refine W.widen (k := 4) (n := 80) (Nat.le_of_ble_eq_true rfl) (Nat.le_of_ble_eq_true rfl) ?_
  refine va_putF (D := D) (ci := 3) (v := .ref a3) (ty := .array .int) (C := RX3) (T := TX3) (N := 24) hx hb hts (by decide +kernel) tyX3 tyX3_ok nmX3 hown hK hP hD hS 0 rfl rfl 3 (by decide) (hts (.fieldLink RX3 19 "CardgateModel" "falls" "[I") (by decide +kernel)) (fun _ h9 => h9) rfl hin rfl (by decide +kernel) rfl rfl (Nat.le_of_ble_eq_true rfl) dX3_init_33 (fun H locs hP hD hS => ?_)
  have hP : va_P D vwCl [(h0, .inr (3, [.ref a0, .ref a1, .ref a2, .ref a3, .null, .null, .int 0, .int 0, .null, .null, .null, .null, .null, .null, .int 0, .null, .int 0, .int 0, .null, .null, .null, .int 0, .int 0, .int 0])), (a0, .inl (tg 0, 20, .inl (fun _ => 0))), (a1, .inl (tg 0, 20, .inl (fun _ => 0))), (a2, .inl (tg 0, 20, .inl (fun _ => 0))), (a3, .inl (tg 0, 20, .inl (fun _ => 0)))] H := hP
  have hD : va_D A [(h0, .inr (3, [.ref a0, .ref a1, .ref a2, .ref a3, .null, .null, .int 0, .int 0, .null, .null, .null, .null, .null, .null, .int 0, .null, .int 0, .int 0, .null, .null, .null, .int 0, .int 0, .int 0])), (a0, .inl (tg 0, 20, .inl (fun _ => 0))), (a1, .inl (tg 0, 20, .inl (fun _ => 0))), (a2, .inl (tg 0, 20, .inl (fun _ => 0))), (a3, .inl (tg 0, 20, .inl (fun _ => 0)))] := hD
  refine lv_aload_n hx hb dX3_init_36 rfl (lv_at hl 0 rfl) ?_
  refine lv_bipush (v := 20) hx hb dX3_init_37 (by decide) ?_
  refine xn_newa (atype := .int) (a0 := (20, .inl (fun _ => 0))) hx hb (hts (.arrayClass .int) (by decide +kernel)) (hK.2 0 _ rfl).2 hP hD hS hA rfl (by decide) (by decide) (Nat.le_of_ble_eq_true rfl) (Nat.le_of_ble_eq_true rfl) (Nat.le_of_ble_eq_true rfl) dX3_init_39 (fun a4 H hP hD hS => ?_)
  have hP : va_P D vwCl [(h0, .inr (3, [.ref a0, .ref a1, .ref a2, .ref a3, .null, .null, .int 0, .int 0, .null, .null, .null, .null, .null, .null, .int 0, .null, .int 0, .int 0, .null, .null, .null, .int 0, .int 0, .int 0])), (a0, .inl (tg 0, 20, .inl (fun _ => 0))), (a1, .inl (tg 0, 20, .inl (fun _ => 0))), (a2, .inl (tg 0, 20, .inl (fun _ => 0))), (a3, .inl (tg 0, 20, .inl (fun _ => 0))), (a4, .inl (tg 0, 20, .inl (fun _ => 0)))] H := hP
  have hD : va_D A [(h0, .inr (3, [.ref a0, .ref a1, .ref a2, .ref a3, .null, .null, .int 0, .int 0, .null, .null, .null, .null, .null, .null, .int 0, .null, .int 0, .int 0, .null, .null, .null, .int 0, .int 0, .int 0])), (a0, .inl (tg 0, 20, .inl (fun _ => 0))), (a1, .inl (tg 0, 20, .inl (fun _ => 0))), (a2, .inl (tg 0, 20, .inl (fun _ => 0))), (a3, .inl (tg 0, 20, .inl (fun _ => 0))), (a4, .inl (tg 0, 20, .inl (fun _ => 0)))] := hD
  refine W.widen (k := 5) (n := 100) (Nat.le_of_ble_eq_true rfl) (Nat.le_of_ble_eq_true rfl) ?_
  refine va_putF (D := D) (ci := 3) (v := .ref a4) (ty := .array .int) (C := RX3) (T := TX3) (N := 24) hx hb hts (by decide +kernel) tyX3 tyX3_ok nmX3 hown hK hP hD hS 0 rfl rfl 4 (by decide) (hts (.fieldLink RX3 22 "CardgateModel" "pushes" "[I") (by decide +kernel)) (fun _ h9 => h9) rfl hin rfl (by decide +kernel) rfl rfl (Nat.le_of_ble_eq_true rfl) dX3_init_41 (fun H locs hP hD hS => ?_)
  have hP : va_P D vwCl [(h0, .inr (3, [.ref a0, .ref a1, .ref a2, .ref a3, .ref a4, .null, .int 0, .int 0, .null, .null, .null, .null, .null, .null, .int 0, .null, .int 0, .int 0, .null, .null, .null, .int 0, .int 0, .int 0])), (a0, .inl (tg 0, 20, .inl (fun _ => 0))), (a1, .inl (tg 0, 20, .inl (fun _ => 0))), (a2, .inl (tg 0, 20, .inl (fun _ => 0))), (a3, .inl (tg 0, 20, .inl (fun _ => 0))), (a4, .inl (tg 0, 20, .inl (fun _ => 0)))] H := hP
  have hD : va_D A [(h0, .inr (3, [.ref a0, .ref a1, .ref a2, .ref a3, .ref a4, .null, .int 0, .int 0, .null, .null, .null, .null, .null, .null, .int 0, .null, .int 0, .int 0, .null, .null, .null, .int 0, .int 0, .int 0])), (a0, .inl (tg 0, 20, .inl (fun _ => 0))), (a1, .inl (tg 0, 20, .inl (fun _ => 0))), (a2, .inl (tg 0, 20, .inl (fun _ => 0))), (a3, .inl (tg 0, 20, .inl (fun _ => 0))), (a4, .inl (tg 0, 20, .inl (fun _ => 0)))] := hD
  refine lv_aload_n hx hb dX3_init_44 rfl (lv_at hl 0 rfl) ?_
  refine lv_sipush (v := 600) hx hb dX3_init_45 (by decide) ?_
  refine xn_newa (atype := .boolean) (a0 := (600, .inl (fun _ => 0))) hx hb (hts (.arrayClass .boolean) (by decide +kernel)) (hK.2 1 _ rfl).2 hP hD hS hA rfl (by decide) (by decide) (Nat.le_of_ble_eq_true rfl) (Nat.le_of_ble_eq_true rfl) (Nat.le_of_ble_eq_true rfl) dX3_init_48 (fun a5 H hP hD hS => ?_)
  have hP : va_P D vwCl [(h0, .inr (3, [.ref a0, .ref a1, .ref a2, .ref a3, .ref a4, .null, .int 0, .int 0, .null, .null, .null, .null, .null, .null, .int 0, .null, .int 0, .int 0, .null, .null, .null, .int 0, .int 0, .int 0])), (a0, .inl (tg 0, 20, .inl (fun _ => 0))), (a1, .inl (tg 0, 20, .inl (fun _ => 0))), (a2, .inl (tg 0, 20, .inl (fun _ => 0))), (a3, .inl (tg 0, 20, .inl (fun _ => 0))), (a4, .inl (tg 0, 20, .inl (fun _ => 0))), (a5, .inl (tg 1, 600, .inl (fun _ => 0)))] H := hP
  have hD : va_D A [(h0, .inr (3, [.ref a0, .ref a1, .ref a2, .ref a3, .ref a4, .null, .int 0, .int 0, .null, .null, .null, .null, .null, .null, .int 0, .null, .int 0, .int 0, .null, .null, .null, .int 0, .int 0, .int 0])), (a0, .inl (tg 0, 20, .inl (fun _ => 0))), (a1, .inl (tg 0, 20, .inl (fun _ => 0))), (a2, .inl (tg 0, 20, .inl (fun _ => 0))), (a3, .inl (tg 0, 20, .inl (fun _ => 0))), (a4, .inl (tg 0, 20, .inl (fun _ => 0))), (a5, .inl (tg 1, 600, .inl (fun _ => 0)))] := hD
  refine W.widen (k := 6) (n := 700) (Nat.le_of_ble_eq_true rfl) (Nat.le_of_ble_eq_true rfl) ?_
  refine va_putF (D := D) (ci := 3) (v := .ref a5) (ty := .array .boolean) (C := RX3) (T := TX3) (N := 24) hx hb hts (by decide +kernel) tyX3 tyX3_ok nmX3 hown hK hP hD hS 0 rfl rfl 5 (by decide) (hts (.fieldLink RX3 25 "CardgateModel" "names" "[Z") (by decide +kernel)) (fun _ h9 => h9) rfl hin rfl (by decide +kernel) rfl rfl (Nat.le_of_ble_eq_true rfl) dX3_init_50 (fun H locs hP hD hS => ?_)
  have hP : va_P D vwCl [(h0, .inr (3, [.ref a0, .ref a1, .ref a2, .ref a3, .ref a4, .ref a5, .int 0, .int 0, .null, .null, .null, .null, .null, .null, .int 0, .null, .int 0, .int 0, .null, .null, .null, .int 0, .int 0, .int 0])), (a0, .inl (tg 0, 20, .inl (fun _ => 0))), (a1, .inl (tg 0, 20, .inl (fun _ => 0))), (a2, .inl (tg 0, 20, .inl (fun _ => 0))), (a3, .inl (tg 0, 20, .inl (fun _ => 0))), (a4, .inl (tg 0, 20, .inl (fun _ => 0))), (a5, .inl (tg 1, 600, .inl (fun _ => 0)))] H := hP
  have hD : va_D A [(h0, .inr (3, [.ref a0, .ref a1, .ref a2, .ref a3, .ref a4, .ref a5, .int 0, .int 0, .null, .null, .null, .null, .null, .null, .int 0, .null, .int 0, .int 0, .null, .null, .null, .int 0, .int 0, .int 0])), (a0, .inl (tg 0, 20, .inl (fun _ => 0))), (a1, .inl (tg 0, 20, .inl (fun _ => 0))), (a2, .inl (tg 0, 20, .inl (fun _ => 0))), (a3, .inl (tg 0, 20, .inl (fun _ => 0))), (a4, .inl (tg 0, 20, .inl (fun _ => 0))), (a5, .inl (tg 1, 600, .inl (fun _ => 0)))] := hD
  refine lv_aload_n hx hb dX3_init_53 rfl (lv_at hl 0 rfl) ?_
  refine lv_iconst (v := 4) hx hb dX3_init_54 (by decide) ?_
  refine xn_newa (atype := .int) (a0 := (4, .inl (fun _ => 0))) hx hb (hts (.arrayClass .int) (by decide +kernel)) (hK.2 0 _ rfl).2 hP hD hS hA rfl (by decide) (by decide) (Nat.le_of_ble_eq_true rfl) (Nat.le_of_ble_eq_true rfl) (Nat.le_of_ble_eq_true rfl) dX3_init_55 (fun a6 H hP hD hS => ?_)
  have hP : va_P D vwCl [(h0, .inr (3, [.ref a0, .ref a1, .ref a2, .ref a3, .ref a4, .ref a5, .int 0, .int 0, .null, .null, .null, .null, .null, .null, .int 0, .null, .int 0, .int 0, .null, .null, .null, .int 0, .int 0, .int 0])), (a0, .inl (tg 0, 20, .inl (fun _ => 0))), (a1, .inl (tg 0, 20, .inl (fun _ => 0))), (a2, .inl (tg 0, 20, .inl (fun _ => 0))), (a3, .inl (tg 0, 20, .inl (fun _ => 0))), (a4, .inl (tg 0, 20, .inl (fun _ => 0))), (a5, .inl (tg 1, 600, .inl (fun _ => 0))), (a6, .inl (tg 0, 4, .inl (fun _ => 0)))] H := hP
  have hD : va_D A [(h0, .inr (3, [.ref a0, .ref a1, .ref a2, .ref a3, .ref a4, .ref a5, .int 0, .int 0, .null, .null, .null, .null, .null, .null, .int 0, .null, .int 0, .int 0, .null, .null, .null, .int 0, .int 0, .int 0])), (a0, .inl (tg 0, 20, .inl (fun _ => 0))), (a1, .inl (tg 0, 20, .inl (fun _ => 0))), (a2, .inl (tg 0, 20, .inl (fun _ => 0))), (a3, .inl (tg 0, 20, .inl (fun _ => 0))), (a4, .inl (tg 0, 20, .inl (fun _ => 0))), (a5, .inl (tg 1, 600, .inl (fun _ => 0))), (a6, .inl (tg 0, 4, .inl (fun _ => 0)))] := hD
  refine W.widen (k := 7) (n := 704) (Nat.le_of_ble_eq_true rfl) (Nat.le_of_ble_eq_true rfl) ?_
  refine va_putF (D := D) (ci := 3) (v := .ref a6) (ty := .array .int) (C := RX3) (T := TX3) (N := 24) hx hb hts (by decide +kernel) tyX3 tyX3_ok nmX3 hown hK hP hD hS 0 rfl rfl 8 (by decide) (hts (.fieldLink RX3 29 "CardgateModel" "limits" "[I") (by decide +kernel)) (fun _ h9 => h9) rfl hin rfl (by decide +kernel) rfl rfl (Nat.le_of_ble_eq_true rfl) dX3_init_57 (fun H locs hP hD hS => ?_)
  have hP : va_P D vwCl [(h0, .inr (3, [.ref a0, .ref a1, .ref a2, .ref a3, .ref a4, .ref a5, .int 0, .int 0, .ref a6, .null, .null, .null, .null, .null, .int 0, .null, .int 0, .int 0, .null, .null, .null, .int 0, .int 0, .int 0])), (a0, .inl (tg 0, 20, .inl (fun _ => 0))), (a1, .inl (tg 0, 20, .inl (fun _ => 0))), (a2, .inl (tg 0, 20, .inl (fun _ => 0))), (a3, .inl (tg 0, 20, .inl (fun _ => 0))), (a4, .inl (tg 0, 20, .inl (fun _ => 0))), (a5, .inl (tg 1, 600, .inl (fun _ => 0))), (a6, .inl (tg 0, 4, .inl (fun _ => 0)))] H := hP
  have hD : va_D A [(h0, .inr (3, [.ref a0, .ref a1, .ref a2, .ref a3, .ref a4, .ref a5, .int 0, .int 0, .ref a6, .null, .null, .null, .null, .null, .int 0, .null, .int 0, .int 0, .null, .null, .null, .int 0, .int 0, .int 0])), (a0, .inl (tg 0, 20, .inl (fun _ => 0))), (a1, .inl (tg 0, 20, .inl (fun _ => 0))), (a2, .inl (tg 0, 20, .inl (fun _ => 0))), (a3, .inl (tg 0, 20, .inl (fun _ => 0))), (a4, .inl (tg 0, 20, .inl (fun _ => 0))), (a5, .inl (tg 1, 600, .inl (fun _ => 0))), (a6, .inl (tg 0, 4, .inl (fun _ => 0)))] := hD
  refine lv_aload_n hx hb dX3_init_60 rfl (lv_at hl 0 rfl) ?_
  refine lv_bipush (v := 30) hx hb dX3_init_61 (by decide) ?_
  refine xn_newa (atype := .int) (a0 := (30, .inl (fun _ => 0))) hx hb (hts (.arrayClass .int) (by decide +kernel)) (hK.2 0 _ rfl).2 hP hD hS hA rfl (by decide) (by decide) (Nat.le_of_ble_eq_true rfl) (Nat.le_of_ble_eq_true rfl) (Nat.le_of_ble_eq_true rfl) dX3_init_63 (fun a7 H hP hD hS => ?_)
  have hP : va_P D vwCl [(h0, .inr (3, [.ref a0, .ref a1, .ref a2, .ref a3, .ref a4, .ref a5, .int 0, .int 0, .ref a6, .null, .null, .null, .null, .null, .int 0, .null, .int 0, .int 0, .null, .null, .null, .int 0, .int 0, .int 0])), (a0, .inl (tg 0, 20, .inl (fun _ => 0))), (a1, .inl (tg 0, 20, .inl (fun _ => 0))), (a2, .inl (tg 0, 20, .inl (fun _ => 0))), (a3, .inl (tg 0, 20, .inl (fun _ => 0))), (a4, .inl (tg 0, 20, .inl (fun _ => 0))), (a5, .inl (tg 1, 600, .inl (fun _ => 0))), (a6, .inl (tg 0, 4, .inl (fun _ => 0))), (a7, .inl (tg 0, 30, .inl (fun _ => 0)))] H := hP
  have hD : va_D A [(h0, .inr (3, [.ref a0, .ref a1, .ref a2, .ref a3, .ref a4, .ref a5, .int 0, .int 0, .ref a6, .null, .null, .null, .null, .null, .int 0, .null, .int 0, .int 0, .null, .null, .null, .int 0, .int 0, .int 0])), (a0, .inl (tg 0, 20, .inl (fun _ => 0))), (a1, .inl (tg 0, 20, .inl (fun _ => 0))), (a2, .inl (tg 0, 20, .inl (fun _ => 0))), (a3, .inl (tg 0, 20, .inl (fun _ => 0))), (a4, .inl (tg 0, 20, .inl (fun _ => 0))), (a5, .inl (tg 1, 600, .inl (fun _ => 0))), (a6, .inl (tg 0, 4, .inl (fun _ => 0))), (a7, .inl (tg 0, 30, .inl (fun _ => 0)))] := hD
  refine W.widen (k := 8) (n := 734) (Nat.le_of_ble_eq_true rfl) (Nat.le_of_ble_eq_true rfl) ?_
  refine va_putF (D := D) (ci := 3) (v := .ref a7) (ty := .array .int) (C := RX3) (T := TX3) (N := 24) hx hb hts (by decide +kernel) tyX3 tyX3_ok nmX3 hown hK hP hD hS 0 rfl rfl 9 (by decide) (hts (.fieldLink RX3 32 "CardgateModel" "weights" "[I") (by decide +kernel)) (fun _ h9 => h9) rfl hin rfl (by decide +kernel) rfl rfl (Nat.le_of_ble_eq_true rfl) dX3_init_65 (fun H locs hP hD hS => ?_)
  have hP : va_P D vwCl [(h0, .inr (3, [.ref a0, .ref a1, .ref a2, .ref a3, .ref a4, .ref a5, .int 0, .int 0, .ref a6, .ref a7, .null, .null, .null, .null, .int 0, .null, .int 0, .int 0, .null, .null, .null, .int 0, .int 0, .int 0])), (a0, .inl (tg 0, 20, .inl (fun _ => 0))), (a1, .inl (tg 0, 20, .inl (fun _ => 0))), (a2, .inl (tg 0, 20, .inl (fun _ => 0))), (a3, .inl (tg 0, 20, .inl (fun _ => 0))), (a4, .inl (tg 0, 20, .inl (fun _ => 0))), (a5, .inl (tg 1, 600, .inl (fun _ => 0))), (a6, .inl (tg 0, 4, .inl (fun _ => 0))), (a7, .inl (tg 0, 30, .inl (fun _ => 0)))] H := hP
  have hD : va_D A [(h0, .inr (3, [.ref a0, .ref a1, .ref a2, .ref a3, .ref a4, .ref a5, .int 0, .int 0, .ref a6, .ref a7, .null, .null, .null, .null, .int 0, .null, .int 0, .int 0, .null, .null, .null, .int 0, .int 0, .int 0])), (a0, .inl (tg 0, 20, .inl (fun _ => 0))), (a1, .inl (tg 0, 20, .inl (fun _ => 0))), (a2, .inl (tg 0, 20, .inl (fun _ => 0))), (a3, .inl (tg 0, 20, .inl (fun _ => 0))), (a4, .inl (tg 0, 20, .inl (fun _ => 0))), (a5, .inl (tg 1, 600, .inl (fun _ => 0))), (a6, .inl (tg 0, 4, .inl (fun _ => 0))), (a7, .inl (tg 0, 30, .inl (fun _ => 0)))] := hD
  refine lv_aload_n hx hb dX3_init_68 rfl (lv_at hl 0 rfl) ?_
  refine lv_bipush (v := 30) hx hb dX3_init_69 (by decide) ?_
  refine xn_newa (atype := .int) (a0 := (30, .inl (fun _ => 0))) hx hb (hts (.arrayClass .int) (by decide +kernel)) (hK.2 0 _ rfl).2 hP hD hS hA rfl (by decide) (by decide) (Nat.le_of_ble_eq_true rfl) (Nat.le_of_ble_eq_true rfl) (Nat.le_of_ble_eq_true rfl) dX3_init_71 (fun a8 H hP hD hS => ?_)
  have hP : va_P D vwCl [(h0, .inr (3, [.ref a0, .ref a1, .ref a2, .ref a3, .ref a4, .ref a5, .int 0, .int 0, .ref a6, .ref a7, .null, .null, .null, .null, .int 0, .null, .int 0, .int 0, .null, .null, .null, .int 0, .int 0, .int 0])), (a0, .inl (tg 0, 20, .inl (fun _ => 0))), (a1, .inl (tg 0, 20, .inl (fun _ => 0))), (a2, .inl (tg 0, 20, .inl (fun _ => 0))), (a3, .inl (tg 0, 20, .inl (fun _ => 0))), (a4, .inl (tg 0, 20, .inl (fun _ => 0))), (a5, .inl (tg 1, 600, .inl (fun _ => 0))), (a6, .inl (tg 0, 4, .inl (fun _ => 0))), (a7, .inl (tg 0, 30, .inl (fun _ => 0))), (a8, .inl (tg 0, 30, .inl (fun _ => 0)))] H := hP
  have hD : va_D A [(h0, .inr (3, [.ref a0, .ref a1, .ref a2, .ref a3, .ref a4, .ref a5, .int 0, .int 0, .ref a6, .ref a7, .null, .null, .null, .null, .int 0, .null, .int 0, .int 0, .null, .null, .null, .int 0, .int 0, .int 0])), (a0, .inl (tg 0, 20, .inl (fun _ => 0))), (a1, .inl (tg 0, 20, .inl (fun _ => 0))), (a2, .inl (tg 0, 20, .inl (fun _ => 0))), (a3, .inl (tg 0, 20, .inl (fun _ => 0))), (a4, .inl (tg 0, 20, .inl (fun _ => 0))), (a5, .inl (tg 1, 600, .inl (fun _ => 0))), (a6, .inl (tg 0, 4, .inl (fun _ => 0))), (a7, .inl (tg 0, 30, .inl (fun _ => 0))), (a8, .inl (tg 0, 30, .inl (fun _ => 0)))] := hD
  refine W.widen (k := 9) (n := 764) (Nat.le_of_ble_eq_true rfl) (Nat.le_of_ble_eq_true rfl) ?_
  refine va_putF (D := D) (ci := 3) (v := .ref a8) (ty := .array .int) (C := RX3) (T := TX3) (N := 24) hx hb hts (by decide +kernel) tyX3 tyX3_ok nmX3 hown hK hP hD hS 0 rfl rfl 10 (by decide) (hts (.fieldLink RX3 35 "CardgateModel" "states" "[I") (by decide +kernel)) (fun _ h9 => h9) rfl hin rfl (by decide +kernel) rfl rfl (Nat.le_of_ble_eq_true rfl) dX3_init_73 (fun H locs hP hD hS => ?_)
  have hP : va_P D vwCl [(h0, .inr (3, [.ref a0, .ref a1, .ref a2, .ref a3, .ref a4, .ref a5, .int 0, .int 0, .ref a6, .ref a7, .ref a8, .null, .null, .null, .int 0, .null, .int 0, .int 0, .null, .null, .null, .int 0, .int 0, .int 0])), (a0, .inl (tg 0, 20, .inl (fun _ => 0))), (a1, .inl (tg 0, 20, .inl (fun _ => 0))), (a2, .inl (tg 0, 20, .inl (fun _ => 0))), (a3, .inl (tg 0, 20, .inl (fun _ => 0))), (a4, .inl (tg 0, 20, .inl (fun _ => 0))), (a5, .inl (tg 1, 600, .inl (fun _ => 0))), (a6, .inl (tg 0, 4, .inl (fun _ => 0))), (a7, .inl (tg 0, 30, .inl (fun _ => 0))), (a8, .inl (tg 0, 30, .inl (fun _ => 0)))] H := hP
  have hD : va_D A [(h0, .inr (3, [.ref a0, .ref a1, .ref a2, .ref a3, .ref a4, .ref a5, .int 0, .int 0, .ref a6, .ref a7, .ref a8, .null, .null, .null, .int 0, .null, .int 0, .int 0, .null, .null, .null, .int 0, .int 0, .int 0])), (a0, .inl (tg 0, 20, .inl (fun _ => 0))), (a1, .inl (tg 0, 20, .inl (fun _ => 0))), (a2, .inl (tg 0, 20, .inl (fun _ => 0))), (a3, .inl (tg 0, 20, .inl (fun _ => 0))), (a4, .inl (tg 0, 20, .inl (fun _ => 0))), (a5, .inl (tg 1, 600, .inl (fun _ => 0))), (a6, .inl (tg 0, 4, .inl (fun _ => 0))), (a7, .inl (tg 0, 30, .inl (fun _ => 0))), (a8, .inl (tg 0, 30, .inl (fun _ => 0)))] := hD
  refine lv_aload_n hx hb dX3_init_76 rfl (lv_at hl 0 rfl) ?_
  refine lv_bipush (v := 30) hx hb dX3_init_77 (by decide) ?_
  refine xn_newa (atype := .boolean) (a0 := (30, .inl (fun _ => 0))) hx hb (hts (.arrayClass .boolean) (by decide +kernel)) (hK.2 1 _ rfl).2 hP hD hS hA rfl (by decide) (by decide) (Nat.le_of_ble_eq_true rfl) (Nat.le_of_ble_eq_true rfl) (Nat.le_of_ble_eq_true rfl) dX3_init_79 (fun a9 H hP hD hS => ?_)
  have hP : va_P D vwCl [(h0, .inr (3, [.ref a0, .ref a1, .ref a2, .ref a3, .ref a4, .ref a5, .int 0, .int 0, .ref a6, .ref a7, .ref a8, .null, .null, .null, .int 0, .null, .int 0, .int 0, .null, .null, .null, .int 0, .int 0, .int 0])), (a0, .inl (tg 0, 20, .inl (fun _ => 0))), (a1, .inl (tg 0, 20, .inl (fun _ => 0))), (a2, .inl (tg 0, 20, .inl (fun _ => 0))), (a3, .inl (tg 0, 20, .inl (fun _ => 0))), (a4, .inl (tg 0, 20, .inl (fun _ => 0))), (a5, .inl (tg 1, 600, .inl (fun _ => 0))), (a6, .inl (tg 0, 4, .inl (fun _ => 0))), (a7, .inl (tg 0, 30, .inl (fun _ => 0))), (a8, .inl (tg 0, 30, .inl (fun _ => 0))), (a9, .inl (tg 1, 30, .inl (fun _ => 0)))] H := hP
  have hD : va_D A [(h0, .inr (3, [.ref a0, .ref a1, .ref a2, .ref a3, .ref a4, .ref a5, .int 0, .int 0, .ref a6, .ref a7, .ref a8, .null, .null, .null, .int 0, .null, .int 0, .int 0, .null, .null, .null, .int 0, .int 0, .int 0])), (a0, .inl (tg 0, 20, .inl (fun _ => 0))), (a1, .inl (tg 0, 20, .inl (fun _ => 0))), (a2, .inl (tg 0, 20, .inl (fun _ => 0))), (a3, .inl (tg 0, 20, .inl (fun _ => 0))), (a4, .inl (tg 0, 20, .inl (fun _ => 0))), (a5, .inl (tg 1, 600, .inl (fun _ => 0))), (a6, .inl (tg 0, 4, .inl (fun _ => 0))), (a7, .inl (tg 0, 30, .inl (fun _ => 0))), (a8, .inl (tg 0, 30, .inl (fun _ => 0))), (a9, .inl (tg 1, 30, .inl (fun _ => 0)))] := hD
  refine W.widen (k := 10) (n := 794) (Nat.le_of_ble_eq_true rfl) (Nat.le_of_ble_eq_true rfl) ?_
  refine va_putF (D := D) (ci := 3) (v := .ref a9) (ty := .array .boolean) (C := RX3) (T := TX3) (N := 24) hx hb hts (by decide +kernel) tyX3 tyX3_ok nmX3 hown hK hP hD hS 0 rfl rfl 11 (by decide) (hts (.fieldLink RX3 38 "CardgateModel" "broken" "[Z") (by decide +kernel)) (fun _ h9 => h9) rfl hin rfl (by decide +kernel) rfl rfl (Nat.le_of_ble_eq_true rfl) dX3_init_81 (fun H locs hP hD hS => ?_)
  have hP : va_P D vwCl [(h0, .inr (3, [.ref a0, .ref a1, .ref a2, .ref a3, .ref a4, .ref a5, .int 0, .int 0, .ref a6, .ref a7, .ref a8, .ref a9, .null, .null, .int 0, .null, .int 0, .int 0, .null, .null, .null, .int 0, .int 0, .int 0])), (a0, .inl (tg 0, 20, .inl (fun _ => 0))), (a1, .inl (tg 0, 20, .inl (fun _ => 0))), (a2, .inl (tg 0, 20, .inl (fun _ => 0))), (a3, .inl (tg 0, 20, .inl (fun _ => 0))), (a4, .inl (tg 0, 20, .inl (fun _ => 0))), (a5, .inl (tg 1, 600, .inl (fun _ => 0))), (a6, .inl (tg 0, 4, .inl (fun _ => 0))), (a7, .inl (tg 0, 30, .inl (fun _ => 0))), (a8, .inl (tg 0, 30, .inl (fun _ => 0))), (a9, .inl (tg 1, 30, .inl (fun _ => 0)))] H := hP
  have hD : va_D A [(h0, .inr (3, [.ref a0, .ref a1, .ref a2, .ref a3, .ref a4, .ref a5, .int 0, .int 0, .ref a6, .ref a7, .ref a8, .ref a9, .null, .null, .int 0, .null, .int 0, .int 0, .null, .null, .null, .int 0, .int 0, .int 0])), (a0, .inl (tg 0, 20, .inl (fun _ => 0))), (a1, .inl (tg 0, 20, .inl (fun _ => 0))), (a2, .inl (tg 0, 20, .inl (fun _ => 0))), (a3, .inl (tg 0, 20, .inl (fun _ => 0))), (a4, .inl (tg 0, 20, .inl (fun _ => 0))), (a5, .inl (tg 1, 600, .inl (fun _ => 0))), (a6, .inl (tg 0, 4, .inl (fun _ => 0))), (a7, .inl (tg 0, 30, .inl (fun _ => 0))), (a8, .inl (tg 0, 30, .inl (fun _ => 0))), (a9, .inl (tg 1, 30, .inl (fun _ => 0)))] := hD
  refine lv_aload_n hx hb dX3_init_84 rfl (lv_at hl 0 rfl) ?_
  refine lv_sipush (v := 900) hx hb dX3_init_85 (by decide) ?_
  refine xn_newa (atype := .boolean) (a0 := (900, .inl (fun _ => 0))) hx hb (hts (.arrayClass .boolean) (by decide +kernel)) (hK.2 1 _ rfl).2 hP hD hS hA rfl (by decide) (by decide) (Nat.le_of_ble_eq_true rfl) (Nat.le_of_ble_eq_true rfl) (Nat.le_of_ble_eq_true rfl) dX3_init_88 (fun a10 H hP hD hS => ?_)
  have hP : va_P D vwCl [(h0, .inr (3, [.ref a0, .ref a1, .ref a2, .ref a3, .ref a4, .ref a5, .int 0, .int 0, .ref a6, .ref a7, .ref a8, .ref a9, .null, .null, .int 0, .null, .int 0, .int 0, .null, .null, .null, .int 0, .int 0, .int 0])), (a0, .inl (tg 0, 20, .inl (fun _ => 0))), (a1, .inl (tg 0, 20, .inl (fun _ => 0))), (a2, .inl (tg 0, 20, .inl (fun _ => 0))), (a3, .inl (tg 0, 20, .inl (fun _ => 0))), (a4, .inl (tg 0, 20, .inl (fun _ => 0))), (a5, .inl (tg 1, 600, .inl (fun _ => 0))), (a6, .inl (tg 0, 4, .inl (fun _ => 0))), (a7, .inl (tg 0, 30, .inl (fun _ => 0))), (a8, .inl (tg 0, 30, .inl (fun _ => 0))), (a9, .inl (tg 1, 30, .inl (fun _ => 0))), (a10, .inl (tg 1, 900, .inl (fun _ => 0)))] H := hP
  have hD : va_D A [(h0, .inr (3, [.ref a0, .ref a1, .ref a2, .ref a3, .ref a4, .ref a5, .int 0, .int 0, .ref a6, .ref a7, .ref a8, .ref a9, .null, .null, .int 0, .null, .int 0, .int 0, .null, .null, .null, .int 0, .int 0, .int 0])), (a0, .inl (tg 0, 20, .inl (fun _ => 0))), (a1, .inl (tg 0, 20, .inl (fun _ => 0))), (a2, .inl (tg 0, 20, .inl (fun _ => 0))), (a3, .inl (tg 0, 20, .inl (fun _ => 0))), (a4, .inl (tg 0, 20, .inl (fun _ => 0))), (a5, .inl (tg 1, 600, .inl (fun _ => 0))), (a6, .inl (tg 0, 4, .inl (fun _ => 0))), (a7, .inl (tg 0, 30, .inl (fun _ => 0))), (a8, .inl (tg 0, 30, .inl (fun _ => 0))), (a9, .inl (tg 1, 30, .inl (fun _ => 0))), (a10, .inl (tg 1, 900, .inl (fun _ => 0)))] := hD
  refine W.widen (k := 11) (n := 1694) (Nat.le_of_ble_eq_true rfl) (Nat.le_of_ble_eq_true rfl) ?_
  refine va_putF (D := D) (ci := 3) (v := .ref a10) (ty := .array .boolean) (C := RX3) (T := TX3) (N := 24) hx hb hts (by decide +kernel) tyX3 tyX3_ok nmX3 hown hK hP hD hS 0 rfl rfl 12 (by decide) (hts (.fieldLink RX3 41 "CardgateModel" "needs" "[Z") (by decide +kernel)) (fun _ h9 => h9) rfl hin rfl (by decide +kernel) rfl rfl (Nat.le_of_ble_eq_true rfl) dX3_init_90 (fun H locs hP hD hS => ?_)
  have hP : va_P D vwCl [(h0, .inr (3, [.ref a0, .ref a1, .ref a2, .ref a3, .ref a4, .ref a5, .int 0, .int 0, .ref a6, .ref a7, .ref a8, .ref a9, .ref a10, .null, .int 0, .null, .int 0, .int 0, .null, .null, .null, .int 0, .int 0, .int 0])), (a0, .inl (tg 0, 20, .inl (fun _ => 0))), (a1, .inl (tg 0, 20, .inl (fun _ => 0))), (a2, .inl (tg 0, 20, .inl (fun _ => 0))), (a3, .inl (tg 0, 20, .inl (fun _ => 0))), (a4, .inl (tg 0, 20, .inl (fun _ => 0))), (a5, .inl (tg 1, 600, .inl (fun _ => 0))), (a6, .inl (tg 0, 4, .inl (fun _ => 0))), (a7, .inl (tg 0, 30, .inl (fun _ => 0))), (a8, .inl (tg 0, 30, .inl (fun _ => 0))), (a9, .inl (tg 1, 30, .inl (fun _ => 0))), (a10, .inl (tg 1, 900, .inl (fun _ => 0)))] H := hP
  have hD : va_D A [(h0, .inr (3, [.ref a0, .ref a1, .ref a2, .ref a3, .ref a4, .ref a5, .int 0, .int 0, .ref a6, .ref a7, .ref a8, .ref a9, .ref a10, .null, .int 0, .null, .int 0, .int 0, .null, .null, .null, .int 0, .int 0, .int 0])), (a0, .inl (tg 0, 20, .inl (fun _ => 0))), (a1, .inl (tg 0, 20, .inl (fun _ => 0))), (a2, .inl (tg 0, 20, .inl (fun _ => 0))), (a3, .inl (tg 0, 20, .inl (fun _ => 0))), (a4, .inl (tg 0, 20, .inl (fun _ => 0))), (a5, .inl (tg 1, 600, .inl (fun _ => 0))), (a6, .inl (tg 0, 4, .inl (fun _ => 0))), (a7, .inl (tg 0, 30, .inl (fun _ => 0))), (a8, .inl (tg 0, 30, .inl (fun _ => 0))), (a9, .inl (tg 1, 30, .inl (fun _ => 0))), (a10, .inl (tg 1, 900, .inl (fun _ => 0)))] := hD
  refine lv_aload_n hx hb dX3_init_93 rfl (lv_at hl 0 rfl) ?_
  refine lv_sipush (v := 900) hx hb dX3_init_94 (by decide) ?_
  refine xn_newa (atype := .boolean) (a0 := (900, .inl (fun _ => 0))) hx hb (hts (.arrayClass .boolean) (by decide +kernel)) (hK.2 1 _ rfl).2 hP hD hS hA rfl (by decide) (by decide) (Nat.le_of_ble_eq_true rfl) (Nat.le_of_ble_eq_true rfl) (Nat.le_of_ble_eq_true rfl) dX3_init_97 (fun a11 H hP hD hS => ?_)
  have hP : va_P D vwCl [(h0, .inr (3, [.ref a0, .ref a1, .ref a2, .ref a3, .ref a4, .ref a5, .int 0, .int 0, .ref a6, .ref a7, .ref a8, .ref a9, .ref a10, .null, .int 0, .null, .int 0, .int 0, .null, .null, .null, .int 0, .int 0, .int 0])), (a0, .inl (tg 0, 20, .inl (fun _ => 0))), (a1, .inl (tg 0, 20, .inl (fun _ => 0))), (a2, .inl (tg 0, 20, .inl (fun _ => 0))), (a3, .inl (tg 0, 20, .inl (fun _ => 0))), (a4, .inl (tg 0, 20, .inl (fun _ => 0))), (a5, .inl (tg 1, 600, .inl (fun _ => 0))), (a6, .inl (tg 0, 4, .inl (fun _ => 0))), (a7, .inl (tg 0, 30, .inl (fun _ => 0))), (a8, .inl (tg 0, 30, .inl (fun _ => 0))), (a9, .inl (tg 1, 30, .inl (fun _ => 0))), (a10, .inl (tg 1, 900, .inl (fun _ => 0))), (a11, .inl (tg 1, 900, .inl (fun _ => 0)))] H := hP
  have hD : va_D A [(h0, .inr (3, [.ref a0, .ref a1, .ref a2, .ref a3, .ref a4, .ref a5, .int 0, .int 0, .ref a6, .ref a7, .ref a8, .ref a9, .ref a10, .null, .int 0, .null, .int 0, .int 0, .null, .null, .null, .int 0, .int 0, .int 0])), (a0, .inl (tg 0, 20, .inl (fun _ => 0))), (a1, .inl (tg 0, 20, .inl (fun _ => 0))), (a2, .inl (tg 0, 20, .inl (fun _ => 0))), (a3, .inl (tg 0, 20, .inl (fun _ => 0))), (a4, .inl (tg 0, 20, .inl (fun _ => 0))), (a5, .inl (tg 1, 600, .inl (fun _ => 0))), (a6, .inl (tg 0, 4, .inl (fun _ => 0))), (a7, .inl (tg 0, 30, .inl (fun _ => 0))), (a8, .inl (tg 0, 30, .inl (fun _ => 0))), (a9, .inl (tg 1, 30, .inl (fun _ => 0))), (a10, .inl (tg 1, 900, .inl (fun _ => 0))), (a11, .inl (tg 1, 900, .inl (fun _ => 0)))] := hD
  refine W.widen (k := 12) (n := 2594) (Nat.le_of_ble_eq_true rfl) (Nat.le_of_ble_eq_true rfl) ?_
  refine va_putF (D := D) (ci := 3) (v := .ref a11) (ty := .array .boolean) (C := RX3) (T := TX3) (N := 24) hx hb hts (by decide +kernel) tyX3 tyX3_ok nmX3 hown hK hP hD hS 0 rfl rfl 13 (by decide) (hts (.fieldLink RX3 44 "CardgateModel" "clashes" "[Z") (by decide +kernel)) (fun _ h9 => h9) rfl hin rfl (by decide +kernel) rfl rfl (Nat.le_of_ble_eq_true rfl) dX3_init_99 (fun H locs hP hD hS => ?_)
  have hP : va_P D vwCl [(h0, .inr (3, [.ref a0, .ref a1, .ref a2, .ref a3, .ref a4, .ref a5, .int 0, .int 0, .ref a6, .ref a7, .ref a8, .ref a9, .ref a10, .ref a11, .int 0, .null, .int 0, .int 0, .null, .null, .null, .int 0, .int 0, .int 0])), (a0, .inl (tg 0, 20, .inl (fun _ => 0))), (a1, .inl (tg 0, 20, .inl (fun _ => 0))), (a2, .inl (tg 0, 20, .inl (fun _ => 0))), (a3, .inl (tg 0, 20, .inl (fun _ => 0))), (a4, .inl (tg 0, 20, .inl (fun _ => 0))), (a5, .inl (tg 1, 600, .inl (fun _ => 0))), (a6, .inl (tg 0, 4, .inl (fun _ => 0))), (a7, .inl (tg 0, 30, .inl (fun _ => 0))), (a8, .inl (tg 0, 30, .inl (fun _ => 0))), (a9, .inl (tg 1, 30, .inl (fun _ => 0))), (a10, .inl (tg 1, 900, .inl (fun _ => 0))), (a11, .inl (tg 1, 900, .inl (fun _ => 0)))] H := hP
  have hD : va_D A [(h0, .inr (3, [.ref a0, .ref a1, .ref a2, .ref a3, .ref a4, .ref a5, .int 0, .int 0, .ref a6, .ref a7, .ref a8, .ref a9, .ref a10, .ref a11, .int 0, .null, .int 0, .int 0, .null, .null, .null, .int 0, .int 0, .int 0])), (a0, .inl (tg 0, 20, .inl (fun _ => 0))), (a1, .inl (tg 0, 20, .inl (fun _ => 0))), (a2, .inl (tg 0, 20, .inl (fun _ => 0))), (a3, .inl (tg 0, 20, .inl (fun _ => 0))), (a4, .inl (tg 0, 20, .inl (fun _ => 0))), (a5, .inl (tg 1, 600, .inl (fun _ => 0))), (a6, .inl (tg 0, 4, .inl (fun _ => 0))), (a7, .inl (tg 0, 30, .inl (fun _ => 0))), (a8, .inl (tg 0, 30, .inl (fun _ => 0))), (a9, .inl (tg 1, 30, .inl (fun _ => 0))), (a10, .inl (tg 1, 900, .inl (fun _ => 0))), (a11, .inl (tg 1, 900, .inl (fun _ => 0)))] := hD
  refine lv_aload_n hx hb dX3_init_102 rfl (lv_at hl 0 rfl) ?_
  refine lv_bipush (v := 30) hx hb dX3_init_103 (by decide) ?_
  refine xn_newa (atype := .int) (a0 := (30, .inl (fun _ => 0))) hx hb (hts (.arrayClass .int) (by decide +kernel)) (hK.2 0 _ rfl).2 hP hD hS hA rfl (by decide) (by decide) (Nat.le_of_ble_eq_true rfl) (Nat.le_of_ble_eq_true rfl) (Nat.le_of_ble_eq_true rfl) dX3_init_105 (fun a12 H hP hD hS => ?_)
  have hP : va_P D vwCl [(h0, .inr (3, [.ref a0, .ref a1, .ref a2, .ref a3, .ref a4, .ref a5, .int 0, .int 0, .ref a6, .ref a7, .ref a8, .ref a9, .ref a10, .ref a11, .int 0, .null, .int 0, .int 0, .null, .null, .null, .int 0, .int 0, .int 0])), (a0, .inl (tg 0, 20, .inl (fun _ => 0))), (a1, .inl (tg 0, 20, .inl (fun _ => 0))), (a2, .inl (tg 0, 20, .inl (fun _ => 0))), (a3, .inl (tg 0, 20, .inl (fun _ => 0))), (a4, .inl (tg 0, 20, .inl (fun _ => 0))), (a5, .inl (tg 1, 600, .inl (fun _ => 0))), (a6, .inl (tg 0, 4, .inl (fun _ => 0))), (a7, .inl (tg 0, 30, .inl (fun _ => 0))), (a8, .inl (tg 0, 30, .inl (fun _ => 0))), (a9, .inl (tg 1, 30, .inl (fun _ => 0))), (a10, .inl (tg 1, 900, .inl (fun _ => 0))), (a11, .inl (tg 1, 900, .inl (fun _ => 0))), (a12, .inl (tg 0, 30, .inl (fun _ => 0)))] H := hP
  have hD : va_D A [(h0, .inr (3, [.ref a0, .ref a1, .ref a2, .ref a3, .ref a4, .ref a5, .int 0, .int 0, .ref a6, .ref a7, .ref a8, .ref a9, .ref a10, .ref a11, .int 0, .null, .int 0, .int 0, .null, .null, .null, .int 0, .int 0, .int 0])), (a0, .inl (tg 0, 20, .inl (fun _ => 0))), (a1, .inl (tg 0, 20, .inl (fun _ => 0))), (a2, .inl (tg 0, 20, .inl (fun _ => 0))), (a3, .inl (tg 0, 20, .inl (fun _ => 0))), (a4, .inl (tg 0, 20, .inl (fun _ => 0))), (a5, .inl (tg 1, 600, .inl (fun _ => 0))), (a6, .inl (tg 0, 4, .inl (fun _ => 0))), (a7, .inl (tg 0, 30, .inl (fun _ => 0))), (a8, .inl (tg 0, 30, .inl (fun _ => 0))), (a9, .inl (tg 1, 30, .inl (fun _ => 0))), (a10, .inl (tg 1, 900, .inl (fun _ => 0))), (a11, .inl (tg 1, 900, .inl (fun _ => 0))), (a12, .inl (tg 0, 30, .inl (fun _ => 0)))] := hD
  refine W.widen (k := 13) (n := 2624) (Nat.le_of_ble_eq_true rfl) (Nat.le_of_ble_eq_true rfl) ?_
  refine va_putF (D := D) (ci := 3) (v := .ref a12) (ty := .array .int) (C := RX3) (T := TX3) (N := 24) hx hb hts (by decide +kernel) tyX3 tyX3_ok nmX3 hown hK hP hD hS 0 rfl rfl 15 (by decide) (hts (.fieldLink RX3 47 "CardgateModel" "queue" "[I") (by decide +kernel)) (fun _ h9 => h9) rfl hin rfl (by decide +kernel) rfl rfl (Nat.le_of_ble_eq_true rfl) dX3_init_107 (fun H locs hP hD hS => ?_)
  have hP : va_P D vwCl [(h0, .inr (3, [.ref a0, .ref a1, .ref a2, .ref a3, .ref a4, .ref a5, .int 0, .int 0, .ref a6, .ref a7, .ref a8, .ref a9, .ref a10, .ref a11, .int 0, .ref a12, .int 0, .int 0, .null, .null, .null, .int 0, .int 0, .int 0])), (a0, .inl (tg 0, 20, .inl (fun _ => 0))), (a1, .inl (tg 0, 20, .inl (fun _ => 0))), (a2, .inl (tg 0, 20, .inl (fun _ => 0))), (a3, .inl (tg 0, 20, .inl (fun _ => 0))), (a4, .inl (tg 0, 20, .inl (fun _ => 0))), (a5, .inl (tg 1, 600, .inl (fun _ => 0))), (a6, .inl (tg 0, 4, .inl (fun _ => 0))), (a7, .inl (tg 0, 30, .inl (fun _ => 0))), (a8, .inl (tg 0, 30, .inl (fun _ => 0))), (a9, .inl (tg 1, 30, .inl (fun _ => 0))), (a10, .inl (tg 1, 900, .inl (fun _ => 0))), (a11, .inl (tg 1, 900, .inl (fun _ => 0))), (a12, .inl (tg 0, 30, .inl (fun _ => 0)))] H := hP
  have hD : va_D A [(h0, .inr (3, [.ref a0, .ref a1, .ref a2, .ref a3, .ref a4, .ref a5, .int 0, .int 0, .ref a6, .ref a7, .ref a8, .ref a9, .ref a10, .ref a11, .int 0, .ref a12, .int 0, .int 0, .null, .null, .null, .int 0, .int 0, .int 0])), (a0, .inl (tg 0, 20, .inl (fun _ => 0))), (a1, .inl (tg 0, 20, .inl (fun _ => 0))), (a2, .inl (tg 0, 20, .inl (fun _ => 0))), (a3, .inl (tg 0, 20, .inl (fun _ => 0))), (a4, .inl (tg 0, 20, .inl (fun _ => 0))), (a5, .inl (tg 1, 600, .inl (fun _ => 0))), (a6, .inl (tg 0, 4, .inl (fun _ => 0))), (a7, .inl (tg 0, 30, .inl (fun _ => 0))), (a8, .inl (tg 0, 30, .inl (fun _ => 0))), (a9, .inl (tg 1, 30, .inl (fun _ => 0))), (a10, .inl (tg 1, 900, .inl (fun _ => 0))), (a11, .inl (tg 1, 900, .inl (fun _ => 0))), (a12, .inl (tg 0, 30, .inl (fun _ => 0)))] := hD
  refine lv_aload_n hx hb dX3_init_110 rfl (lv_at hl 0 rfl) ?_
  refine lv_bipush (v := 30) hx hb dX3_init_111 (by decide) ?_
  refine xn_newa (atype := .boolean) (a0 := (30, .inl (fun _ => 0))) hx hb (hts (.arrayClass .boolean) (by decide +kernel)) (hK.2 1 _ rfl).2 hP hD hS hA rfl (by decide) (by decide) (Nat.le_of_ble_eq_true rfl) (Nat.le_of_ble_eq_true rfl) (Nat.le_of_ble_eq_true rfl) dX3_init_113 (fun a13 H hP hD hS => ?_)
  have hP : va_P D vwCl [(h0, .inr (3, [.ref a0, .ref a1, .ref a2, .ref a3, .ref a4, .ref a5, .int 0, .int 0, .ref a6, .ref a7, .ref a8, .ref a9, .ref a10, .ref a11, .int 0, .ref a12, .int 0, .int 0, .null, .null, .null, .int 0, .int 0, .int 0])), (a0, .inl (tg 0, 20, .inl (fun _ => 0))), (a1, .inl (tg 0, 20, .inl (fun _ => 0))), (a2, .inl (tg 0, 20, .inl (fun _ => 0))), (a3, .inl (tg 0, 20, .inl (fun _ => 0))), (a4, .inl (tg 0, 20, .inl (fun _ => 0))), (a5, .inl (tg 1, 600, .inl (fun _ => 0))), (a6, .inl (tg 0, 4, .inl (fun _ => 0))), (a7, .inl (tg 0, 30, .inl (fun _ => 0))), (a8, .inl (tg 0, 30, .inl (fun _ => 0))), (a9, .inl (tg 1, 30, .inl (fun _ => 0))), (a10, .inl (tg 1, 900, .inl (fun _ => 0))), (a11, .inl (tg 1, 900, .inl (fun _ => 0))), (a12, .inl (tg 0, 30, .inl (fun _ => 0))), (a13, .inl (tg 1, 30, .inl (fun _ => 0)))] H := hP
  have hD : va_D A [(h0, .inr (3, [.ref a0, .ref a1, .ref a2, .ref a3, .ref a4, .ref a5, .int 0, .int 0, .ref a6, .ref a7, .ref a8, .ref a9, .ref a10, .ref a11, .int 0, .ref a12, .int 0, .int 0, .null, .null, .null, .int 0, .int 0, .int 0])), (a0, .inl (tg 0, 20, .inl (fun _ => 0))), (a1, .inl (tg 0, 20, .inl (fun _ => 0))), (a2, .inl (tg 0, 20, .inl (fun _ => 0))), (a3, .inl (tg 0, 20, .inl (fun _ => 0))), (a4, .inl (tg 0, 20, .inl (fun _ => 0))), (a5, .inl (tg 1, 600, .inl (fun _ => 0))), (a6, .inl (tg 0, 4, .inl (fun _ => 0))), (a7, .inl (tg 0, 30, .inl (fun _ => 0))), (a8, .inl (tg 0, 30, .inl (fun _ => 0))), (a9, .inl (tg 1, 30, .inl (fun _ => 0))), (a10, .inl (tg 1, 900, .inl (fun _ => 0))), (a11, .inl (tg 1, 900, .inl (fun _ => 0))), (a12, .inl (tg 0, 30, .inl (fun _ => 0))), (a13, .inl (tg 1, 30, .inl (fun _ => 0)))] := hD
  refine W.widen (k := 14) (n := 2654) (Nat.le_of_ble_eq_true rfl) (Nat.le_of_ble_eq_true rfl) ?_
  refine va_putF (D := D) (ci := 3) (v := .ref a13) (ty := .array .boolean) (C := RX3) (T := TX3) (N := 24) hx hb hts (by decide +kernel) tyX3 tyX3_ok nmX3 hown hK hP hD hS 0 rfl rfl 18 (by decide) (hts (.fieldLink RX3 50 "CardgateModel" "isIn" "[Z") (by decide +kernel)) (fun _ h9 => h9) rfl hin rfl (by decide +kernel) rfl rfl (Nat.le_of_ble_eq_true rfl) dX3_init_115 (fun H locs hP hD hS => ?_)
  have hP : va_P D vwCl [(h0, .inr (3, [.ref a0, .ref a1, .ref a2, .ref a3, .ref a4, .ref a5, .int 0, .int 0, .ref a6, .ref a7, .ref a8, .ref a9, .ref a10, .ref a11, .int 0, .ref a12, .int 0, .int 0, .ref a13, .null, .null, .int 0, .int 0, .int 0])), (a0, .inl (tg 0, 20, .inl (fun _ => 0))), (a1, .inl (tg 0, 20, .inl (fun _ => 0))), (a2, .inl (tg 0, 20, .inl (fun _ => 0))), (a3, .inl (tg 0, 20, .inl (fun _ => 0))), (a4, .inl (tg 0, 20, .inl (fun _ => 0))), (a5, .inl (tg 1, 600, .inl (fun _ => 0))), (a6, .inl (tg 0, 4, .inl (fun _ => 0))), (a7, .inl (tg 0, 30, .inl (fun _ => 0))), (a8, .inl (tg 0, 30, .inl (fun _ => 0))), (a9, .inl (tg 1, 30, .inl (fun _ => 0))), (a10, .inl (tg 1, 900, .inl (fun _ => 0))), (a11, .inl (tg 1, 900, .inl (fun _ => 0))), (a12, .inl (tg 0, 30, .inl (fun _ => 0))), (a13, .inl (tg 1, 30, .inl (fun _ => 0)))] H := hP
  have hD : va_D A [(h0, .inr (3, [.ref a0, .ref a1, .ref a2, .ref a3, .ref a4, .ref a5, .int 0, .int 0, .ref a6, .ref a7, .ref a8, .ref a9, .ref a10, .ref a11, .int 0, .ref a12, .int 0, .int 0, .ref a13, .null, .null, .int 0, .int 0, .int 0])), (a0, .inl (tg 0, 20, .inl (fun _ => 0))), (a1, .inl (tg 0, 20, .inl (fun _ => 0))), (a2, .inl (tg 0, 20, .inl (fun _ => 0))), (a3, .inl (tg 0, 20, .inl (fun _ => 0))), (a4, .inl (tg 0, 20, .inl (fun _ => 0))), (a5, .inl (tg 1, 600, .inl (fun _ => 0))), (a6, .inl (tg 0, 4, .inl (fun _ => 0))), (a7, .inl (tg 0, 30, .inl (fun _ => 0))), (a8, .inl (tg 0, 30, .inl (fun _ => 0))), (a9, .inl (tg 1, 30, .inl (fun _ => 0))), (a10, .inl (tg 1, 900, .inl (fun _ => 0))), (a11, .inl (tg 1, 900, .inl (fun _ => 0))), (a12, .inl (tg 0, 30, .inl (fun _ => 0))), (a13, .inl (tg 1, 30, .inl (fun _ => 0)))] := hD
  refine lv_aload_n hx hb dX3_init_118 rfl (lv_at hl 0 rfl) ?_
  refine lv_bipush (v := 20) hx hb dX3_init_119 (by decide) ?_
  refine xn_newa (atype := .int) (a0 := (20, .inl (fun _ => 0))) hx hb (hts (.arrayClass .int) (by decide +kernel)) (hK.2 0 _ rfl).2 hP hD hS hA rfl (by decide) (by decide) (Nat.le_of_ble_eq_true rfl) (Nat.le_of_ble_eq_true rfl) (Nat.le_of_ble_eq_true rfl) dX3_init_121 (fun a14 H hP hD hS => ?_)
  have hP : va_P D vwCl [(h0, .inr (3, [.ref a0, .ref a1, .ref a2, .ref a3, .ref a4, .ref a5, .int 0, .int 0, .ref a6, .ref a7, .ref a8, .ref a9, .ref a10, .ref a11, .int 0, .ref a12, .int 0, .int 0, .ref a13, .null, .null, .int 0, .int 0, .int 0])), (a0, .inl (tg 0, 20, .inl (fun _ => 0))), (a1, .inl (tg 0, 20, .inl (fun _ => 0))), (a2, .inl (tg 0, 20, .inl (fun _ => 0))), (a3, .inl (tg 0, 20, .inl (fun _ => 0))), (a4, .inl (tg 0, 20, .inl (fun _ => 0))), (a5, .inl (tg 1, 600, .inl (fun _ => 0))), (a6, .inl (tg 0, 4, .inl (fun _ => 0))), (a7, .inl (tg 0, 30, .inl (fun _ => 0))), (a8, .inl (tg 0, 30, .inl (fun _ => 0))), (a9, .inl (tg 1, 30, .inl (fun _ => 0))), (a10, .inl (tg 1, 900, .inl (fun _ => 0))), (a11, .inl (tg 1, 900, .inl (fun _ => 0))), (a12, .inl (tg 0, 30, .inl (fun _ => 0))), (a13, .inl (tg 1, 30, .inl (fun _ => 0))), (a14, .inl (tg 0, 20, .inl (fun _ => 0)))] H := hP
  have hD : va_D A [(h0, .inr (3, [.ref a0, .ref a1, .ref a2, .ref a3, .ref a4, .ref a5, .int 0, .int 0, .ref a6, .ref a7, .ref a8, .ref a9, .ref a10, .ref a11, .int 0, .ref a12, .int 0, .int 0, .ref a13, .null, .null, .int 0, .int 0, .int 0])), (a0, .inl (tg 0, 20, .inl (fun _ => 0))), (a1, .inl (tg 0, 20, .inl (fun _ => 0))), (a2, .inl (tg 0, 20, .inl (fun _ => 0))), (a3, .inl (tg 0, 20, .inl (fun _ => 0))), (a4, .inl (tg 0, 20, .inl (fun _ => 0))), (a5, .inl (tg 1, 600, .inl (fun _ => 0))), (a6, .inl (tg 0, 4, .inl (fun _ => 0))), (a7, .inl (tg 0, 30, .inl (fun _ => 0))), (a8, .inl (tg 0, 30, .inl (fun _ => 0))), (a9, .inl (tg 1, 30, .inl (fun _ => 0))), (a10, .inl (tg 1, 900, .inl (fun _ => 0))), (a11, .inl (tg 1, 900, .inl (fun _ => 0))), (a12, .inl (tg 0, 30, .inl (fun _ => 0))), (a13, .inl (tg 1, 30, .inl (fun _ => 0))), (a14, .inl (tg 0, 20, .inl (fun _ => 0)))] := hD
  refine W.widen (k := 15) (n := 2674) (Nat.le_of_ble_eq_true rfl) (Nat.le_of_ble_eq_true rfl) ?_
  refine va_putF (D := D) (ci := 3) (v := .ref a14) (ty := .array .int) (C := RX3) (T := TX3) (N := 24) hx hb hts (by decide +kernel) tyX3 tyX3_ok nmX3 hown hK hP hD hS 0 rfl rfl 19 (by decide) (hts (.fieldLink RX3 53 "CardgateModel" "froms" "[I") (by decide +kernel)) (fun _ h9 => h9) rfl hin rfl (by decide +kernel) rfl rfl (Nat.le_of_ble_eq_true rfl) dX3_init_123 (fun H locs hP hD hS => ?_)
  have hP : va_P D vwCl [(h0, .inr (3, [.ref a0, .ref a1, .ref a2, .ref a3, .ref a4, .ref a5, .int 0, .int 0, .ref a6, .ref a7, .ref a8, .ref a9, .ref a10, .ref a11, .int 0, .ref a12, .int 0, .int 0, .ref a13, .ref a14, .null, .int 0, .int 0, .int 0])), (a0, .inl (tg 0, 20, .inl (fun _ => 0))), (a1, .inl (tg 0, 20, .inl (fun _ => 0))), (a2, .inl (tg 0, 20, .inl (fun _ => 0))), (a3, .inl (tg 0, 20, .inl (fun _ => 0))), (a4, .inl (tg 0, 20, .inl (fun _ => 0))), (a5, .inl (tg 1, 600, .inl (fun _ => 0))), (a6, .inl (tg 0, 4, .inl (fun _ => 0))), (a7, .inl (tg 0, 30, .inl (fun _ => 0))), (a8, .inl (tg 0, 30, .inl (fun _ => 0))), (a9, .inl (tg 1, 30, .inl (fun _ => 0))), (a10, .inl (tg 1, 900, .inl (fun _ => 0))), (a11, .inl (tg 1, 900, .inl (fun _ => 0))), (a12, .inl (tg 0, 30, .inl (fun _ => 0))), (a13, .inl (tg 1, 30, .inl (fun _ => 0))), (a14, .inl (tg 0, 20, .inl (fun _ => 0)))] H := hP
  have hD : va_D A [(h0, .inr (3, [.ref a0, .ref a1, .ref a2, .ref a3, .ref a4, .ref a5, .int 0, .int 0, .ref a6, .ref a7, .ref a8, .ref a9, .ref a10, .ref a11, .int 0, .ref a12, .int 0, .int 0, .ref a13, .ref a14, .null, .int 0, .int 0, .int 0])), (a0, .inl (tg 0, 20, .inl (fun _ => 0))), (a1, .inl (tg 0, 20, .inl (fun _ => 0))), (a2, .inl (tg 0, 20, .inl (fun _ => 0))), (a3, .inl (tg 0, 20, .inl (fun _ => 0))), (a4, .inl (tg 0, 20, .inl (fun _ => 0))), (a5, .inl (tg 1, 600, .inl (fun _ => 0))), (a6, .inl (tg 0, 4, .inl (fun _ => 0))), (a7, .inl (tg 0, 30, .inl (fun _ => 0))), (a8, .inl (tg 0, 30, .inl (fun _ => 0))), (a9, .inl (tg 1, 30, .inl (fun _ => 0))), (a10, .inl (tg 1, 900, .inl (fun _ => 0))), (a11, .inl (tg 1, 900, .inl (fun _ => 0))), (a12, .inl (tg 0, 30, .inl (fun _ => 0))), (a13, .inl (tg 1, 30, .inl (fun _ => 0))), (a14, .inl (tg 0, 20, .inl (fun _ => 0)))] := hD
  refine lv_aload_n hx hb dX3_init_126 rfl (lv_at hl 0 rfl) ?_
  refine lv_bipush (v := 20) hx hb dX3_init_127 (by decide) ?_
  refine xn_newa (atype := .int) (a0 := (20, .inl (fun _ => 0))) hx hb (hts (.arrayClass .int) (by decide +kernel)) (hK.2 0 _ rfl).2 hP hD hS hA rfl (by decide) (by decide) (Nat.le_of_ble_eq_true rfl) (Nat.le_of_ble_eq_true rfl) (Nat.le_of_ble_eq_true rfl) dX3_init_129 (fun a15 H hP hD hS => ?_)
  have hP : va_P D vwCl [(h0, .inr (3, [.ref a0, .ref a1, .ref a2, .ref a3, .ref a4, .ref a5, .int 0, .int 0, .ref a6, .ref a7, .ref a8, .ref a9, .ref a10, .ref a11, .int 0, .ref a12, .int 0, .int 0, .ref a13, .ref a14, .null, .int 0, .int 0, .int 0])), (a0, .inl (tg 0, 20, .inl (fun _ => 0))), (a1, .inl (tg 0, 20, .inl (fun _ => 0))), (a2, .inl (tg 0, 20, .inl (fun _ => 0))), (a3, .inl (tg 0, 20, .inl (fun _ => 0))), (a4, .inl (tg 0, 20, .inl (fun _ => 0))), (a5, .inl (tg 1, 600, .inl (fun _ => 0))), (a6, .inl (tg 0, 4, .inl (fun _ => 0))), (a7, .inl (tg 0, 30, .inl (fun _ => 0))), (a8, .inl (tg 0, 30, .inl (fun _ => 0))), (a9, .inl (tg 1, 30, .inl (fun _ => 0))), (a10, .inl (tg 1, 900, .inl (fun _ => 0))), (a11, .inl (tg 1, 900, .inl (fun _ => 0))), (a12, .inl (tg 0, 30, .inl (fun _ => 0))), (a13, .inl (tg 1, 30, .inl (fun _ => 0))), (a14, .inl (tg 0, 20, .inl (fun _ => 0))), (a15, .inl (tg 0, 20, .inl (fun _ => 0)))] H := hP
  have hD : va_D A [(h0, .inr (3, [.ref a0, .ref a1, .ref a2, .ref a3, .ref a4, .ref a5, .int 0, .int 0, .ref a6, .ref a7, .ref a8, .ref a9, .ref a10, .ref a11, .int 0, .ref a12, .int 0, .int 0, .ref a13, .ref a14, .null, .int 0, .int 0, .int 0])), (a0, .inl (tg 0, 20, .inl (fun _ => 0))), (a1, .inl (tg 0, 20, .inl (fun _ => 0))), (a2, .inl (tg 0, 20, .inl (fun _ => 0))), (a3, .inl (tg 0, 20, .inl (fun _ => 0))), (a4, .inl (tg 0, 20, .inl (fun _ => 0))), (a5, .inl (tg 1, 600, .inl (fun _ => 0))), (a6, .inl (tg 0, 4, .inl (fun _ => 0))), (a7, .inl (tg 0, 30, .inl (fun _ => 0))), (a8, .inl (tg 0, 30, .inl (fun _ => 0))), (a9, .inl (tg 1, 30, .inl (fun _ => 0))), (a10, .inl (tg 1, 900, .inl (fun _ => 0))), (a11, .inl (tg 1, 900, .inl (fun _ => 0))), (a12, .inl (tg 0, 30, .inl (fun _ => 0))), (a13, .inl (tg 1, 30, .inl (fun _ => 0))), (a14, .inl (tg 0, 20, .inl (fun _ => 0))), (a15, .inl (tg 0, 20, .inl (fun _ => 0)))] := hD
  refine W.widen (k := 16) (n := 2694) (Nat.le_of_ble_eq_true rfl) (Nat.le_of_ble_eq_true rfl) ?_
  refine va_putF (D := D) (ci := 3) (v := .ref a15) (ty := .array .int) (C := RX3) (T := TX3) (N := 24) hx hb hts (by decide +kernel) tyX3 tyX3_ok nmX3 hown hK hP hD hS 0 rfl rfl 20 (by decide) (hts (.fieldLink RX3 56 "CardgateModel" "manys" "[I") (by decide +kernel)) (fun _ h9 => h9) rfl hin rfl (by decide +kernel) rfl rfl (Nat.le_of_ble_eq_true rfl) dX3_init_131 (fun H locs hP hD hS => ?_)
  have hP : va_P D vwCl [(h0, .inr (3, [.ref a0, .ref a1, .ref a2, .ref a3, .ref a4, .ref a5, .int 0, .int 0, .ref a6, .ref a7, .ref a8, .ref a9, .ref a10, .ref a11, .int 0, .ref a12, .int 0, .int 0, .ref a13, .ref a14, .ref a15, .int 0, .int 0, .int 0])), (a0, .inl (tg 0, 20, .inl (fun _ => 0))), (a1, .inl (tg 0, 20, .inl (fun _ => 0))), (a2, .inl (tg 0, 20, .inl (fun _ => 0))), (a3, .inl (tg 0, 20, .inl (fun _ => 0))), (a4, .inl (tg 0, 20, .inl (fun _ => 0))), (a5, .inl (tg 1, 600, .inl (fun _ => 0))), (a6, .inl (tg 0, 4, .inl (fun _ => 0))), (a7, .inl (tg 0, 30, .inl (fun _ => 0))), (a8, .inl (tg 0, 30, .inl (fun _ => 0))), (a9, .inl (tg 1, 30, .inl (fun _ => 0))), (a10, .inl (tg 1, 900, .inl (fun _ => 0))), (a11, .inl (tg 1, 900, .inl (fun _ => 0))), (a12, .inl (tg 0, 30, .inl (fun _ => 0))), (a13, .inl (tg 1, 30, .inl (fun _ => 0))), (a14, .inl (tg 0, 20, .inl (fun _ => 0))), (a15, .inl (tg 0, 20, .inl (fun _ => 0)))] H := hP
  have hD : va_D A [(h0, .inr (3, [.ref a0, .ref a1, .ref a2, .ref a3, .ref a4, .ref a5, .int 0, .int 0, .ref a6, .ref a7, .ref a8, .ref a9, .ref a10, .ref a11, .int 0, .ref a12, .int 0, .int 0, .ref a13, .ref a14, .ref a15, .int 0, .int 0, .int 0])), (a0, .inl (tg 0, 20, .inl (fun _ => 0))), (a1, .inl (tg 0, 20, .inl (fun _ => 0))), (a2, .inl (tg 0, 20, .inl (fun _ => 0))), (a3, .inl (tg 0, 20, .inl (fun _ => 0))), (a4, .inl (tg 0, 20, .inl (fun _ => 0))), (a5, .inl (tg 1, 600, .inl (fun _ => 0))), (a6, .inl (tg 0, 4, .inl (fun _ => 0))), (a7, .inl (tg 0, 30, .inl (fun _ => 0))), (a8, .inl (tg 0, 30, .inl (fun _ => 0))), (a9, .inl (tg 1, 30, .inl (fun _ => 0))), (a10, .inl (tg 1, 900, .inl (fun _ => 0))), (a11, .inl (tg 1, 900, .inl (fun _ => 0))), (a12, .inl (tg 0, 30, .inl (fun _ => 0))), (a13, .inl (tg 1, 30, .inl (fun _ => 0))), (a14, .inl (tg 0, 20, .inl (fun _ => 0))), (a15, .inl (tg 0, 20, .inl (fun _ => 0)))] := hD
  refine lv_iconst (v := 1) hx hb dX3_init_134 (by decide) ?_
  refine lv_istore_n (lv' := [(1, .int 1), (0, .ref h0)]) hx hb dX3_init_135 rfl hl (by decide) rfl (fun ls hl => ?_)
  refine lv_iload_n hx hb dX3_init_136 rfl (lv_at hl 0 rfl) ?_
  refine lv_iconst (v := 3) hx hb dX3_init_137 (by decide) ?_
  refine lv_icmp_gt (tgt := 154) hx hb dX3_init_138 (by decide) (fun h => absurd h (by decide)) (fun _ => ?_)
  refine lv_aload_n hx hb dX3_init_141 rfl (lv_at hl 1 rfl) ?_
  refine va_get (D := D) (ci := 3) (v := .ref a6) (C := RX3) (T := TX3) (N := 24) hx hb hts (by decide +kernel) hown hK hP 0 rfl rfl 8 (by decide) (hts (.fieldLink RX3 29 "CardgateModel" "limits" "[I") (by decide +kernel)) (fun _ h9 => h9) rfl dX3_init_142 ?_
  refine lv_iload_n hx hb dX3_init_145 rfl (lv_at hl 0 rfl) ?_
  refine lv_iconst (v := 3) hx hb dX3_init_146 (by decide) ?_
  refine va_iast hx hb hK hP hD hS 7 0 rfl rfl (in_nI (k := 1) (by omega) (by omega)) dX3_init_147 (fun H locs hP hD hS => ?_)
  have hP : va_P D vwCl [(h0, .inr (3, [.ref a0, .ref a1, .ref a2, .ref a3, .ref a4, .ref a5, .int 0, .int 0, .ref a6, .ref a7, .ref a8, .ref a9, .ref a10, .ref a11, .int 0, .ref a12, .int 0, .int 0, .ref a13, .ref a14, .ref a15, .int 0, .int 0, .int 0])), (a0, .inl (tg 0, 20, .inl (fun _ => 0))), (a1, .inl (tg 0, 20, .inl (fun _ => 0))), (a2, .inl (tg 0, 20, .inl (fun _ => 0))), (a3, .inl (tg 0, 20, .inl (fun _ => 0))), (a4, .inl (tg 0, 20, .inl (fun _ => 0))), (a5, .inl (tg 1, 600, .inl (fun _ => 0))), (a6, .inl (tg 0, 4, .inl (upd (fun _ => 0) (1 : Int32).toNatClampNeg 3))), (a7, .inl (tg 0, 30, .inl (fun _ => 0))), (a8, .inl (tg 0, 30, .inl (fun _ => 0))), (a9, .inl (tg 1, 30, .inl (fun _ => 0))), (a10, .inl (tg 1, 900, .inl (fun _ => 0))), (a11, .inl (tg 1, 900, .inl (fun _ => 0))), (a12, .inl (tg 0, 30, .inl (fun _ => 0))), (a13, .inl (tg 1, 30, .inl (fun _ => 0))), (a14, .inl (tg 0, 20, .inl (fun _ => 0))), (a15, .inl (tg 0, 20, .inl (fun _ => 0)))] H := hP
  have hD : va_D A [(h0, .inr (3, [.ref a0, .ref a1, .ref a2, .ref a3, .ref a4, .ref a5, .int 0, .int 0, .ref a6, .ref a7, .ref a8, .ref a9, .ref a10, .ref a11, .int 0, .ref a12, .int 0, .int 0, .ref a13, .ref a14, .ref a15, .int 0, .int 0, .int 0])), (a0, .inl (tg 0, 20, .inl (fun _ => 0))), (a1, .inl (tg 0, 20, .inl (fun _ => 0))), (a2, .inl (tg 0, 20, .inl (fun _ => 0))), (a3, .inl (tg 0, 20, .inl (fun _ => 0))), (a4, .inl (tg 0, 20, .inl (fun _ => 0))), (a5, .inl (tg 1, 600, .inl (fun _ => 0))), (a6, .inl (tg 0, 4, .inl (upd (fun _ => 0) (1 : Int32).toNatClampNeg 3))), (a7, .inl (tg 0, 30, .inl (fun _ => 0))), (a8, .inl (tg 0, 30, .inl (fun _ => 0))), (a9, .inl (tg 1, 30, .inl (fun _ => 0))), (a10, .inl (tg 1, 900, .inl (fun _ => 0))), (a11, .inl (tg 1, 900, .inl (fun _ => 0))), (a12, .inl (tg 0, 30, .inl (fun _ => 0))), (a13, .inl (tg 1, 30, .inl (fun _ => 0))), (a14, .inl (tg 0, 20, .inl (fun _ => 0))), (a15, .inl (tg 0, 20, .inl (fun _ => 0)))] := hD
  refine lv_iinc (v := 2) (lv' := [(1, .int 2), (0, .ref h0)]) hx hb dX3_init_148 hl (k := 0) rfl (by decide) (by decide) rfl (fun ls hl => ?_)
  refine lv_goto (tgt := 136) hx hb dX3_init_151 (by decide) ?_
  refine lv_iload_n hx hb dX3_init_136 rfl (lv_at hl 0 rfl) ?_
  refine lv_iconst (v := 3) hx hb dX3_init_137 (by decide) ?_
  refine lv_icmp_gt (tgt := 154) hx hb dX3_init_138 (by decide) (fun h => absurd h (by decide)) (fun _ => ?_)
  refine lv_aload_n hx hb dX3_init_141 rfl (lv_at hl 1 rfl) ?_
  refine va_get (D := D) (ci := 3) (v := .ref a6) (C := RX3) (T := TX3) (N := 24) hx hb hts (by decide +kernel) hown hK hP 0 rfl rfl 8 (by decide) (hts (.fieldLink RX3 29 "CardgateModel" "limits" "[I") (by decide +kernel)) (fun _ h9 => h9) rfl dX3_init_142 ?_
  refine lv_iload_n hx hb dX3_init_145 rfl (lv_at hl 0 rfl) ?_
  refine lv_iconst (v := 3) hx hb dX3_init_146 (by decide) ?_
  refine va_iast hx hb hK hP hD hS 7 0 rfl rfl (in_nI (k := 2) (by omega) (by omega)) dX3_init_147 (fun H locs hP hD hS => ?_)
  have hP : va_P D vwCl [(h0, .inr (3, [.ref a0, .ref a1, .ref a2, .ref a3, .ref a4, .ref a5, .int 0, .int 0, .ref a6, .ref a7, .ref a8, .ref a9, .ref a10, .ref a11, .int 0, .ref a12, .int 0, .int 0, .ref a13, .ref a14, .ref a15, .int 0, .int 0, .int 0])), (a0, .inl (tg 0, 20, .inl (fun _ => 0))), (a1, .inl (tg 0, 20, .inl (fun _ => 0))), (a2, .inl (tg 0, 20, .inl (fun _ => 0))), (a3, .inl (tg 0, 20, .inl (fun _ => 0))), (a4, .inl (tg 0, 20, .inl (fun _ => 0))), (a5, .inl (tg 1, 600, .inl (fun _ => 0))), (a6, .inl (tg 0, 4, .inl (upd (upd (fun _ => 0) (1 : Int32).toNatClampNeg 3) (2 : Int32).toNatClampNeg 3))), (a7, .inl (tg 0, 30, .inl (fun _ => 0))), (a8, .inl (tg 0, 30, .inl (fun _ => 0))), (a9, .inl (tg 1, 30, .inl (fun _ => 0))), (a10, .inl (tg 1, 900, .inl (fun _ => 0))), (a11, .inl (tg 1, 900, .inl (fun _ => 0))), (a12, .inl (tg 0, 30, .inl (fun _ => 0))), (a13, .inl (tg 1, 30, .inl (fun _ => 0))), (a14, .inl (tg 0, 20, .inl (fun _ => 0))), (a15, .inl (tg 0, 20, .inl (fun _ => 0)))] H := hP
  have hD : va_D A [(h0, .inr (3, [.ref a0, .ref a1, .ref a2, .ref a3, .ref a4, .ref a5, .int 0, .int 0, .ref a6, .ref a7, .ref a8, .ref a9, .ref a10, .ref a11, .int 0, .ref a12, .int 0, .int 0, .ref a13, .ref a14, .ref a15, .int 0, .int 0, .int 0])), (a0, .inl (tg 0, 20, .inl (fun _ => 0))), (a1, .inl (tg 0, 20, .inl (fun _ => 0))), (a2, .inl (tg 0, 20, .inl (fun _ => 0))), (a3, .inl (tg 0, 20, .inl (fun _ => 0))), (a4, .inl (tg 0, 20, .inl (fun _ => 0))), (a5, .inl (tg 1, 600, .inl (fun _ => 0))), (a6, .inl (tg 0, 4, .inl (upd (upd (fun _ => 0) (1 : Int32).toNatClampNeg 3) (2 : Int32).toNatClampNeg 3))), (a7, .inl (tg 0, 30, .inl (fun _ => 0))), (a8, .inl (tg 0, 30, .inl (fun _ => 0))), (a9, .inl (tg 1, 30, .inl (fun _ => 0))), (a10, .inl (tg 1, 900, .inl (fun _ => 0))), (a11, .inl (tg 1, 900, .inl (fun _ => 0))), (a12, .inl (tg 0, 30, .inl (fun _ => 0))), (a13, .inl (tg 1, 30, .inl (fun _ => 0))), (a14, .inl (tg 0, 20, .inl (fun _ => 0))), (a15, .inl (tg 0, 20, .inl (fun _ => 0)))] := hD
  refine lv_iinc (v := 3) (lv' := [(1, .int 3), (0, .ref h0)]) hx hb dX3_init_148 hl (k := 0) rfl (by decide) (by decide) rfl (fun ls hl => ?_)
  refine lv_goto (tgt := 136) hx hb dX3_init_151 (by decide) ?_
  refine lv_iload_n hx hb dX3_init_136 rfl (lv_at hl 0 rfl) ?_
  refine lv_iconst (v := 3) hx hb dX3_init_137 (by decide) ?_
  refine lv_icmp_gt (tgt := 154) hx hb dX3_init_138 (by decide) (fun h => absurd h (by decide)) (fun _ => ?_)
  refine lv_aload_n hx hb dX3_init_141 rfl (lv_at hl 1 rfl) ?_
  refine va_get (D := D) (ci := 3) (v := .ref a6) (C := RX3) (T := TX3) (N := 24) hx hb hts (by decide +kernel) hown hK hP 0 rfl rfl 8 (by decide) (hts (.fieldLink RX3 29 "CardgateModel" "limits" "[I") (by decide +kernel)) (fun _ h9 => h9) rfl dX3_init_142 ?_
  refine lv_iload_n hx hb dX3_init_145 rfl (lv_at hl 0 rfl) ?_
  refine lv_iconst (v := 3) hx hb dX3_init_146 (by decide) ?_
  refine va_iast hx hb hK hP hD hS 7 0 rfl rfl (in_nI (k := 3) (by omega) (by omega)) dX3_init_147 (fun H locs hP hD hS => ?_)
  have hP : va_P D vwCl [(h0, .inr (3, [.ref a0, .ref a1, .ref a2, .ref a3, .ref a4, .ref a5, .int 0, .int 0, .ref a6, .ref a7, .ref a8, .ref a9, .ref a10, .ref a11, .int 0, .ref a12, .int 0, .int 0, .ref a13, .ref a14, .ref a15, .int 0, .int 0, .int 0])), (a0, .inl (tg 0, 20, .inl (fun _ => 0))), (a1, .inl (tg 0, 20, .inl (fun _ => 0))), (a2, .inl (tg 0, 20, .inl (fun _ => 0))), (a3, .inl (tg 0, 20, .inl (fun _ => 0))), (a4, .inl (tg 0, 20, .inl (fun _ => 0))), (a5, .inl (tg 1, 600, .inl (fun _ => 0))), (a6, .inl (tg 0, 4, .inl (upd (upd (upd (fun _ => 0) (1 : Int32).toNatClampNeg 3) (2 : Int32).toNatClampNeg 3) (3 : Int32).toNatClampNeg 3))), (a7, .inl (tg 0, 30, .inl (fun _ => 0))), (a8, .inl (tg 0, 30, .inl (fun _ => 0))), (a9, .inl (tg 1, 30, .inl (fun _ => 0))), (a10, .inl (tg 1, 900, .inl (fun _ => 0))), (a11, .inl (tg 1, 900, .inl (fun _ => 0))), (a12, .inl (tg 0, 30, .inl (fun _ => 0))), (a13, .inl (tg 1, 30, .inl (fun _ => 0))), (a14, .inl (tg 0, 20, .inl (fun _ => 0))), (a15, .inl (tg 0, 20, .inl (fun _ => 0)))] H := hP
  have hD : va_D A [(h0, .inr (3, [.ref a0, .ref a1, .ref a2, .ref a3, .ref a4, .ref a5, .int 0, .int 0, .ref a6, .ref a7, .ref a8, .ref a9, .ref a10, .ref a11, .int 0, .ref a12, .int 0, .int 0, .ref a13, .ref a14, .ref a15, .int 0, .int 0, .int 0])), (a0, .inl (tg 0, 20, .inl (fun _ => 0))), (a1, .inl (tg 0, 20, .inl (fun _ => 0))), (a2, .inl (tg 0, 20, .inl (fun _ => 0))), (a3, .inl (tg 0, 20, .inl (fun _ => 0))), (a4, .inl (tg 0, 20, .inl (fun _ => 0))), (a5, .inl (tg 1, 600, .inl (fun _ => 0))), (a6, .inl (tg 0, 4, .inl (upd (upd (upd (fun _ => 0) (1 : Int32).toNatClampNeg 3) (2 : Int32).toNatClampNeg 3) (3 : Int32).toNatClampNeg 3))), (a7, .inl (tg 0, 30, .inl (fun _ => 0))), (a8, .inl (tg 0, 30, .inl (fun _ => 0))), (a9, .inl (tg 1, 30, .inl (fun _ => 0))), (a10, .inl (tg 1, 900, .inl (fun _ => 0))), (a11, .inl (tg 1, 900, .inl (fun _ => 0))), (a12, .inl (tg 0, 30, .inl (fun _ => 0))), (a13, .inl (tg 1, 30, .inl (fun _ => 0))), (a14, .inl (tg 0, 20, .inl (fun _ => 0))), (a15, .inl (tg 0, 20, .inl (fun _ => 0)))] := hD
  refine lv_iinc (v := 4) (lv' := [(1, .int 4), (0, .ref h0)]) hx hb dX3_init_148 hl (k := 0) rfl (by decide) (by decide) rfl (fun ls hl => ?_)
  refine lv_goto (tgt := 136) hx hb dX3_init_151 (by decide) ?_
  refine lv_iload_n hx hb dX3_init_136 rfl (lv_at hl 0 rfl) ?_
  refine lv_iconst (v := 3) hx hb dX3_init_137 (by decide) ?_
  refine lv_icmp_gt (tgt := 154) hx hb dX3_init_138 (by decide) (fun _ => ?_) (fun h => absurd (by decide) h)
  exact W.vret hx hb hr (fun t ht hW => ⟨⟨fun i => [a0, a1, a2, a3, a4, a5, a6, a7, a8, a9, a10, a11, a12, a13, a14, a15].getD i 0, rfl, trivial, by rw [ht]; exact hP, va_K.moved hW.alike hK, hD⟩, hS.F ht⟩) hS.2.2 dX3_init_154
end IN
