/-! the tables of the methods are right, 4: each row -/
section CK4
theorem okl_cut (f : xI → Bool) : ∀ (n : Nat) (I : List (List xI)), (∀ j, j < n → ((I.drop (4 * j)).take 4).flatten.all f = true) → I.length ≤ 4 * n → I.flatten.all f = true
  | 0, I, _, h => by
    have : I = [] := List.length_eq_zero_iff.mp (by omega)
    subst this; rfl
  | n + 1, I, hj, h => by
    have h0 := hj 0 (by omega)
    have h1 := okl_cut f n (I.drop 4) (fun j hjn => by rw [List.drop_drop]; have := hj (j + 1) (by omega); rwa [show 4 * (j + 1) = 4 + 4 * j by omega] at this) (by rw [List.length_drop]; omega)
    rw [Nat.mul_zero, List.drop_zero] at h0
    rw [← List.take_append_drop 4 I, List.flatten_append, List.all_append, h0, h1]
    rfl
set_option maxRecDepth 100000 in
theorem ok_0 : xokB 0 = true := by decide +kernel
set_option maxRecDepth 100000 in
theorem ok_1 : xokB 1 = true := by decide +kernel
set_option maxRecDepth 100000 in
theorem ok_2 : xokB 2 = true := by decide +kernel
set_option maxRecDepth 100000 in
theorem ok_3 : xokB 3 = true := by decide +kernel
set_option maxRecDepth 100000 in
theorem ok_4 : xokB 4 = true := by decide +kernel
set_option maxRecDepth 100000 in
theorem ok_5 : xokB 5 = true := by decide +kernel
set_option maxRecDepth 100000 in
theorem ok_6 : xokB 6 = true := by decide +kernel
set_option maxRecDepth 100000 in
theorem ok_7 : xokB 7 = true := by decide +kernel
set_option maxRecDepth 100000 in
theorem ok_8 : xokB 8 = true := by decide +kernel
set_option maxRecDepth 100000 in
theorem ok_9 : xokB 9 = true := by decide +kernel
set_option maxRecDepth 100000 in
theorem ok_10 : xokB 10 = true := by decide +kernel
set_option maxRecDepth 100000 in
theorem ok_11 : xokB 11 = true := by decide +kernel
set_option maxRecDepth 100000 in
theorem ok_12 : xokB 12 = true := by decide +kernel
set_option maxRecDepth 100000 in
theorem ok_13 : xokB 13 = true := by decide +kernel
set_option maxRecDepth 100000 in
theorem ok_14 : xokB 14 = true := by decide +kernel
set_option maxRecDepth 100000 in
theorem ok_15 : xokB 15 = true := by decide +kernel
set_option maxRecDepth 100000 in
theorem ok_16 : xokB 16 = true := by decide +kernel
set_option maxRecDepth 100000 in
theorem ok_17 : xokB 17 = true := by decide +kernel
set_option maxRecDepth 100000 in
theorem ok_18 : xokB 18 = true := by decide +kernel
set_option maxRecDepth 100000 in
theorem ok_19 : xokB 19 = true := by decide +kernel
set_option maxRecDepth 100000 in
theorem ok_20 : xokB 20 = true := by decide +kernel
set_option maxRecDepth 100000 in
theorem ok_21 : xokB 21 = true := by decide +kernel
set_option maxRecDepth 100000 in
theorem ok_22 : xokB 22 = true := by decide +kernel
set_option maxRecDepth 100000 in
theorem ok_23 : xokB 23 = true := by decide +kernel
set_option maxRecDepth 100000 in
theorem ok_24 : xokB 24 = true := by decide +kernel
set_option maxRecDepth 100000 in
theorem ok_25 : xokB 25 = true := by decide +kernel
set_option maxRecDepth 100000 in
theorem ok_26 : xokB 26 = true := by decide +kernel
set_option maxRecDepth 100000 in
theorem ok_27 : xokB 27 = true := by decide +kernel
set_option maxRecDepth 100000 in
theorem ok_28 : xokB 28 = true := by decide +kernel
set_option maxRecDepth 100000 in
theorem ok_29 : xokB 29 = true := by decide +kernel
set_option maxRecDepth 100000 in
theorem ok_30 : xokB 30 = true := by decide +kernel
set_option maxRecDepth 100000 in
theorem ok_31 : xokB 31 = true := by decide +kernel
set_option maxRecDepth 100000 in
theorem ok_32 : xokB 32 = true := by decide +kernel
set_option maxRecDepth 100000 in
theorem ok_33 : xokB 33 = true := by decide +kernel
set_option maxRecDepth 100000 in
theorem ok_34 : xokB 34 = true := by decide +kernel
set_option maxRecDepth 100000 in
theorem ok_35 : xokB 35 = true := by decide +kernel
set_option maxRecDepth 100000 in
theorem ok_36 : xokB 36 = true := by decide +kernel
set_option maxRecDepth 100000 in
theorem ok_37 : xokB 37 = true := by decide +kernel
set_option maxRecDepth 100000 in
theorem ok_38 : xokB 38 = true := by decide +kernel
set_option maxRecDepth 100000 in
theorem ok_39 : xokB 39 = true := by decide +kernel
set_option maxRecDepth 100000 in
theorem ok_40 : xokB 40 = true := by decide +kernel
set_option maxRecDepth 100000 in
theorem ok_41 : xokB 41 = true := by decide +kernel
set_option maxRecDepth 100000 in
theorem ok_42 : xokB 42 = true := by decide +kernel
set_option maxRecDepth 100000 in
theorem ok_43 : xokB 43 = true := by decide +kernel
set_option maxRecDepth 100000 in
theorem ok_44 : xokB 44 = true := by decide +kernel
set_option maxRecDepth 100000 in
theorem ok_45 : xokB 45 = true := by decide +kernel
set_option maxRecDepth 100000 in
theorem ok_46 : xokB 46 = true := by decide +kernel
set_option maxRecDepth 100000 in
theorem ok_47 : xokB 47 = true := by decide +kernel
set_option maxRecDepth 100000 in
theorem ok_48 : xokB 48 = true := by decide +kernel
set_option maxRecDepth 100000 in
theorem ok_49 : xokB 49 = true := by decide +kernel
set_option maxRecDepth 100000 in
theorem ok_50 : xokB 50 = true := by decide +kernel
set_option maxRecDepth 100000 in
theorem ok_51 : xokB 51 = true := by decide +kernel
set_option maxRecDepth 100000 in
theorem ok_52 : xokB 52 = true := by decide +kernel
set_option maxRecDepth 100000 in
theorem ok_53 : xokB 53 = true := by decide +kernel
set_option maxRecDepth 100000 in
theorem ok_54 : xokB 54 = true := by decide +kernel
set_option maxRecDepth 100000 in
theorem ok_55 : xokB 55 = true := by decide +kernel
set_option maxRecDepth 100000 in
theorem ok_56 : xokB 56 = true := by decide +kernel
set_option maxRecDepth 100000 in
theorem ok_57 : xokB 57 = true := by decide +kernel
set_option maxRecDepth 100000 in
theorem ok_58 : xokB 58 = true := by decide +kernel
set_option maxRecDepth 100000 in
theorem ok_59 : xokB 59 = true := by decide +kernel
set_option maxRecDepth 100000 in
theorem ok_60 : xokB 60 = true := by decide +kernel
set_option maxRecDepth 100000 in
theorem ok_61 : xokB 61 = true := by decide +kernel
set_option maxRecDepth 100000 in
theorem ok_62 : xokB 62 = true := by decide +kernel
set_option maxRecDepth 100000 in
theorem ok_63 : xokB 63 = true := by decide +kernel
set_option maxRecDepth 100000 in
theorem ok_64 : xokB 64 = true := by decide +kernel
set_option maxRecDepth 100000 in
theorem ok_65 : xokB 65 = true := by decide +kernel
set_option maxRecDepth 100000 in
theorem ok_66 : xokB 66 = true := by decide +kernel
set_option maxRecDepth 100000 in
theorem ok_67 : xokB 67 = true := by decide +kernel
set_option maxRecDepth 100000 in
theorem ok_68 : xokB 68 = true := by decide +kernel
set_option maxRecDepth 100000 in
theorem ok_69 : xokB 69 = true := by decide +kernel
set_option maxRecDepth 100000 in
theorem ok_70 : xokB 70 = true := by decide +kernel
set_option maxRecDepth 100000 in
theorem ok_71 : xokB 71 = true := by decide +kernel
set_option maxRecDepth 100000 in
theorem ok_72 : xokB 72 = true := by decide +kernel
set_option maxRecDepth 100000 in
theorem ok_73 : xokB 73 = true := by decide +kernel
set_option maxRecDepth 100000 in
theorem ok_74 : xokB 74 = true := by decide +kernel
set_option maxRecDepth 100000 in
theorem ok_75 : xokB 75 = true := by decide +kernel
set_option maxRecDepth 100000 in
theorem ok_76 : xokB 76 = true := by decide +kernel
set_option maxRecDepth 100000 in
theorem ok_77 : xokB 77 = true := by decide +kernel
set_option maxRecDepth 100000 in
theorem ok_78 : xokB 78 = true := by decide +kernel
set_option maxRecDepth 100000 in
theorem ok_79 : xokB 79 = true := by decide +kernel
set_option maxRecDepth 100000 in
theorem ok_80 : xokB 80 = true := by decide +kernel
set_option maxRecDepth 100000 in
theorem ok_81 : xokB 81 = true := by decide +kernel
set_option maxRecDepth 100000 in
theorem ok_82 : xokB 82 = true := by decide +kernel
set_option maxRecDepth 100000 in
theorem ok_83 : xokB 83 = true := by decide +kernel
set_option maxRecDepth 100000 in
theorem ok_84 : xokB 84 = true := by decide +kernel
set_option maxRecDepth 100000 in
theorem ok_85 : xokB 85 = true := by decide +kernel
set_option maxRecDepth 100000 in
theorem ok_86 : xokB 86 = true := by decide +kernel
set_option maxRecDepth 100000 in
theorem ok_87 : xokB 87 = true := by decide +kernel
set_option maxRecDepth 100000 in
theorem ok_88 : xokB 88 = true := by decide +kernel
set_option maxRecDepth 100000 in
theorem ok_89 : xokB 89 = true := by decide +kernel
set_option maxRecDepth 100000 in
theorem ok_90 : xokB 90 = true := by decide +kernel
set_option maxRecDepth 100000 in
theorem ok_91 : xokB 91 = true := by decide +kernel
set_option maxRecDepth 100000 in
theorem ok_92 : xokB 92 = true := by decide +kernel
set_option maxRecDepth 100000 in
theorem ok_94 : xokB 94 = true := by decide +kernel
set_option maxRecDepth 100000 in
theorem ok_95 : xokB 95 = true := by decide +kernel
set_option maxRecDepth 100000 in
theorem ok_96 : xokB 96 = true := by decide +kernel
set_option maxRecDepth 100000 in
theorem ok_97 : xokB 97 = true := by decide +kernel
set_option maxRecDepth 100000 in
theorem ok_98 : xokB 98 = true := by decide +kernel
set_option maxRecDepth 100000 in
theorem ok_99 : xokB 99 = true := by decide +kernel
set_option maxRecDepth 100000 in
theorem ok_101 : xokB 101 = true := by decide +kernel
set_option maxRecDepth 100000 in
theorem ok_102 : xokB 102 = true := by decide +kernel
set_option maxRecDepth 100000 in
theorem ok_103 : xokB 103 = true := by decide +kernel
set_option maxRecDepth 100000 in
theorem ok_104 : xokB 104 = true := by decide +kernel
set_option maxRecDepth 100000 in
theorem ok_105 : xokB 105 = true := by decide +kernel
set_option maxRecDepth 100000 in
theorem ok_106 : xokB 106 = true := by decide +kernel
set_option maxRecDepth 100000 in
theorem ok_107 : xokB 107 = true := by decide +kernel
set_option maxRecDepth 100000 in
theorem ok_108 : xokB 108 = true := by decide +kernel
set_option maxRecDepth 100000 in
theorem ok_115 : xokB 115 = true := by decide +kernel
set_option maxRecDepth 100000 in
theorem ok_116 : xokB 116 = true := by decide +kernel
set_option maxRecDepth 100000 in
theorem okl_93_0 : ((i_L_come.drop (4 * 0)).take 4).flatten.all (fun e => xchk 93 e && xcal 93 e) = true := by decide +kernel
set_option maxRecDepth 100000 in
theorem okl_93_1 : ((i_L_come.drop (4 * 1)).take 4).flatten.all (fun e => xchk 93 e && xcal 93 e) = true := by decide +kernel
set_option maxRecDepth 100000 in
theorem okl_93_2 : ((i_L_come.drop (4 * 2)).take 4).flatten.all (fun e => xchk 93 e && xcal 93 e) = true := by decide +kernel
set_option maxRecDepth 100000 in
theorem okl_93_3 : ((i_L_come.drop (4 * 3)).take 4).flatten.all (fun e => xchk 93 e && xcal 93 e) = true := by decide +kernel
set_option maxRecDepth 100000 in
theorem okl_93_4 : ((i_L_come.drop (4 * 4)).take 4).flatten.all (fun e => xchk 93 e && xcal 93 e) = true := by decide +kernel
set_option maxRecDepth 100000 in
theorem okl_100_0 : ((i_L_work.drop (4 * 0)).take 4).flatten.all (fun e => xchk 100 e && xcal 100 e) = true := by decide +kernel
set_option maxRecDepth 100000 in
theorem okl_100_1 : ((i_L_work.drop (4 * 1)).take 4).flatten.all (fun e => xchk 100 e && xcal 100 e) = true := by decide +kernel
set_option maxRecDepth 100000 in
theorem okl_100_2 : ((i_L_work.drop (4 * 2)).take 4).flatten.all (fun e => xchk 100 e && xcal 100 e) = true := by decide +kernel
set_option maxRecDepth 100000 in
theorem okl_100_3 : ((i_L_work.drop (4 * 3)).take 4).flatten.all (fun e => xchk 100 e && xcal 100 e) = true := by decide +kernel
set_option maxRecDepth 100000 in
theorem okl_100_4 : ((i_L_work.drop (4 * 4)).take 4).flatten.all (fun e => xchk 100 e && xcal 100 e) = true := by decide +kernel
set_option maxRecDepth 100000 in
theorem okl_100_5 : ((i_L_work.drop (4 * 5)).take 4).flatten.all (fun e => xchk 100 e && xcal 100 e) = true := by decide +kernel
set_option maxRecDepth 100000 in
theorem okl_109_0 : ((i_L_areCards.drop (4 * 0)).take 4).flatten.all (fun e => xchk 109 e && xcal 109 e) = true := by decide +kernel
set_option maxRecDepth 100000 in
theorem okl_109_1 : ((i_L_areCards.drop (4 * 1)).take 4).flatten.all (fun e => xchk 109 e && xcal 109 e) = true := by decide +kernel
set_option maxRecDepth 100000 in
theorem okl_109_2 : ((i_L_areCards.drop (4 * 2)).take 4).flatten.all (fun e => xchk 109 e && xcal 109 e) = true := by decide +kernel
set_option maxRecDepth 100000 in
theorem okl_109_3 : ((i_L_areCards.drop (4 * 3)).take 4).flatten.all (fun e => xchk 109 e && xcal 109 e) = true := by decide +kernel
set_option maxRecDepth 100000 in
theorem okl_109_4 : ((i_L_areCards.drop (4 * 4)).take 4).flatten.all (fun e => xchk 109 e && xcal 109 e) = true := by decide +kernel
set_option maxRecDepth 100000 in
theorem okl_109_5 : ((i_L_areCards.drop (4 * 5)).take 4).flatten.all (fun e => xchk 109 e && xcal 109 e) = true := by decide +kernel
set_option maxRecDepth 100000 in
theorem okl_110_0 : ((i_L_isQueue.drop (4 * 0)).take 4).flatten.all (fun e => xchk 110 e && xcal 110 e) = true := by decide +kernel
set_option maxRecDepth 100000 in
theorem okl_110_1 : ((i_L_isQueue.drop (4 * 1)).take 4).flatten.all (fun e => xchk 110 e && xcal 110 e) = true := by decide +kernel
set_option maxRecDepth 100000 in
theorem okl_110_2 : ((i_L_isQueue.drop (4 * 2)).take 4).flatten.all (fun e => xchk 110 e && xcal 110 e) = true := by decide +kernel
set_option maxRecDepth 100000 in
theorem okl_110_3 : ((i_L_isQueue.drop (4 * 3)).take 4).flatten.all (fun e => xchk 110 e && xcal 110 e) = true := by decide +kernel
set_option maxRecDepth 100000 in
theorem okl_110_4 : ((i_L_isQueue.drop (4 * 4)).take 4).flatten.all (fun e => xchk 110 e && xcal 110 e) = true := by decide +kernel
set_option maxRecDepth 100000 in
theorem okl_111_0 : ((i_L_isChanged.drop (4 * 0)).take 4).flatten.all (fun e => xchk 111 e && xcal 111 e) = true := by decide +kernel
set_option maxRecDepth 100000 in
theorem okl_111_1 : ((i_L_isChanged.drop (4 * 1)).take 4).flatten.all (fun e => xchk 111 e && xcal 111 e) = true := by decide +kernel
set_option maxRecDepth 100000 in
theorem okl_111_2 : ((i_L_isChanged.drop (4 * 2)).take 4).flatten.all (fun e => xchk 111 e && xcal 111 e) = true := by decide +kernel
set_option maxRecDepth 100000 in
theorem okl_111_3 : ((i_L_isChanged.drop (4 * 3)).take 4).flatten.all (fun e => xchk 111 e && xcal 111 e) = true := by decide +kernel
set_option maxRecDepth 100000 in
theorem okl_111_4 : ((i_L_isChanged.drop (4 * 4)).take 4).flatten.all (fun e => xchk 111 e && xcal 111 e) = true := by decide +kernel
set_option maxRecDepth 100000 in
theorem okl_111_5 : ((i_L_isChanged.drop (4 * 5)).take 4).flatten.all (fun e => xchk 111 e && xcal 111 e) = true := by decide +kernel
set_option maxRecDepth 100000 in
theorem okl_111_6 : ((i_L_isChanged.drop (4 * 6)).take 4).flatten.all (fun e => xchk 111 e && xcal 111 e) = true := by decide +kernel
set_option maxRecDepth 100000 in
theorem okl_111_7 : ((i_L_isChanged.drop (4 * 7)).take 4).flatten.all (fun e => xchk 111 e && xcal 111 e) = true := by decide +kernel
set_option maxRecDepth 100000 in
theorem okl_111_8 : ((i_L_isChanged.drop (4 * 8)).take 4).flatten.all (fun e => xchk 111 e && xcal 111 e) = true := by decide +kernel
set_option maxRecDepth 100000 in
theorem okl_111_9 : ((i_L_isChanged.drop (4 * 9)).take 4).flatten.all (fun e => xchk 111 e && xcal 111 e) = true := by decide +kernel
set_option maxRecDepth 100000 in
theorem okl_111_10 : ((i_L_isChanged.drop (4 * 10)).take 4).flatten.all (fun e => xchk 111 e && xcal 111 e) = true := by decide +kernel
set_option maxRecDepth 100000 in
theorem okl_111_11 : ((i_L_isChanged.drop (4 * 11)).take 4).flatten.all (fun e => xchk 111 e && xcal 111 e) = true := by decide +kernel
set_option maxRecDepth 100000 in
theorem okl_111_12 : ((i_L_isChanged.drop (4 * 12)).take 4).flatten.all (fun e => xchk 111 e && xcal 111 e) = true := by decide +kernel
set_option maxRecDepth 100000 in
theorem okl_111_13 : ((i_L_isChanged.drop (4 * 13)).take 4).flatten.all (fun e => xchk 111 e && xcal 111 e) = true := by decide +kernel
set_option maxRecDepth 100000 in
theorem okl_112_0 : ((i_L_isMerged.drop (4 * 0)).take 4).flatten.all (fun e => xchk 112 e && xcal 112 e) = true := by decide +kernel
set_option maxRecDepth 100000 in
theorem okl_112_1 : ((i_L_isMerged.drop (4 * 1)).take 4).flatten.all (fun e => xchk 112 e && xcal 112 e) = true := by decide +kernel
set_option maxRecDepth 100000 in
theorem okl_112_2 : ((i_L_isMerged.drop (4 * 2)).take 4).flatten.all (fun e => xchk 112 e && xcal 112 e) = true := by decide +kernel
set_option maxRecDepth 100000 in
theorem okl_112_3 : ((i_L_isMerged.drop (4 * 3)).take 4).flatten.all (fun e => xchk 112 e && xcal 112 e) = true := by decide +kernel
set_option maxRecDepth 100000 in
theorem okl_112_4 : ((i_L_isMerged.drop (4 * 4)).take 4).flatten.all (fun e => xchk 112 e && xcal 112 e) = true := by decide +kernel
set_option maxRecDepth 100000 in
theorem okl_112_5 : ((i_L_isMerged.drop (4 * 5)).take 4).flatten.all (fun e => xchk 112 e && xcal 112 e) = true := by decide +kernel
set_option maxRecDepth 100000 in
theorem okl_113_0 : ((i_L_acts.drop (4 * 0)).take 4).flatten.all (fun e => xchk 113 e && xcal 113 e) = true := by decide +kernel
set_option maxRecDepth 100000 in
theorem okl_113_1 : ((i_L_acts.drop (4 * 1)).take 4).flatten.all (fun e => xchk 113 e && xcal 113 e) = true := by decide +kernel
set_option maxRecDepth 100000 in
theorem okl_113_2 : ((i_L_acts.drop (4 * 2)).take 4).flatten.all (fun e => xchk 113 e && xcal 113 e) = true := by decide +kernel
set_option maxRecDepth 100000 in
theorem okl_113_3 : ((i_L_acts.drop (4 * 3)).take 4).flatten.all (fun e => xchk 113 e && xcal 113 e) = true := by decide +kernel
set_option maxRecDepth 100000 in
theorem okl_113_4 : ((i_L_acts.drop (4 * 4)).take 4).flatten.all (fun e => xchk 113 e && xcal 113 e) = true := by decide +kernel
set_option maxRecDepth 100000 in
theorem okl_113_5 : ((i_L_acts.drop (4 * 5)).take 4).flatten.all (fun e => xchk 113 e && xcal 113 e) = true := by decide +kernel
set_option maxRecDepth 100000 in
theorem okl_113_6 : ((i_L_acts.drop (4 * 6)).take 4).flatten.all (fun e => xchk 113 e && xcal 113 e) = true := by decide +kernel
set_option maxRecDepth 100000 in
theorem okl_113_7 : ((i_L_acts.drop (4 * 7)).take 4).flatten.all (fun e => xchk 113 e && xcal 113 e) = true := by decide +kernel
set_option maxRecDepth 100000 in
theorem okl_113_8 : ((i_L_acts.drop (4 * 8)).take 4).flatten.all (fun e => xchk 113 e && xcal 113 e) = true := by decide +kernel
set_option maxRecDepth 100000 in
theorem okl_113_9 : ((i_L_acts.drop (4 * 9)).take 4).flatten.all (fun e => xchk 113 e && xcal 113 e) = true := by decide +kernel
set_option maxRecDepth 100000 in
theorem okl_113_10 : ((i_L_acts.drop (4 * 10)).take 4).flatten.all (fun e => xchk 113 e && xcal 113 e) = true := by decide +kernel
set_option maxRecDepth 100000 in
theorem okl_113_11 : ((i_L_acts.drop (4 * 11)).take 4).flatten.all (fun e => xchk 113 e && xcal 113 e) = true := by decide +kernel
set_option maxRecDepth 100000 in
theorem okl_114_0 : ((i_L_holds.drop (4 * 0)).take 4).flatten.all (fun e => xchk 114 e && xcal 114 e) = true := by decide +kernel
set_option maxRecDepth 100000 in
theorem okl_114_1 : ((i_L_holds.drop (4 * 1)).take 4).flatten.all (fun e => xchk 114 e && xcal 114 e) = true := by decide +kernel
set_option maxRecDepth 100000 in
theorem okl_114_2 : ((i_L_holds.drop (4 * 2)).take 4).flatten.all (fun e => xchk 114 e && xcal 114 e) = true := by decide +kernel
set_option maxRecDepth 100000 in
theorem okl_114_3 : ((i_L_holds.drop (4 * 3)).take 4).flatten.all (fun e => xchk 114 e && xcal 114 e) = true := by decide +kernel
end CK4
