/-! the tables of the methods are right, 5: all methods -/
section CK5
set_option maxRecDepth 100000 in
theorem ok_93 : xokB 93 = true := by
  have h0 : m_i 93 = i_L_come := rfl
  have h1 : i_L_come.flatten.all (fun e => xchk 93 e && xcal 93 e) = true := by
    refine okl_cut _ 5 _ (fun j hj => ?_) (by decide +kernel)
    match j, hj with
    | 0, _ => exact okl_93_0
    | 1, _ => exact okl_93_1
    | 2, _ => exact okl_93_2
    | 3, _ => exact okl_93_3
    | 4, _ => exact okl_93_4
    | j + 5, hj => exact absurd hj (by omega)
  unfold xokB
  rw [h0, h1]
  decide +kernel
set_option maxRecDepth 100000 in
theorem ok_100 : xokB 100 = true := by
  have h0 : m_i 100 = i_L_work := rfl
  have h1 : i_L_work.flatten.all (fun e => xchk 100 e && xcal 100 e) = true := by
    refine okl_cut _ 6 _ (fun j hj => ?_) (by decide +kernel)
    match j, hj with
    | 0, _ => exact okl_100_0
    | 1, _ => exact okl_100_1
    | 2, _ => exact okl_100_2
    | 3, _ => exact okl_100_3
    | 4, _ => exact okl_100_4
    | 5, _ => exact okl_100_5
    | j + 6, hj => exact absurd hj (by omega)
  unfold xokB
  rw [h0, h1]
  decide +kernel
set_option maxRecDepth 100000 in
theorem ok_109 : xokB 109 = true := by
  have h0 : m_i 109 = i_L_areCards := rfl
  have h1 : i_L_areCards.flatten.all (fun e => xchk 109 e && xcal 109 e) = true := by
    refine okl_cut _ 6 _ (fun j hj => ?_) (by decide +kernel)
    match j, hj with
    | 0, _ => exact okl_109_0
    | 1, _ => exact okl_109_1
    | 2, _ => exact okl_109_2
    | 3, _ => exact okl_109_3
    | 4, _ => exact okl_109_4
    | 5, _ => exact okl_109_5
    | j + 6, hj => exact absurd hj (by omega)
  unfold xokB
  rw [h0, h1]
  decide +kernel
set_option maxRecDepth 100000 in
theorem ok_110 : xokB 110 = true := by
  have h0 : m_i 110 = i_L_isQueue := rfl
  have h1 : i_L_isQueue.flatten.all (fun e => xchk 110 e && xcal 110 e) = true := by
    refine okl_cut _ 5 _ (fun j hj => ?_) (by decide +kernel)
    match j, hj with
    | 0, _ => exact okl_110_0
    | 1, _ => exact okl_110_1
    | 2, _ => exact okl_110_2
    | 3, _ => exact okl_110_3
    | 4, _ => exact okl_110_4
    | j + 5, hj => exact absurd hj (by omega)
  unfold xokB
  rw [h0, h1]
  decide +kernel
set_option maxRecDepth 100000 in
theorem ok_111 : xokB 111 = true := by
  have h0 : m_i 111 = i_L_isChanged := rfl
  have h1 : i_L_isChanged.flatten.all (fun e => xchk 111 e && xcal 111 e) = true := by
    refine okl_cut _ 14 _ (fun j hj => ?_) (by decide +kernel)
    match j, hj with
    | 0, _ => exact okl_111_0
    | 1, _ => exact okl_111_1
    | 2, _ => exact okl_111_2
    | 3, _ => exact okl_111_3
    | 4, _ => exact okl_111_4
    | 5, _ => exact okl_111_5
    | 6, _ => exact okl_111_6
    | 7, _ => exact okl_111_7
    | 8, _ => exact okl_111_8
    | 9, _ => exact okl_111_9
    | 10, _ => exact okl_111_10
    | 11, _ => exact okl_111_11
    | 12, _ => exact okl_111_12
    | 13, _ => exact okl_111_13
    | j + 14, hj => exact absurd hj (by omega)
  unfold xokB
  rw [h0, h1]
  decide +kernel
set_option maxRecDepth 100000 in
theorem ok_112 : xokB 112 = true := by
  have h0 : m_i 112 = i_L_isMerged := rfl
  have h1 : i_L_isMerged.flatten.all (fun e => xchk 112 e && xcal 112 e) = true := by
    refine okl_cut _ 6 _ (fun j hj => ?_) (by decide +kernel)
    match j, hj with
    | 0, _ => exact okl_112_0
    | 1, _ => exact okl_112_1
    | 2, _ => exact okl_112_2
    | 3, _ => exact okl_112_3
    | 4, _ => exact okl_112_4
    | 5, _ => exact okl_112_5
    | j + 6, hj => exact absurd hj (by omega)
  unfold xokB
  rw [h0, h1]
  decide +kernel
set_option maxRecDepth 100000 in
theorem ok_113 : xokB 113 = true := by
  have h0 : m_i 113 = i_L_acts := rfl
  have h1 : i_L_acts.flatten.all (fun e => xchk 113 e && xcal 113 e) = true := by
    refine okl_cut _ 12 _ (fun j hj => ?_) (by decide +kernel)
    match j, hj with
    | 0, _ => exact okl_113_0
    | 1, _ => exact okl_113_1
    | 2, _ => exact okl_113_2
    | 3, _ => exact okl_113_3
    | 4, _ => exact okl_113_4
    | 5, _ => exact okl_113_5
    | 6, _ => exact okl_113_6
    | 7, _ => exact okl_113_7
    | 8, _ => exact okl_113_8
    | 9, _ => exact okl_113_9
    | 10, _ => exact okl_113_10
    | 11, _ => exact okl_113_11
    | j + 12, hj => exact absurd hj (by omega)
  unfold xokB
  rw [h0, h1]
  decide +kernel
set_option maxRecDepth 100000 in
theorem ok_114 : xokB 114 = true := by
  have h0 : m_i 114 = i_L_holds := rfl
  have h1 : i_L_holds.flatten.all (fun e => xchk 114 e && xcal 114 e) = true := by
    refine okl_cut _ 4 _ (fun j hj => ?_) (by decide +kernel)
    match j, hj with
    | 0, _ => exact okl_114_0
    | 1, _ => exact okl_114_1
    | 2, _ => exact okl_114_2
    | 3, _ => exact okl_114_3
    | j + 4, hj => exact absurd hj (by omega)
  unfold xokB
  rw [h0, h1]
  decide +kernel
set_option maxRecDepth 100000 in
theorem ok_out (k : Nat) : xokB (k + 117) = true := by
  have h1 : m_f (k + 117) = (⟨"", "", ""⟩, ⟨#[]⟩, 0, none, none, 0, "", []) := by
    unfold m_f
    by_cases h : k < 11
    · have : (k + 117) / 16 = 7 := by omega
      rw [this]
      have h3 : (k + 117) % 16 = k + 5 := by omega
      rw [h3]
      rfl
    · have h2 : 8 ≤ (k + 117) / 16 := by omega
      rw [List.getElem?_eq_none (by exact h2)]
  have h2 : m_i (k + 117) = [] := by
    unfold m_i
    by_cases h : k < 11
    · have : (k + 117) / 16 = 7 := by omega
      rw [this]
      have h3 : (k + 117) % 16 = k + 5 := by omega
      rw [h3]
      rfl
    · have h2 : 8 ≤ (k + 117) / 16 := by omega
      rw [List.getElem?_eq_none (by exact h2)]
  unfold xokB xhchk m_h m_hd m_y m_o m_L m_r
  rw [h1, h2]
  simp only [List.flatten_nil, List.all_nil, Bool.true_and]
  decide +kernel
set_option maxRecDepth 100000 in
theorem xl_out (k : Nat) : xps (xls (k + 117)) [] = true := by
  have h1 : m_f (k + 117) = (⟨"", "", ""⟩, ⟨#[]⟩, 0, none, none, 0, "", []) := by
    unfold m_f
    by_cases h : k < 11
    · have : (k + 117) / 16 = 7 := by omega
      rw [this]
      have h3 : (k + 117) % 16 = k + 5 := by omega
      rw [h3]
      rfl
    · have h2 : 8 ≤ (k + 117) / 16 := by omega
      rw [List.getElem?_eq_none (by exact h2)]
  have h2 : m_i (k + 117) = [] := by
    unfold m_i
    by_cases h : k < 11
    · have : (k + 117) / 16 = 7 := by omega
      rw [this]
      have h3 : (k + 117) % 16 = k + 5 := by omega
      rw [h3]
      rfl
    · have h2 : 8 ≤ (k + 117) / 16 := by omega
      rw [List.getElem?_eq_none (by exact h2)]
  unfold xls xhreq m_h
  rw [h1, h2]
  rfl
theorem xok_all : ∀ k, xok k
  | 0 => xok_of xl_0 ok_0
  | 1 => xok_of xl_1 ok_1
  | 2 => xok_of xl_2 ok_2
  | 3 => xok_of xl_3 ok_3
  | 4 => xok_of xl_4 ok_4
  | 5 => xok_of xl_5 ok_5
  | 6 => xok_of xl_6 ok_6
  | 7 => xok_of xl_7 ok_7
  | 8 => xok_of xl_8 ok_8
  | 9 => xok_of xl_9 ok_9
  | 10 => xok_of xl_10 ok_10
  | 11 => xok_of xl_11 ok_11
  | 12 => xok_of xl_12 ok_12
  | 13 => xok_of xl_13 ok_13
  | 14 => xok_of xl_14 ok_14
  | 15 => xok_of xl_15 ok_15
  | 16 => xok_of xl_16 ok_16
  | 17 => xok_of xl_17 ok_17
  | 18 => xok_of xl_18 ok_18
  | 19 => xok_of xl_19 ok_19
  | 20 => xok_of xl_20 ok_20
  | 21 => xok_of xl_21 ok_21
  | 22 => xok_of xl_22 ok_22
  | 23 => xok_of xl_23 ok_23
  | 24 => xok_of xl_24 ok_24
  | 25 => xok_of xl_25 ok_25
  | 26 => xok_of xl_26 ok_26
  | 27 => xok_of xl_27 ok_27
  | 28 => xok_of xl_28 ok_28
  | 29 => xok_of xl_29 ok_29
  | 30 => xok_of xl_30 ok_30
  | 31 => xok_of xl_31 ok_31
  | 32 => xok_of xl_32 ok_32
  | 33 => xok_of xl_33 ok_33
  | 34 => xok_of xl_34 ok_34
  | 35 => xok_of xl_35 ok_35
  | 36 => xok_of xl_36 ok_36
  | 37 => xok_of xl_37 ok_37
  | 38 => xok_of xl_38 ok_38
  | 39 => xok_of xl_39 ok_39
  | 40 => xok_of xl_40 ok_40
  | 41 => xok_of xl_41 ok_41
  | 42 => xok_of xl_42 ok_42
  | 43 => xok_of xl_43 ok_43
  | 44 => xok_of xl_44 ok_44
  | 45 => xok_of xl_45 ok_45
  | 46 => xok_of xl_46 ok_46
  | 47 => xok_of xl_47 ok_47
  | 48 => xok_of xl_48 ok_48
  | 49 => xok_of xl_49 ok_49
  | 50 => xok_of xl_50 ok_50
  | 51 => xok_of xl_51 ok_51
  | 52 => xok_of xl_52 ok_52
  | 53 => xok_of xl_53 ok_53
  | 54 => xok_of xl_54 ok_54
  | 55 => xok_of xl_55 ok_55
  | 56 => xok_of xl_56 ok_56
  | 57 => xok_of xl_57 ok_57
  | 58 => xok_of xl_58 ok_58
  | 59 => xok_of xl_59 ok_59
  | 60 => xok_of xl_60 ok_60
  | 61 => xok_of xl_61 ok_61
  | 62 => xok_of xl_62 ok_62
  | 63 => xok_of xl_63 ok_63
  | 64 => xok_of xl_64 ok_64
  | 65 => xok_of xl_65 ok_65
  | 66 => xok_of xl_66 ok_66
  | 67 => xok_of xl_67 ok_67
  | 68 => xok_of xl_68 ok_68
  | 69 => xok_of xl_69 ok_69
  | 70 => xok_of xl_70 ok_70
  | 71 => xok_of xl_71 ok_71
  | 72 => xok_of xl_72 ok_72
  | 73 => xok_of xl_73 ok_73
  | 74 => xok_of xl_74 ok_74
  | 75 => xok_of xl_75 ok_75
  | 76 => xok_of xl_76 ok_76
  | 77 => xok_of xl_77 ok_77
  | 78 => xok_of xl_78 ok_78
  | 79 => xok_of xl_79 ok_79
  | 80 => xok_of xl_80 ok_80
  | 81 => xok_of xl_81 ok_81
  | 82 => xok_of xl_82 ok_82
  | 83 => xok_of xl_83 ok_83
  | 84 => xok_of xl_84 ok_84
  | 85 => xok_of xl_85 ok_85
  | 86 => xok_of xl_86 ok_86
  | 87 => xok_of xl_87 ok_87
  | 88 => xok_of xl_88 ok_88
  | 89 => xok_of xl_89 ok_89
  | 90 => xok_of xl_90 ok_90
  | 91 => xok_of xl_91 ok_91
  | 92 => xok_of xl_92 ok_92
  | 93 => xok_of xl_93 ok_93
  | 94 => xok_of xl_94 ok_94
  | 95 => xok_of xl_95 ok_95
  | 96 => xok_of xl_96 ok_96
  | 97 => xok_of xl_97 ok_97
  | 98 => xok_of xl_98 ok_98
  | 99 => xok_of xl_99 ok_99
  | 100 => xok_of xl_100 ok_100
  | 101 => xok_of xl_101 ok_101
  | 102 => xok_of xl_102 ok_102
  | 103 => xok_of xl_103 ok_103
  | 104 => xok_of xl_104 ok_104
  | 105 => xok_of xl_105 ok_105
  | 106 => xok_of xl_106 ok_106
  | 107 => xok_of xl_107 ok_107
  | 108 => xok_of xl_108 ok_108
  | 109 => xok_of xl_109 ok_109
  | 110 => xok_of xl_110 ok_110
  | 111 => xok_of xl_111 ok_111
  | 112 => xok_of xl_112 ok_112
  | 113 => xok_of xl_113 ok_113
  | 114 => xok_of xl_114 ok_114
  | 115 => xok_of xl_115 ok_115
  | 116 => xok_of xl_116 ok_116
  | k + 117 => xok_of (xl_out k) (ok_out k)
end CK5
