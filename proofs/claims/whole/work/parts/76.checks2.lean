/-! the tables of the methods are right, 5: all methods -/
section CK5
theorem okl_cut (f : xI → Bool) : ∀ (n : Nat) (I : List (List xI)), (∀ j, j < n → ((I.drop (4 * j)).take 4).flatten.all f = true) → I.length ≤ 4 * n → I.flatten.all f = true
  | 0, I, _, h => by
    have : I = [] := List.length_eq_zero_iff.mp (by omega)
    subst this; rfl
  | n + 1, I, hj, h => by
    have h0 := hj 0 (by omega)
    have h1 := okl_cut f n (I.drop 4) (fun j hjn => by rw [List.drop_drop]; have := hj (j + 1) (by omega); rwa [show 4 * (j + 1) = 4 + 4 * j by omega] at this) (by rw [List.length_drop]; omega)
    rw [Nat.mul_zero, List.drop_zero] at h0
    rw [← List.take_append_drop 4 I, List.flatten_append, List.all_append, h0, h1]
    rfl
set_option maxRecDepth 100000 in
theorem ok_L_law : xokB 171 = true := by
  have h0 : m_i 171 = i_L_law := rfl
  have h1 : i_L_law.flatten.all (fun e => xchk 171 e && xcal 171 e) = true := by
    refine okl_cut _ 29 _ (fun j hj => ?_) (by decide +kernel)
    match j, hj with
    | 0, _ => exact okl_0
    | 1, _ => exact okl_1
    | 2, _ => exact okl_2
    | 3, _ => exact okl_3
    | 4, _ => exact okl_4
    | 5, _ => exact okl_5
    | 6, _ => exact okl_6
    | 7, _ => exact okl_7
    | 8, _ => exact okl_8
    | 9, _ => exact okl_9
    | 10, _ => exact okl_10
    | 11, _ => exact okl_11
    | 12, _ => exact okl_12
    | 13, _ => exact okl_13
    | 14, _ => exact okl_14
    | 15, _ => exact okl_15
    | 16, _ => exact okl_16
    | 17, _ => exact okl_17
    | 18, _ => exact okl_18
    | 19, _ => exact okl_19
    | 20, _ => exact okl_20
    | 21, _ => exact okl_21
    | 22, _ => exact okl_22
    | 23, _ => exact okl_23
    | 24, _ => exact okl_24
    | 25, _ => exact okl_25
    | 26, _ => exact okl_26
    | 27, _ => exact okl_27
    | 28, _ => exact okl_28
    | j + 29, hj => exact absurd hj (by omega)
  unfold xokB
  rw [h0, h1]
  decide +kernel
set_option maxRecDepth 100000 in
theorem ok_out (k : Nat) : xokB (k + 172) = true := by
  have h1 : m_f (k + 172) = (⟨"", "", ""⟩, ⟨#[]⟩, 0, none, none, 0, "", []) := by
    unfold m_f
    by_cases h : k < 4
    · have : (k + 172) / 16 = 10 := by omega
      rw [this]
      have h3 : (k + 172) % 16 = k + 12 := by omega
      rw [h3]
      rfl
    · have h2 : 11 ≤ (k + 172) / 16 := by omega
      rw [List.getElem?_eq_none (by exact h2)]
  have h2 : m_i (k + 172) = [] := by
    unfold m_i
    by_cases h : k < 4
    · have : (k + 172) / 16 = 10 := by omega
      rw [this]
      have h3 : (k + 172) % 16 = k + 12 := by omega
      rw [h3]
      rfl
    · have h2 : 11 ≤ (k + 172) / 16 := by omega
      rw [List.getElem?_eq_none (by exact h2)]
  unfold xokB xhchk m_h m_hd m_y m_o m_L m_r
  rw [h1, h2]
  simp only [List.flatten_nil, List.all_nil, Bool.true_and]
  decide +kernel
set_option maxRecDepth 100000 in
theorem xl_out (k : Nat) : xps (xls (k + 172)) [] = true := by
  have h1 : m_f (k + 172) = (⟨"", "", ""⟩, ⟨#[]⟩, 0, none, none, 0, "", []) := by
    unfold m_f
    by_cases h : k < 4
    · have : (k + 172) / 16 = 10 := by omega
      rw [this]
      have h3 : (k + 172) % 16 = k + 12 := by omega
      rw [h3]
      rfl
    · have h2 : 11 ≤ (k + 172) / 16 := by omega
      rw [List.getElem?_eq_none (by exact h2)]
  have h2 : m_i (k + 172) = [] := by
    unfold m_i
    by_cases h : k < 4
    · have : (k + 172) / 16 = 10 := by omega
      rw [this]
      have h3 : (k + 172) % 16 = k + 12 := by omega
      rw [h3]
      rfl
    · have h2 : 11 ≤ (k + 172) / 16 := by omega
      rw [List.getElem?_eq_none (by exact h2)]
  unfold xls xhreq m_h
  rw [h1, h2]
  rfl
theorem xok_all : ∀ k, xok k
  | 0 => xok_of xl_0 ok_X0_init
  | 1 => xok_of xl_1 ok_X0_has
  | 2 => xok_of xl_2 ok_X0_add
  | 3 => xok_of xl_3 ok_X0_put
  | 4 => xok_of xl_4 ok_X0_whereIs
  | 5 => xok_of xl_5 ok_X0_sizeOf
  | 6 => xok_of xl_6 ok_X0_cardInOrder
  | 7 => xok_of xl_7 ok_X0_countAheadOf
  | 8 => xok_of xl_8 ok_X0_isAtLimit
  | 9 => xok_of xl_9 ok_X0_isAboveLimit
  | 10 => xok_of xl_10 ok_X0_replaceLimit
  | 11 => xok_of xl_11 ok_X0_setName
  | 12 => xok_of xl_12 ok_X0_namesOf
  | 13 => xok_of xl_13 ok_X0_namedIn
  | 14 => xok_of xl_14 ok_X0_countNaming
  | 15 => xok_of xl_15 ok_X0_countFall
  | 16 => xok_of xl_16 ok_X0_fallsOf
  | 17 => xok_of xl_17 ok_X0_countPush
  | 18 => xok_of xl_18 ok_X0_pushesOf
  | 19 => xok_of xl_19 ok_X1_init
  | 20 => xok_of xl_20 ok_X1_has
  | 21 => xok_of xl_21 ok_X1_add
  | 22 => xok_of xl_22 ok_X1_weightOf
  | 23 => xok_of xl_23 ok_X1_stateOf
  | 24 => xok_of xl_24 ok_X1_setState
  | 25 => xok_of xl_25 ok_X1_allOf
  | 26 => xok_of xl_26 ok_X1_needsOf
  | 27 => xok_of xl_27 ok_X1_addNeed
  | 28 => xok_of xl_28 ok_X1_isNeededByOneIn
  | 29 => xok_of xl_29 ok_X1_replaceBroken
  | 30 => xok_of xl_30 ok_X1_replaceClash
  | 31 => xok_of xl_31 ok_X1_areReady
  | 32 => xok_of xl_32 ok_X1_changeAt
  | 33 => xok_of xl_33 ok_X1_enqueue
  | 34 => xok_of xl_34 ok_X1_unqueue
  | 35 => xok_of xl_35 ok_X1_settle
  | 36 => xok_of xl_36 ok_X1_foreseeRow
  | 37 => xok_of xl_37 ok_X1_foreseeOneByOne
  | 38 => xok_of xl_38 ok_X1_passedPlaces
  | 39 => xok_of xl_39 ok_X1_startTrial
  | 40 => xok_of xl_40 ok_X1_tryAndHalve
  | 41 => xok_of xl_41 ok_X1_tryHalves
  | 42 => xok_of xl_42 ok_X1_passes
  | 43 => xok_of xl_43 ok_X1_holdsBehind
  | 44 => xok_of xl_44 ok_X1_setOfRow
  | 45 => xok_of xl_45 ok_X1_weightOfRow
  | 46 => xok_of xl_46 ok_X2_init
  | 47 => xok_of xl_47 ok_X2_card
  | 48 => xok_of xl_48 ok_X2_name
  | 49 => xok_of xl_49 ok_X2_move
  | 50 => xok_of xl_50 ok_X2_moveBack
  | 51 => xok_of xl_51 ok_X2_setLimit
  | 52 => xok_of xl_52 ok_X2_change
  | 53 => xok_of xl_53 ok_X2_need
  | 54 => xok_of xl_54 ok_X2_setBroken
  | 55 => xok_of xl_55 ok_X2_setClash
  | 56 => xok_of xl_56 ok_X2_mend
  | 57 => xok_of xl_57 ok_X2_takeOut
  | 58 => xok_of xl_58 ok_X2_merge
  | 59 => xok_of xl_59 ok_X2_queued
  | 60 => xok_of xl_60 ok_X2_queuedAt
  | 61 => xok_of xl_61 ok_X2_wouldPass
  | 62 => xok_of xl_62 ok_X2_wouldPassOneByOne
  | 63 => xok_of xl_63 ok_X2_wouldTake
  | 64 => xok_of xl_64 ok_X2_bestLength
  | 65 => xok_of xl_65 ok_X2_hours
  | 66 => xok_of xl_66 ok_X2_cards
  | 67 => xok_of xl_67 ok_X2_changes
  | 68 => xok_of xl_68 ok_X2_columnOf
  | 69 => xok_of xl_69 ok_X2_cardsIn
  | 70 => xok_of xl_70 ok_X2_cardAt
  | 71 => xok_of xl_71 ok_X2_canMove
  | 72 => xok_of xl_72 ok_X2_lacks
  | 73 => xok_of xl_73 ok_X2_falls
  | 74 => xok_of xl_74 ok_X2_pushes
  | 75 => xok_of xl_75 ok_X2_state
  | 76 => xok_of xl_76 ok_X2_namedBy
  | 77 => xok_of xl_77 ok_X2_requireCard
  | 78 => xok_of xl_78 ok_X2_requireChange
  | 79 => xok_of xl_79 ok_X2_requireColumn
  | 80 => xok_of xl_80 ok_X2_requireRange
  | 81 => xok_of xl_81 ok_X2_requireRow
  | 82 => xok_of xl_82 ok_X2_isMovable
  | 83 => xok_of xl_83 ok_X2_shift
  | 84 => xok_of xl_84 ok_X2_pushBackFrom
  | 85 => xok_of xl_85 ok_X2_dropCards
  | 86 => xok_of xl_86 ok_X2_passOn
  | 87 => xok_of xl_87 ok_X2_hasLimit
  | 88 => xok_of xl_88 ok_X2_bit
  | 89 => xok_of xl_89 ok_X2_contains
  | 90 => xok_of xl_90 ok_X2_with
  | 91 => xok_of xl_91 ok_X3_init
  | 92 => xok_of xl_92 ok_X3_thrown
  | 93 => xok_of xl_93 ok_X3_in
  | 94 => xok_of xl_94 ok_X3_goes
  | 95 => xok_of xl_95 ok_X3_isCard
  | 96 => xok_of xl_96 ok_X3_isChange
  | 97 => xok_of xl_97 ok_X3_named
  | 98 => xok_of xl_98 ok_X3_count
  | 99 => xok_of xl_99 ok_X3_isNamedAt
  | 100 => xok_of xl_100 ok_X3_leaves
  | 101 => xok_of xl_101 ok_X3_comes
  | 102 => xok_of xl_102 ok_X3_pushesFrom
  | 103 => xok_of xl_103 ok_X3_fallsNow
  | 104 => xok_of xl_104 ok_X3_card
  | 105 => xok_of xl_105 ok_X3_namesOf
  | 106 => xok_of xl_106 ok_X3_name
  | 107 => xok_of xl_107 ok_X3_bars
  | 108 => xok_of xl_108 ok_X3_isMovable
  | 109 => xok_of xl_109 ok_X3_lacksOf
  | 110 => xok_of xl_110 ok_X3_move
  | 111 => xok_of xl_111 ok_X3_moveBack
  | 112 => xok_of xl_112 ok_X3_setLimit
  | 113 => xok_of xl_113 ok_X3_change
  | 114 => xok_of xl_114 ok_X3_need
  | 115 => xok_of xl_115 ok_X3_setBroken
  | 116 => xok_of xl_116 ok_X3_setClash
  | 117 => xok_of xl_117 ok_X3_namedByNow
  | 118 => xok_of xl_118 ok_X3_mend
  | 119 => xok_of xl_119 ok_X3_isNeededIn
  | 120 => xok_of xl_120 ok_X3_takeOut
  | 121 => xok_of xl_121 ok_X3_passes
  | 122 => xok_of xl_122 ok_X3_tried
  | 123 => xok_of xl_123 ok_X3_works
  | 124 => xok_of xl_124 ok_X3_passed
  | 125 => xok_of xl_125 ok_X3_isRow
  | 126 => xok_of xl_126 ok_X3_merge
  | 127 => xok_of xl_127 ok_X3_queued
  | 128 => xok_of xl_128 ok_X3_queuedAt
  | 129 => xok_of xl_129 ok_X3_wouldPass
  | 130 => xok_of xl_130 ok_X3_wouldPassOneByOne
  | 131 => xok_of xl_131 ok_X3_wouldTake
  | 132 => xok_of xl_132 ok_X3_bestLength
  | 133 => xok_of xl_133 ok_X3_hours
  | 134 => xok_of xl_134 ok_X3_cards
  | 135 => xok_of xl_135 ok_X3_changes
  | 136 => xok_of xl_136 ok_X3_columnOf
  | 137 => xok_of xl_137 ok_X3_cardsIn
  | 138 => xok_of xl_138 ok_X3_cardAt
  | 139 => xok_of xl_139 ok_X3_canMove
  | 140 => xok_of xl_140 ok_X3_lacks
  | 141 => xok_of xl_141 ok_X3_falls
  | 142 => xok_of xl_142 ok_X3_pushes
  | 143 => xok_of xl_143 ok_X3_state
  | 144 => xok_of xl_144 ok_X3_namedBy
  | 145 => xok_of xl_145 ok_J6_bitCount_0f7a4
  | 146 => xok_of xl_146 ok_L_card
  | 147 => xok_of xl_147 ok_L_name
  | 148 => xok_of xl_148 ok_L_move
  | 149 => xok_of xl_149 ok_L_moveBack
  | 150 => xok_of xl_150 ok_L_setLimit
  | 151 => xok_of xl_151 ok_L_change
  | 152 => xok_of xl_152 ok_L_need
  | 153 => xok_of xl_153 ok_L_setBroken
  | 154 => xok_of xl_154 ok_L_setClash
  | 155 => xok_of xl_155 ok_L_mend
  | 156 => xok_of xl_156 ok_L_takeOut
  | 157 => xok_of xl_157 ok_L_merge
  | 158 => xok_of xl_158 ok_L_queuedAt
  | 159 => xok_of xl_159 ok_L_wouldPass
  | 160 => xok_of xl_160 ok_L_wouldPassOneByOne
  | 161 => xok_of xl_161 ok_L_wouldTake
  | 162 => xok_of xl_162 ok_L_columnOf
  | 163 => xok_of xl_163 ok_L_cardsIn
  | 164 => xok_of xl_164 ok_L_cardAt
  | 165 => xok_of xl_165 ok_L_canMove
  | 166 => xok_of xl_166 ok_L_lacks
  | 167 => xok_of xl_167 ok_L_falls
  | 168 => xok_of xl_168 ok_L_pushes
  | 169 => xok_of xl_169 ok_L_state
  | 170 => xok_of xl_170 ok_L_namedBy
  | 171 => xok_of xl_171 ok_L_law
  | k + 172 => xok_of (xl_out k) (ok_out k)
end CK5
