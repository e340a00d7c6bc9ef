/-! the tables of the methods are right, 4: each row -/
section CK
set_option maxRecDepth 100000 in
theorem ok_X0_init : xokB 0 = true := by decide +kernel
set_option maxRecDepth 100000 in
theorem ok_X0_has : xokB 1 = true := by decide +kernel
set_option maxRecDepth 100000 in
theorem ok_X0_add : xokB 2 = true := by decide +kernel
set_option maxRecDepth 100000 in
theorem ok_X0_put : xokB 3 = true := by decide +kernel
set_option maxRecDepth 100000 in
theorem ok_X0_whereIs : xokB 4 = true := by decide +kernel
set_option maxRecDepth 100000 in
theorem ok_X0_sizeOf : xokB 5 = true := by decide +kernel
set_option maxRecDepth 100000 in
theorem ok_X0_cardInOrder : xokB 6 = true := by decide +kernel
set_option maxRecDepth 100000 in
theorem ok_X0_countAheadOf : xokB 7 = true := by decide +kernel
set_option maxRecDepth 100000 in
theorem ok_X0_isAtLimit : xokB 8 = true := by decide +kernel
set_option maxRecDepth 100000 in
theorem ok_X0_isAboveLimit : xokB 9 = true := by decide +kernel
set_option maxRecDepth 100000 in
theorem ok_X0_replaceLimit : xokB 10 = true := by decide +kernel
set_option maxRecDepth 100000 in
theorem ok_X0_setName : xokB 11 = true := by decide +kernel
set_option maxRecDepth 100000 in
theorem ok_X0_namesOf : xokB 12 = true := by decide +kernel
set_option maxRecDepth 100000 in
theorem ok_X0_namedIn : xokB 13 = true := by decide +kernel
set_option maxRecDepth 100000 in
theorem ok_X0_countNaming : xokB 14 = true := by decide +kernel
set_option maxRecDepth 100000 in
theorem ok_X0_countFall : xokB 15 = true := by decide +kernel
set_option maxRecDepth 100000 in
theorem ok_X0_fallsOf : xokB 16 = true := by decide +kernel
set_option maxRecDepth 100000 in
theorem ok_X0_countPush : xokB 17 = true := by decide +kernel
set_option maxRecDepth 100000 in
theorem ok_X0_pushesOf : xokB 18 = true := by decide +kernel
set_option maxRecDepth 100000 in
theorem ok_X1_init : xokB 19 = true := by decide +kernel
set_option maxRecDepth 100000 in
theorem ok_X1_has : xokB 20 = true := by decide +kernel
set_option maxRecDepth 100000 in
theorem ok_X1_add : xokB 21 = true := by decide +kernel
set_option maxRecDepth 100000 in
theorem ok_X1_weightOf : xokB 22 = true := by decide +kernel
set_option maxRecDepth 100000 in
theorem ok_X1_stateOf : xokB 23 = true := by decide +kernel
set_option maxRecDepth 100000 in
theorem ok_X1_setState : xokB 24 = true := by decide +kernel
set_option maxRecDepth 100000 in
theorem ok_X1_allOf : xokB 25 = true := by decide +kernel
set_option maxRecDepth 100000 in
theorem ok_X1_needsOf : xokB 26 = true := by decide +kernel
set_option maxRecDepth 100000 in
theorem ok_X1_addNeed : xokB 27 = true := by decide +kernel
set_option maxRecDepth 100000 in
theorem ok_X1_isNeededByOneIn : xokB 28 = true := by decide +kernel
set_option maxRecDepth 100000 in
theorem ok_X1_replaceBroken : xokB 29 = true := by decide +kernel
set_option maxRecDepth 100000 in
theorem ok_X1_replaceClash : xokB 30 = true := by decide +kernel
set_option maxRecDepth 100000 in
theorem ok_X1_areReady : xokB 31 = true := by decide +kernel
set_option maxRecDepth 100000 in
theorem ok_X1_changeAt : xokB 32 = true := by decide +kernel
set_option maxRecDepth 100000 in
theorem ok_X1_enqueue : xokB 33 = true := by decide +kernel
set_option maxRecDepth 100000 in
theorem ok_X1_unqueue : xokB 34 = true := by decide +kernel
set_option maxRecDepth 100000 in
theorem ok_X1_settle : xokB 35 = true := by decide +kernel
set_option maxRecDepth 100000 in
theorem ok_X1_foreseeRow : xokB 36 = true := by decide +kernel
set_option maxRecDepth 100000 in
theorem ok_X1_foreseeOneByOne : xokB 37 = true := by decide +kernel
set_option maxRecDepth 100000 in
theorem ok_X1_passedPlaces : xokB 38 = true := by decide +kernel
set_option maxRecDepth 100000 in
theorem ok_X1_startTrial : xokB 39 = true := by decide +kernel
set_option maxRecDepth 100000 in
theorem ok_X1_tryAndHalve : xokB 40 = true := by decide +kernel
set_option maxRecDepth 100000 in
theorem ok_X1_tryHalves : xokB 41 = true := by decide +kernel
set_option maxRecDepth 100000 in
theorem ok_X1_passes : xokB 42 = true := by decide +kernel
set_option maxRecDepth 100000 in
theorem ok_X1_holdsBehind : xokB 43 = true := by decide +kernel
set_option maxRecDepth 100000 in
theorem ok_X1_setOfRow : xokB 44 = true := by decide +kernel
set_option maxRecDepth 100000 in
theorem ok_X1_weightOfRow : xokB 45 = true := by decide +kernel
set_option maxRecDepth 100000 in
theorem ok_X2_init : xokB 46 = true := by decide +kernel
set_option maxRecDepth 100000 in
theorem ok_X2_card : xokB 47 = true := by decide +kernel
set_option maxRecDepth 100000 in
theorem ok_X2_name : xokB 48 = true := by decide +kernel
set_option maxRecDepth 100000 in
theorem ok_X2_move : xokB 49 = true := by decide +kernel
set_option maxRecDepth 100000 in
theorem ok_X2_moveBack : xokB 50 = true := by decide +kernel
set_option maxRecDepth 100000 in
theorem ok_X2_setLimit : xokB 51 = true := by decide +kernel
set_option maxRecDepth 100000 in
theorem ok_X2_change : xokB 52 = true := by decide +kernel
set_option maxRecDepth 100000 in
theorem ok_X2_need : xokB 53 = true := by decide +kernel
set_option maxRecDepth 100000 in
theorem ok_X2_setBroken : xokB 54 = true := by decide +kernel
set_option maxRecDepth 100000 in
theorem ok_X2_setClash : xokB 55 = true := by decide +kernel
set_option maxRecDepth 100000 in
theorem ok_X2_mend : xokB 56 = true := by decide +kernel
set_option maxRecDepth 100000 in
theorem ok_X2_takeOut : xokB 57 = true := by decide +kernel
set_option maxRecDepth 100000 in
theorem ok_X2_merge : xokB 58 = true := by decide +kernel
set_option maxRecDepth 100000 in
theorem ok_X2_queued : xokB 59 = true := by decide +kernel
set_option maxRecDepth 100000 in
theorem ok_X2_queuedAt : xokB 60 = true := by decide +kernel
set_option maxRecDepth 100000 in
theorem ok_X2_wouldPass : xokB 61 = true := by decide +kernel
set_option maxRecDepth 100000 in
theorem ok_X2_wouldPassOneByOne : xokB 62 = true := by decide +kernel
set_option maxRecDepth 100000 in
theorem ok_X2_wouldTake : xokB 63 = true := by decide +kernel
set_option maxRecDepth 100000 in
theorem ok_X2_bestLength : xokB 64 = true := by decide +kernel
set_option maxRecDepth 100000 in
theorem ok_X2_hours : xokB 65 = true := by decide +kernel
set_option maxRecDepth 100000 in
theorem ok_X2_cards : xokB 66 = true := by decide +kernel
set_option maxRecDepth 100000 in
theorem ok_X2_changes : xokB 67 = true := by decide +kernel
set_option maxRecDepth 100000 in
theorem ok_X2_columnOf : xokB 68 = true := by decide +kernel
set_option maxRecDepth 100000 in
theorem ok_X2_cardsIn : xokB 69 = true := by decide +kernel
set_option maxRecDepth 100000 in
theorem ok_X2_cardAt : xokB 70 = true := by decide +kernel
set_option maxRecDepth 100000 in
theorem ok_X2_canMove : xokB 71 = true := by decide +kernel
set_option maxRecDepth 100000 in
theorem ok_X2_lacks : xokB 72 = true := by decide +kernel
set_option maxRecDepth 100000 in
theorem ok_X2_falls : xokB 73 = true := by decide +kernel
set_option maxRecDepth 100000 in
theorem ok_X2_pushes : xokB 74 = true := by decide +kernel
set_option maxRecDepth 100000 in
theorem ok_X2_state : xokB 75 = true := by decide +kernel
set_option maxRecDepth 100000 in
theorem ok_X2_namedBy : xokB 76 = true := by decide +kernel
set_option maxRecDepth 100000 in
theorem ok_X2_requireCard : xokB 77 = true := by decide +kernel
set_option maxRecDepth 100000 in
theorem ok_X2_requireChange : xokB 78 = true := by decide +kernel
set_option maxRecDepth 100000 in
theorem ok_X2_requireColumn : xokB 79 = true := by decide +kernel
set_option maxRecDepth 100000 in
theorem ok_X2_requireRange : xokB 80 = true := by decide +kernel
set_option maxRecDepth 100000 in
theorem ok_X2_requireRow : xokB 81 = true := by decide +kernel
set_option maxRecDepth 100000 in
theorem ok_X2_isMovable : xokB 82 = true := by decide +kernel
set_option maxRecDepth 100000 in
theorem ok_X2_shift : xokB 83 = true := by decide +kernel
set_option maxRecDepth 100000 in
theorem ok_X2_pushBackFrom : xokB 84 = true := by decide +kernel
set_option maxRecDepth 100000 in
theorem ok_X2_dropCards : xokB 85 = true := by decide +kernel
set_option maxRecDepth 100000 in
theorem ok_X2_passOn : xokB 86 = true := by decide +kernel
set_option maxRecDepth 100000 in
theorem ok_X2_hasLimit : xokB 87 = true := by decide +kernel
set_option maxRecDepth 100000 in
theorem ok_X2_bit : xokB 88 = true := by decide +kernel
set_option maxRecDepth 100000 in
theorem ok_X2_contains : xokB 89 = true := by decide +kernel
set_option maxRecDepth 100000 in
theorem ok_X2_with : xokB 90 = true := by decide +kernel
set_option maxRecDepth 100000 in
theorem ok_X3_init : xokB 91 = true := by decide +kernel
set_option maxRecDepth 100000 in
theorem ok_X3_thrown : xokB 92 = true := by decide +kernel
set_option maxRecDepth 100000 in
theorem ok_X3_in : xokB 93 = true := by decide +kernel
set_option maxRecDepth 100000 in
theorem ok_X3_goes : xokB 94 = true := by decide +kernel
set_option maxRecDepth 100000 in
theorem ok_X3_isCard : xokB 95 = true := by decide +kernel
set_option maxRecDepth 100000 in
theorem ok_X3_isChange : xokB 96 = true := by decide +kernel
set_option maxRecDepth 100000 in
theorem ok_X3_named : xokB 97 = true := by decide +kernel
set_option maxRecDepth 100000 in
theorem ok_X3_count : xokB 98 = true := by decide +kernel
set_option maxRecDepth 100000 in
theorem ok_X3_isNamedAt : xokB 99 = true := by decide +kernel
set_option maxRecDepth 100000 in
theorem ok_X3_leaves : xokB 100 = true := by decide +kernel
set_option maxRecDepth 100000 in
theorem ok_X3_comes : xokB 101 = true := by decide +kernel
set_option maxRecDepth 100000 in
theorem ok_X3_pushesFrom : xokB 102 = true := by decide +kernel
set_option maxRecDepth 100000 in
theorem ok_X3_fallsNow : xokB 103 = true := by decide +kernel
set_option maxRecDepth 100000 in
theorem ok_X3_card : xokB 104 = true := by decide +kernel
set_option maxRecDepth 100000 in
theorem ok_X3_namesOf : xokB 105 = true := by decide +kernel
set_option maxRecDepth 100000 in
theorem ok_X3_name : xokB 106 = true := by decide +kernel
set_option maxRecDepth 100000 in
theorem ok_X3_bars : xokB 107 = true := by decide +kernel
set_option maxRecDepth 100000 in
theorem ok_X3_isMovable : xokB 108 = true := by decide +kernel
set_option maxRecDepth 100000 in
theorem ok_X3_lacksOf : xokB 109 = true := by decide +kernel
set_option maxRecDepth 100000 in
theorem ok_X3_move : xokB 110 = true := by decide +kernel
set_option maxRecDepth 100000 in
theorem ok_X3_moveBack : xokB 111 = true := by decide +kernel
set_option maxRecDepth 100000 in
theorem ok_X3_setLimit : xokB 112 = true := by decide +kernel
set_option maxRecDepth 100000 in
theorem ok_X3_change : xokB 113 = true := by decide +kernel
set_option maxRecDepth 100000 in
theorem ok_X3_need : xokB 114 = true := by decide +kernel
set_option maxRecDepth 100000 in
theorem ok_X3_setBroken : xokB 115 = true := by decide +kernel
set_option maxRecDepth 100000 in
theorem ok_X3_setClash : xokB 116 = true := by decide +kernel
set_option maxRecDepth 100000 in
theorem ok_X3_namedByNow : xokB 117 = true := by decide +kernel
set_option maxRecDepth 100000 in
theorem ok_X3_mend : xokB 118 = true := by decide +kernel
set_option maxRecDepth 100000 in
theorem ok_X3_isNeededIn : xokB 119 = true := by decide +kernel
set_option maxRecDepth 100000 in
theorem ok_X3_takeOut : xokB 120 = true := by decide +kernel
set_option maxRecDepth 100000 in
theorem ok_X3_passes : xokB 121 = true := by decide +kernel
set_option maxRecDepth 100000 in
theorem ok_X3_tried : xokB 122 = true := by decide +kernel
set_option maxRecDepth 100000 in
theorem ok_X3_works : xokB 123 = true := by decide +kernel
set_option maxRecDepth 100000 in
theorem ok_X3_passed : xokB 124 = true := by decide +kernel
set_option maxRecDepth 100000 in
theorem ok_X3_isRow : xokB 125 = true := by decide +kernel
set_option maxRecDepth 100000 in
theorem ok_X3_merge : xokB 126 = true := by decide +kernel
set_option maxRecDepth 100000 in
theorem ok_X3_queued : xokB 127 = true := by decide +kernel
set_option maxRecDepth 100000 in
theorem ok_X3_queuedAt : xokB 128 = true := by decide +kernel
set_option maxRecDepth 100000 in
theorem ok_X3_wouldPass : xokB 129 = true := by decide +kernel
set_option maxRecDepth 100000 in
theorem ok_X3_wouldPassOneByOne : xokB 130 = true := by decide +kernel
set_option maxRecDepth 100000 in
theorem ok_X3_wouldTake : xokB 131 = true := by decide +kernel
set_option maxRecDepth 100000 in
theorem ok_X3_bestLength : xokB 132 = true := by decide +kernel
set_option maxRecDepth 100000 in
theorem ok_X3_hours : xokB 133 = true := by decide +kernel
set_option maxRecDepth 100000 in
theorem ok_X3_cards : xokB 134 = true := by decide +kernel
set_option maxRecDepth 100000 in
theorem ok_X3_changes : xokB 135 = true := by decide +kernel
set_option maxRecDepth 100000 in
theorem ok_X3_columnOf : xokB 136 = true := by decide +kernel
set_option maxRecDepth 100000 in
theorem ok_X3_cardsIn : xokB 137 = true := by decide +kernel
set_option maxRecDepth 100000 in
theorem ok_X3_cardAt : xokB 138 = true := by decide +kernel
set_option maxRecDepth 100000 in
theorem ok_X3_canMove : xokB 139 = true := by decide +kernel
set_option maxRecDepth 100000 in
theorem ok_X3_lacks : xokB 140 = true := by decide +kernel
set_option maxRecDepth 100000 in
theorem ok_X3_falls : xokB 141 = true := by decide +kernel
set_option maxRecDepth 100000 in
theorem ok_X3_pushes : xokB 142 = true := by decide +kernel
set_option maxRecDepth 100000 in
theorem ok_X3_state : xokB 143 = true := by decide +kernel
set_option maxRecDepth 100000 in
theorem ok_X3_namedBy : xokB 144 = true := by decide +kernel
set_option maxRecDepth 100000 in
theorem ok_J6_bitCount_0f7a4 : xokB 145 = true := by decide +kernel
set_option maxRecDepth 100000 in
theorem ok_L_card : xokB 146 = true := by decide +kernel
set_option maxRecDepth 100000 in
theorem ok_L_name : xokB 147 = true := by decide +kernel
set_option maxRecDepth 100000 in
theorem ok_L_move : xokB 148 = true := by decide +kernel
set_option maxRecDepth 100000 in
theorem ok_L_moveBack : xokB 149 = true := by decide +kernel
set_option maxRecDepth 100000 in
theorem ok_L_setLimit : xokB 150 = true := by decide +kernel
set_option maxRecDepth 100000 in
theorem ok_L_change : xokB 151 = true := by decide +kernel
set_option maxRecDepth 100000 in
theorem ok_L_need : xokB 152 = true := by decide +kernel
set_option maxRecDepth 100000 in
theorem ok_L_setBroken : xokB 153 = true := by decide +kernel
set_option maxRecDepth 100000 in
theorem ok_L_setClash : xokB 154 = true := by decide +kernel
set_option maxRecDepth 100000 in
theorem ok_L_mend : xokB 155 = true := by decide +kernel
set_option maxRecDepth 100000 in
theorem ok_L_takeOut : xokB 156 = true := by decide +kernel
set_option maxRecDepth 100000 in
theorem ok_L_merge : xokB 157 = true := by decide +kernel
set_option maxRecDepth 100000 in
theorem ok_L_queuedAt : xokB 158 = true := by decide +kernel
set_option maxRecDepth 100000 in
theorem ok_L_wouldPass : xokB 159 = true := by decide +kernel
set_option maxRecDepth 100000 in
theorem ok_L_wouldPassOneByOne : xokB 160 = true := by decide +kernel
set_option maxRecDepth 100000 in
theorem ok_L_wouldTake : xokB 161 = true := by decide +kernel
set_option maxRecDepth 100000 in
theorem ok_L_columnOf : xokB 162 = true := by decide +kernel
set_option maxRecDepth 100000 in
theorem ok_L_cardsIn : xokB 163 = true := by decide +kernel
set_option maxRecDepth 100000 in
theorem ok_L_cardAt : xokB 164 = true := by decide +kernel
set_option maxRecDepth 100000 in
theorem ok_L_canMove : xokB 165 = true := by decide +kernel
set_option maxRecDepth 100000 in
theorem ok_L_lacks : xokB 166 = true := by decide +kernel
set_option maxRecDepth 100000 in
theorem ok_L_falls : xokB 167 = true := by decide +kernel
set_option maxRecDepth 100000 in
theorem ok_L_pushes : xokB 168 = true := by decide +kernel
set_option maxRecDepth 100000 in
theorem ok_L_state : xokB 169 = true := by decide +kernel
set_option maxRecDepth 100000 in
theorem ok_L_namedBy : xokB 170 = true := by decide +kernel
set_option maxRecDepth 100000 in
theorem okl_0 : ((i_L_law.drop 0).take 4).flatten.all (fun e => xchk 171 e && xcal 171 e) = true := by decide +kernel
set_option maxRecDepth 100000 in
theorem okl_1 : ((i_L_law.drop 4).take 4).flatten.all (fun e => xchk 171 e && xcal 171 e) = true := by decide +kernel
set_option maxRecDepth 100000 in
theorem okl_2 : ((i_L_law.drop 8).take 4).flatten.all (fun e => xchk 171 e && xcal 171 e) = true := by decide +kernel
set_option maxRecDepth 100000 in
theorem okl_3 : ((i_L_law.drop 12).take 4).flatten.all (fun e => xchk 171 e && xcal 171 e) = true := by decide +kernel
set_option maxRecDepth 100000 in
theorem okl_4 : ((i_L_law.drop 16).take 4).flatten.all (fun e => xchk 171 e && xcal 171 e) = true := by decide +kernel
set_option maxRecDepth 100000 in
theorem okl_5 : ((i_L_law.drop 20).take 4).flatten.all (fun e => xchk 171 e && xcal 171 e) = true := by decide +kernel
set_option maxRecDepth 100000 in
theorem okl_6 : ((i_L_law.drop 24).take 4).flatten.all (fun e => xchk 171 e && xcal 171 e) = true := by decide +kernel
set_option maxRecDepth 100000 in
theorem okl_7 : ((i_L_law.drop 28).take 4).flatten.all (fun e => xchk 171 e && xcal 171 e) = true := by decide +kernel
set_option maxRecDepth 100000 in
theorem okl_8 : ((i_L_law.drop 32).take 4).flatten.all (fun e => xchk 171 e && xcal 171 e) = true := by decide +kernel
set_option maxRecDepth 100000 in
theorem okl_9 : ((i_L_law.drop 36).take 4).flatten.all (fun e => xchk 171 e && xcal 171 e) = true := by decide +kernel
set_option maxRecDepth 100000 in
theorem okl_10 : ((i_L_law.drop 40).take 4).flatten.all (fun e => xchk 171 e && xcal 171 e) = true := by decide +kernel
set_option maxRecDepth 100000 in
theorem okl_11 : ((i_L_law.drop 44).take 4).flatten.all (fun e => xchk 171 e && xcal 171 e) = true := by decide +kernel
set_option maxRecDepth 100000 in
theorem okl_12 : ((i_L_law.drop 48).take 4).flatten.all (fun e => xchk 171 e && xcal 171 e) = true := by decide +kernel
set_option maxRecDepth 100000 in
theorem okl_13 : ((i_L_law.drop 52).take 4).flatten.all (fun e => xchk 171 e && xcal 171 e) = true := by decide +kernel
set_option maxRecDepth 100000 in
theorem okl_14 : ((i_L_law.drop 56).take 4).flatten.all (fun e => xchk 171 e && xcal 171 e) = true := by decide +kernel
set_option maxRecDepth 100000 in
theorem okl_15 : ((i_L_law.drop 60).take 4).flatten.all (fun e => xchk 171 e && xcal 171 e) = true := by decide +kernel
set_option maxRecDepth 100000 in
theorem okl_16 : ((i_L_law.drop 64).take 4).flatten.all (fun e => xchk 171 e && xcal 171 e) = true := by decide +kernel
set_option maxRecDepth 100000 in
theorem okl_17 : ((i_L_law.drop 68).take 4).flatten.all (fun e => xchk 171 e && xcal 171 e) = true := by decide +kernel
set_option maxRecDepth 100000 in
theorem okl_18 : ((i_L_law.drop 72).take 4).flatten.all (fun e => xchk 171 e && xcal 171 e) = true := by decide +kernel
set_option maxRecDepth 100000 in
theorem okl_19 : ((i_L_law.drop 76).take 4).flatten.all (fun e => xchk 171 e && xcal 171 e) = true := by decide +kernel
set_option maxRecDepth 100000 in
theorem okl_20 : ((i_L_law.drop 80).take 4).flatten.all (fun e => xchk 171 e && xcal 171 e) = true := by decide +kernel
set_option maxRecDepth 100000 in
theorem okl_21 : ((i_L_law.drop 84).take 4).flatten.all (fun e => xchk 171 e && xcal 171 e) = true := by decide +kernel
set_option maxRecDepth 100000 in
theorem okl_22 : ((i_L_law.drop 88).take 4).flatten.all (fun e => xchk 171 e && xcal 171 e) = true := by decide +kernel
set_option maxRecDepth 100000 in
theorem okl_23 : ((i_L_law.drop 92).take 4).flatten.all (fun e => xchk 171 e && xcal 171 e) = true := by decide +kernel
set_option maxRecDepth 100000 in
theorem okl_24 : ((i_L_law.drop 96).take 4).flatten.all (fun e => xchk 171 e && xcal 171 e) = true := by decide +kernel
set_option maxRecDepth 100000 in
theorem okl_25 : ((i_L_law.drop 100).take 4).flatten.all (fun e => xchk 171 e && xcal 171 e) = true := by decide +kernel
set_option maxRecDepth 100000 in
theorem okl_26 : ((i_L_law.drop 104).take 4).flatten.all (fun e => xchk 171 e && xcal 171 e) = true := by decide +kernel
set_option maxRecDepth 100000 in
theorem okl_27 : ((i_L_law.drop 108).take 4).flatten.all (fun e => xchk 171 e && xcal 171 e) = true := by decide +kernel
set_option maxRecDepth 100000 in
theorem okl_28 : ((i_L_law.drop 112).take 4).flatten.all (fun e => xchk 171 e && xcal 171 e) = true := by decide +kernel
end CK
