/-! the tables of the methods are right, 3: the links of each method -/
section CK3
set_option maxRecDepth 100000 in
theorem xl_0 : xps (xls 0) [] = true := by decide +kernel
set_option maxRecDepth 100000 in
theorem xl_1 : xps (xls 1) [71] = true := by decide +kernel
set_option maxRecDepth 100000 in
theorem xl_2 : xps (xls 2) [71, 71, 64, 71, 71, 333] = true := by decide +kernel
set_option maxRecDepth 100000 in
theorem xl_3 : xps (xls 3) [337, 65, 66, 73, 73, 73] = true := by decide +kernel
set_option maxRecDepth 100000 in
theorem xl_4 : xps (xls 4) [337, 65] = true := by decide +kernel
set_option maxRecDepth 100000 in
theorem xl_5 : xps (xls 5) [71, 65] = true := by decide +kernel
set_option maxRecDepth 100000 in
theorem xl_6 : xps (xls 6) [71, 65, 479] = true := by decide +kernel
set_option maxRecDepth 100000 in
theorem xl_7 : xps (xls 7) [337, 71, 64, 64, 64, 64, 66, 66, 65, 65] = true := by decide +kernel
set_option maxRecDepth 100000 in
theorem xl_8 : xps (xls 8) [407, 410, 70] = true := by decide +kernel
set_option maxRecDepth 100000 in
theorem xl_9 : xps (xls 9) [407, 410, 70] = true := by decide +kernel
set_option maxRecDepth 100000 in
theorem xl_10 : xps (xls 10) [407, 70, 70] = true := by decide +kernel
set_option maxRecDepth 100000 in
theorem xl_11 : xps (xls 11) [337, 67, 67, 385] = true := by decide +kernel
set_option maxRecDepth 100000 in
theorem xl_12 : xps (xls 12) [337, 67] = true := by decide +kernel
set_option maxRecDepth 100000 in
theorem xl_13 : xps (xls 13) [71, 65, 67] = true := by decide +kernel
set_option maxRecDepth 100000 in
theorem xl_14 : xps (xls 14) [71, 67, 560] = true := by decide +kernel
set_option maxRecDepth 100000 in
theorem xl_15 : xps (xls 15) [337, 68] = true := by decide +kernel
set_option maxRecDepth 100000 in
theorem xl_16 : xps (xls 16) [337, 68] = true := by decide +kernel
set_option maxRecDepth 100000 in
theorem xl_17 : xps (xls 17) [337, 69] = true := by decide +kernel
set_option maxRecDepth 100000 in
theorem xl_18 : xps (xls 18) [337, 69] = true := by decide +kernel
set_option maxRecDepth 100000 in
theorem xl_19 : xps (xls 19) [] = true := by decide +kernel
set_option maxRecDepth 100000 in
theorem xl_20 : xps (xls 20) [106] = true := by decide +kernel
set_option maxRecDepth 100000 in
theorem xl_21 : xps (xls 21) [106, 106, 100, 103, 106, 106] = true := by decide +kernel
set_option maxRecDepth 100000 in
theorem xl_22 : xps (xls 22) [187, 100] = true := by decide +kernel
set_option maxRecDepth 100000 in
theorem xl_23 : xps (xls 23) [187, 103] = true := by decide +kernel
set_option maxRecDepth 100000 in
theorem xl_24 : xps (xls 24) [187, 103] = true := by decide +kernel
set_option maxRecDepth 100000 in
theorem xl_25 : xps (xls 25) [106, 103, 168] = true := by decide +kernel
set_option maxRecDepth 100000 in
theorem xl_26 : xps (xls 26) [187, 101] = true := by decide +kernel
set_option maxRecDepth 100000 in
theorem xl_27 : xps (xls 27) [187, 101, 101, 521] = true := by decide +kernel
set_option maxRecDepth 100000 in
theorem xl_28 : xps (xls 28) [106, 103, 101, 203] = true := by decide +kernel
set_option maxRecDepth 100000 in
theorem xl_29 : xps (xls 29) [105, 203, 105, 521, 105] = true := by decide +kernel
set_option maxRecDepth 100000 in
theorem xl_30 : xps (xls 30) [187, 187, 102, 203, 102, 102, 521, 102, 102, 521] = true := by decide +kernel
set_option maxRecDepth 100000 in
theorem xl_31 : xps (xls 31) [164, 164, 106, 203, 101] = true := by decide +kernel
set_option maxRecDepth 100000 in
theorem xl_32 : xps (xls 32) [108, 104, 104] = true := by decide +kernel
set_option maxRecDepth 100000 in
theorem xl_33 : xps (xls 33) [106, 203, 103, 108, 104, 103, 104, 108, 108, 108] = true := by decide +kernel
set_option maxRecDepth 100000 in
theorem xl_34 : xps (xls 34) [108, 104, 104, 203, 432, 104, 108] = true := by decide +kernel
set_option maxRecDepth 100000 in
theorem xl_35 : xps (xls 35) [108, 104, 104, 110, 203, 432, 104, 108] = true := by decide +kernel
set_option maxRecDepth 100000 in
theorem xl_36 : xps (xls 36) [160, 171] = true := by decide +kernel
set_option maxRecDepth 100000 in
theorem xl_37 : xps (xls 37) [160, 108, 171] = true := by decide +kernel
set_option maxRecDepth 100000 in
theorem xl_38 : xps (xls 38) [108, 110, 179, 203] = true := by decide +kernel
set_option maxRecDepth 100000 in
theorem xl_39 : xps (xls 39) [164, 110, 111, 113] = true := by decide +kernel
set_option maxRecDepth 100000 in
theorem xl_40 : xps (xls 40) [111, 111, 113, 175, 113, 191, 110, 195, 110, 207] = true := by decide +kernel
set_option maxRecDepth 100000 in
theorem xl_41 : xps (xls 41) [171, 171] = true := by decide +kernel
set_option maxRecDepth 100000 in
theorem xl_42 : xps (xls 42) [179, 195, 199] = true := by decide +kernel
set_option maxRecDepth 100000 in
theorem xl_43 : xps (xls 43) [187, 105, 203, 110, 101, 102] = true := by decide +kernel
set_option maxRecDepth 100000 in
theorem xl_44 : xps (xls 44) [179, 168] = true := by decide +kernel
set_option maxRecDepth 100000 in
theorem xl_45 : xps (xls 45) [179, 183] = true := by decide +kernel
set_option maxRecDepth 100000 in
theorem xl_46 : xps (xls 46) [] = true := by decide +kernel
set_option maxRecDepth 100000 in
theorem xl_47 : xps (xls 47) [242, 138, 72, 313, 47, 138, 329] = true := by decide +kernel
set_option maxRecDepth 100000 in
theorem xl_48 : xps (xls 48) [349, 370, 138, 376, 313, 47, 138, 381, 138, 388, 215] = true := by decide +kernel
set_option maxRecDepth 100000 in
theorem xl_49 : xps (xls 49) [349, 399, 313, 47, 138, 376, 419, 139, 138, 388, 436, 440, 138, 376] = true := by decide +kernel
set_option maxRecDepth 100000 in
theorem xl_50 : xps (xls 50) [349, 138, 376, 138, 403, 313, 47, 419, 138, 376] = true := by decide +kernel
set_option maxRecDepth 100000 in
theorem xl_51 : xps (xls 51) [460, 354, 48, 242, 138, 462, 138, 466, 467] = true := by decide +kernel
set_option maxRecDepth 100000 in
theorem xl_52 : xps (xls 52) [242, 139, 107, 313, 47, 139, 495] = true := by decide +kernel
set_option maxRecDepth 100000 in
theorem xl_53 : xps (xls 53) [370, 370, 245, 46, 139, 507, 139, 511, 515, 313, 47, 139, 517, 139, 511, 215] = true := by decide +kernel
set_option maxRecDepth 100000 in
theorem xl_54 : xps (xls 54) [370, 139, 507, 313, 47, 139, 530] = true := by decide +kernel
set_option maxRecDepth 100000 in
theorem xl_55 : xps (xls 55) [370, 370, 245, 46, 139, 507, 139, 507, 313, 47, 139, 543] = true := by decide +kernel
set_option maxRecDepth 100000 in
theorem xl_56 : xps (xls 56) [370, 139, 507, 313, 47, 139, 555, 139, 530, 138, 556] = true := by decide +kernel
set_option maxRecDepth 100000 in
theorem xl_57 : xps (xls 57) [370, 139, 507, 139, 568, 313, 47, 139, 555, 206, 573] = true := by decide +kernel
set_option maxRecDepth 100000 in
theorem xl_58 : xps (xls 58) [588, 139, 156, 139, 593, 140, 139, 114, 140, 139, 444, 573, 138, 72, 440, 139, 112] = true := by decide +kernel
set_option maxRecDepth 100000 in
theorem xl_59 : xps (xls 59) [139, 109] = true := by decide +kernel
set_option maxRecDepth 100000 in
theorem xl_60 : xps (xls 60) [139, 109, 354, 48, 139, 605] = true := by decide +kernel
set_option maxRecDepth 100000 in
theorem xl_61 : xps (xls 61) [588, 139, 156, 139, 211] = true := by decide +kernel
set_option maxRecDepth 100000 in
theorem xl_62 : xps (xls 62) [588, 139, 620, 139, 211] = true := by decide +kernel
set_option maxRecDepth 100000 in
theorem xl_63 : xps (xls 63) [588, 139, 620, 139, 156, 139, 114] = true := by decide +kernel
set_option maxRecDepth 100000 in
theorem xl_64 : xps (xls 64) [139, 109, 139, 156, 139, 211, 215, 139, 114, 139, 114] = true := by decide +kernel
set_option maxRecDepth 100000 in
theorem xl_65 : xps (xls 65) [140] = true := by decide +kernel
set_option maxRecDepth 100000 in
theorem xl_66 : xps (xls 66) [138, 72] = true := by decide +kernel
set_option maxRecDepth 100000 in
theorem xl_67 : xps (xls 67) [139, 107] = true := by decide +kernel
set_option maxRecDepth 100000 in
theorem xl_68 : xps (xls 68) [349, 138, 376] = true := by decide +kernel
set_option maxRecDepth 100000 in
theorem xl_69 : xps (xls 69) [645, 138, 466] = true := by decide +kernel
set_option maxRecDepth 100000 in
theorem xl_70 : xps (xls 70) [645, 138, 466, 354, 48, 138, 475] = true := by decide +kernel
set_option maxRecDepth 100000 in
theorem xl_71 : xps (xls 71) [349, 399] = true := by decide +kernel
set_option maxRecDepth 100000 in
theorem xl_72 : xps (xls 72) [349, 138, 388, 139, 444, 215] = true := by decide +kernel
set_option maxRecDepth 100000 in
theorem xl_73 : xps (xls 73) [349, 138, 678] = true := by decide +kernel
set_option maxRecDepth 100000 in
theorem xl_74 : xps (xls 74) [349, 138, 689] = true := by decide +kernel
set_option maxRecDepth 100000 in
theorem xl_75 : xps (xls 75) [370, 139, 507] = true := by decide +kernel
set_option maxRecDepth 100000 in
theorem xl_76 : xps (xls 76) [370, 138, 556] = true := by decide +kernel
set_option maxRecDepth 100000 in
theorem xl_77 : xps (xls 77) [138, 353, 354, 48] = true := by decide +kernel
set_option maxRecDepth 100000 in
theorem xl_78 : xps (xls 78) [139, 374, 354, 48] = true := by decide +kernel
set_option maxRecDepth 100000 in
theorem xl_79 : xps (xls 79) [354, 48] = true := by decide +kernel
set_option maxRecDepth 100000 in
theorem xl_80 : xps (xls 80) [245, 46] = true := by decide +kernel
set_option maxRecDepth 100000 in
theorem xl_81 : xps (xls 81) [242, 139, 109, 313, 47] = true := by decide +kernel
set_option maxRecDepth 100000 in
theorem xl_82 : xps (xls 82) [138, 376, 138, 403, 138, 388, 139, 138, 388, 414] = true := by decide +kernel
set_option maxRecDepth 100000 in
theorem xl_83 : xps (xls 83) [138, 376, 138, 423, 139, 138, 388, 138, 424, 428] = true := by decide +kernel
set_option maxRecDepth 100000 in
theorem xl_84 : xps (xls 84) [138, 471, 138, 138, 466, 475, 138, 483, 419] = true := by decide +kernel
set_option maxRecDepth 100000 in
theorem xl_85 : xps (xls 85) [138, 72, 138, 376, 138, 388, 138, 577, 419, 467] = true := by decide +kernel
set_option maxRecDepth 100000 in
theorem xl_86 : xps (xls 86) [138, 388, 139, 444, 138, 376, 419] = true := by decide +kernel
set_option maxRecDepth 100000 in
theorem xl_87 : xps (xls 87) [] = true := by decide +kernel
set_option maxRecDepth 100000 in
theorem xl_88 : xps (xls 88) [] = true := by decide +kernel
set_option maxRecDepth 100000 in
theorem xl_89 : xps (xls 89) [206] = true := by decide +kernel
set_option maxRecDepth 100000 in
theorem xl_90 : xps (xls 90) [206, 206] = true := by decide +kernel
set_option maxRecDepth 100000 in
theorem xl_91 : xps (xls 91) [] = true := by decide +kernel
set_option maxRecDepth 100000 in
theorem xl_92 : xps (xls 92) [736] = true := by decide +kernel
set_option maxRecDepth 100000 in
theorem xl_93 : xps (xls 93) [] = true := by decide +kernel
set_option maxRecDepth 100000 in
theorem xl_94 : xps (xls 94) [736, 736] = true := by decide +kernel
set_option maxRecDepth 100000 in
theorem xl_95 : xps (xls 95) [719, 795] = true := by decide +kernel
set_option maxRecDepth 100000 in
theorem xl_96 : xps (xls 96) [727, 795] = true := by decide +kernel
set_option maxRecDepth 100000 in
theorem xl_97 : xps (xls 97) [718] = true := by decide +kernel
set_option maxRecDepth 100000 in
theorem xl_98 : xps (xls 98) [719, 714] = true := by decide +kernel
set_option maxRecDepth 100000 in
theorem xl_99 : xps (xls 99) [719, 714, 818] = true := by decide +kernel
set_option maxRecDepth 100000 in
theorem xl_100 : xps (xls 100) [729, 728, 728, 728, 729] = true := by decide +kernel
set_option maxRecDepth 100000 in
theorem xl_101 : xps (xls 101) [714, 714, 720, 720, 715, 720, 727, 818, 723, 842, 723, 846] = true := by decide +kernel
set_option maxRecDepth 100000 in
theorem xl_102 : xps (xls 102) [719, 713, 713, 713, 713, 715, 715, 714, 717, 838, 830, 721] = true := by decide +kernel
set_option maxRecDepth 100000 in
theorem xl_103 : xps (xls 103) [716, 838, 830, 721, 862] = true := by decide +kernel
set_option maxRecDepth 100000 in
theorem xl_104 : xps (xls 104) [795, 719, 798, 713, 719, 720, 720, 715, 719, 720, 719, 719, 719] = true := by decide +kernel
set_option maxRecDepth 100000 in
theorem xl_105 : xps (xls 105) [727, 818] = true := by decide +kernel
set_option maxRecDepth 100000 in
theorem xl_106 : xps (xls 106) [806, 810, 714, 798, 718, 814] = true := by decide +kernel
set_option maxRecDepth 100000 in
theorem xl_107 : xps (xls 107) [723, 727, 723, 723, 725, 818] = true := by decide +kernel
set_option maxRecDepth 100000 in
theorem xl_108 : xps (xls 108) [714, 830, 721, 814, 727, 818, 834] = true := by decide +kernel
set_option maxRecDepth 100000 in
theorem xl_109 : xps (xls 109) [727, 818, 723] = true := by decide +kernel
set_option maxRecDepth 100000 in
theorem xl_110 : xps (xls 110) [806, 826, 798, 714, 838, 714, 727, 818, 723, 723, 728, 729, 729, 729, 850, 838, 714] = true := by decide +kernel
set_option maxRecDepth 100000 in
theorem xl_111 : xps (xls 111) [806, 714, 795, 714, 714, 830, 721, 714, 798, 714, 838, 714] = true := by decide +kernel
set_option maxRecDepth 100000 in
theorem xl_112 : xps (xls 112) [795, 795, 798, 721, 721, 830, 862] = true := by decide +kernel
set_option maxRecDepth 100000 in
theorem xl_113 : xps (xls 113) [795, 727, 798, 722, 727, 727, 727, 727] = true := by decide +kernel
set_option maxRecDepth 100000 in
theorem xl_114 : xps (xls 114) [810, 810, 723, 725, 798, 725, 727, 725] = true := by decide +kernel
set_option maxRecDepth 100000 in
theorem xl_115 : xps (xls 115) [810, 723, 798, 724, 724] = true := by decide +kernel
set_option maxRecDepth 100000 in
theorem xl_116 : xps (xls 116) [810, 810, 723, 723, 798, 726, 726, 726] = true := by decide +kernel
set_option maxRecDepth 100000 in
theorem xl_117 : xps (xls 117) [719, 818] = true := by decide +kernel
set_option maxRecDepth 100000 in
theorem xl_118 : xps (xls 118) [810, 723, 798, 723, 724, 886] = true := by decide +kernel
set_option maxRecDepth 100000 in
theorem xl_119 : xps (xls 119) [727, 723, 725] = true := by decide +kernel
set_option maxRecDepth 100000 in
theorem xl_120 : xps (xls 120) [810, 723, 894, 798, 723, 719, 714, 818, 898] = true := by decide +kernel
set_option maxRecDepth 100000 in
theorem xl_121 : xps (xls 121) [728, 724, 727, 731, 728, 725, 726] = true := by decide +kernel
set_option maxRecDepth 100000 in
theorem xl_122 : xps (xls 122) [734, 734, 735, 735, 735, 722, 728, 735, 918, 731, 728] = true := by decide +kernel
set_option maxRecDepth 100000 in
theorem xl_123 : xps (xls 123) [734, 735, 727, 731, 723, 732, 733, 732, 733, 732, 733, 914, 732, 733, 732, 733] = true := by decide +kernel
set_option maxRecDepth 100000 in
theorem xl_124 : xps (xls 124) [731, 728] = true := by decide +kernel
set_option maxRecDepth 100000 in
theorem xl_125 : xps (xls 125) [795, 729, 798] = true := by decide +kernel
set_option maxRecDepth 100000 in
theorem xl_126 : xps (xls 126) [906, 910, 730, 735, 730, 723, 728, 731, 728, 729, 728, 728, 729, 729, 719, 727, 818, 723, 714, 898, 719, 714, 850, 838, 734] = true := by decide +kernel
set_option maxRecDepth 100000 in
theorem xl_127 : xps (xls 127) [736, 729] = true := by decide +kernel
set_option maxRecDepth 100000 in
theorem xl_128 : xps (xls 128) [729, 795, 798, 728] = true := by decide +kernel
set_option maxRecDepth 100000 in
theorem xl_129 : xps (xls 129) [906, 910, 934] = true := by decide +kernel
set_option maxRecDepth 100000 in
theorem xl_130 : xps (xls 130) [906, 910, 934] = true := by decide +kernel
set_option maxRecDepth 100000 in
theorem xl_131 : xps (xls 131) [906, 910, 735] = true := by decide +kernel
set_option maxRecDepth 100000 in
theorem xl_132 : xps (xls 132) [736, 729, 910, 731, 728, 735, 735] = true := by decide +kernel
set_option maxRecDepth 100000 in
theorem xl_133 : xps (xls 133) [736, 730] = true := by decide +kernel
set_option maxRecDepth 100000 in
theorem xl_134 : xps (xls 134) [736, 719] = true := by decide +kernel
set_option maxRecDepth 100000 in
theorem xl_135 : xps (xls 135) [736, 727] = true := by decide +kernel
set_option maxRecDepth 100000 in
theorem xl_136 : xps (xls 136) [806, 798, 714] = true := by decide +kernel
set_option maxRecDepth 100000 in
theorem xl_137 : xps (xls 137) [795, 798, 830] = true := by decide +kernel
set_option maxRecDepth 100000 in
theorem xl_138 : xps (xls 138) [795, 830, 795, 798, 719, 719, 713, 713, 713, 713, 715, 715, 714, 714] = true := by decide +kernel
set_option maxRecDepth 100000 in
theorem xl_139 : xps (xls 139) [806, 798, 826] = true := by decide +kernel
set_option maxRecDepth 100000 in
theorem xl_140 : xps (xls 140) [806, 798, 850] = true := by decide +kernel
set_option maxRecDepth 100000 in
theorem xl_141 : xps (xls 141) [806, 798, 716] = true := by decide +kernel
set_option maxRecDepth 100000 in
theorem xl_142 : xps (xls 142) [806, 798, 717] = true := by decide +kernel
set_option maxRecDepth 100000 in
theorem xl_143 : xps (xls 143) [810, 798, 723] = true := by decide +kernel
set_option maxRecDepth 100000 in
theorem xl_144 : xps (xls 144) [810, 798, 886] = true := by decide +kernel
set_option maxRecDepth 100000 in
theorem xl_145 : xps (xls 145) [218, 219, 219, 220] = true := by decide +kernel
set_option maxRecDepth 100000 in
theorem xl_146 : xps (xls 146) [238, 236, 247, 237, 315] = true := by decide +kernel
set_option maxRecDepth 100000 in
theorem xl_147 : xps (xls 147) [345, 344, 356, 237, 315] = true := by decide +kernel
set_option maxRecDepth 100000 in
theorem xl_148 : xps (xls 148) [395, 344, 356, 237, 315] = true := by decide +kernel
set_option maxRecDepth 100000 in
theorem xl_149 : xps (xls 149) [448, 344, 356, 237, 315] = true := by decide +kernel
set_option maxRecDepth 100000 in
theorem xl_150 : xps (xls 150) [456, 344, 356, 236, 247] = true := by decide +kernel
set_option maxRecDepth 100000 in
theorem xl_151 : xps (xls 151) [490, 236, 247, 237, 315] = true := by decide +kernel
set_option maxRecDepth 100000 in
theorem xl_152 : xps (xls 152) [502, 344, 356, 236, 247, 237, 315] = true := by decide +kernel
set_option maxRecDepth 100000 in
theorem xl_153 : xps (xls 153) [525, 344, 356, 237, 315] = true := by decide +kernel
set_option maxRecDepth 100000 in
theorem xl_154 : xps (xls 154) [537, 344, 356, 236, 247, 237, 315] = true := by decide +kernel
set_option maxRecDepth 100000 in
theorem xl_155 : xps (xls 155) [550, 344, 356, 237, 315] = true := by decide +kernel
set_option maxRecDepth 100000 in
theorem xl_156 : xps (xls 156) [564, 344, 356, 237, 315] = true := by decide +kernel
set_option maxRecDepth 100000 in
theorem xl_157 : xps (xls 157) [584, 236, 247, 237, 315] = true := by decide +kernel
set_option maxRecDepth 100000 in
theorem xl_158 : xps (xls 158) [600, 344, 356] = true := by decide +kernel
set_option maxRecDepth 100000 in
theorem xl_159 : xps (xls 159) [609, 236, 247, 237, 315] = true := by decide +kernel
set_option maxRecDepth 100000 in
theorem xl_160 : xps (xls 160) [616, 236, 247, 237, 315] = true := by decide +kernel
set_option maxRecDepth 100000 in
theorem xl_161 : xps (xls 161) [627, 236, 247, 237, 315] = true := by decide +kernel
set_option maxRecDepth 100000 in
theorem xl_162 : xps (xls 162) [634, 344, 356] = true := by decide +kernel
set_option maxRecDepth 100000 in
theorem xl_163 : xps (xls 163) [641, 344, 356] = true := by decide +kernel
set_option maxRecDepth 100000 in
theorem xl_164 : xps (xls 164) [652, 344, 356] = true := by decide +kernel
set_option maxRecDepth 100000 in
theorem xl_165 : xps (xls 165) [660, 344, 356] = true := by decide +kernel
set_option maxRecDepth 100000 in
theorem xl_166 : xps (xls 166) [667, 344, 356] = true := by decide +kernel
set_option maxRecDepth 100000 in
theorem xl_167 : xps (xls 167) [674, 344, 356] = true := by decide +kernel
set_option maxRecDepth 100000 in
theorem xl_168 : xps (xls 168) [685, 344, 356] = true := by decide +kernel
set_option maxRecDepth 100000 in
theorem xl_169 : xps (xls 169) [696, 344, 356] = true := by decide +kernel
set_option maxRecDepth 100000 in
theorem xl_170 : xps (xls 170) [703, 344, 356] = true := by decide +kernel
set_option maxRecDepth 100000 in
theorem xl_171 : xps (xls 171) [233, 791, 787, 341, 802, 787, 392, 822, 787, 445, 854, 787, 453, 858, 787, 487, 866, 787, 499, 870, 787, 522, 874, 787, 534, 878, 787, 547, 882, 787, 561, 890, 787, 581, 902, 787, 148, 922, 597, 926, 787, 606, 930, 787, 613, 938, 787, 624, 942, 787, 152, 946, 221, 950, 225, 954, 229, 958, 631, 962, 787, 638, 966, 787, 649, 970, 787, 657, 974, 787, 664, 978, 787, 671, 982, 787, 682, 986, 787, 693, 990, 787, 700, 994, 787] = true := by decide +kernel
end CK3
