/-! the tables of the methods are right, 3: the links of each method -/
section CK3
set_option maxRecDepth 100000 in
theorem xl_0 : xps (xls 0) [] = true := by decide +kernel
set_option maxRecDepth 100000 in
theorem xl_1 : xps (xls 1) [58] = true := by decide +kernel
set_option maxRecDepth 100000 in
theorem xl_2 : xps (xls 2) [58, 58, 51, 58, 58, 239] = true := by decide +kernel
set_option maxRecDepth 100000 in
theorem xl_3 : xps (xls 3) [243, 52, 53, 60, 60, 60] = true := by decide +kernel
set_option maxRecDepth 100000 in
theorem xl_4 : xps (xls 4) [243, 52] = true := by decide +kernel
set_option maxRecDepth 100000 in
theorem xl_5 : xps (xls 5) [58, 52] = true := by decide +kernel
set_option maxRecDepth 100000 in
theorem xl_6 : xps (xls 6) [58, 52, 425] = true := by decide +kernel
set_option maxRecDepth 100000 in
theorem xl_7 : xps (xls 7) [243, 58, 51, 51, 51, 51, 53, 53, 52, 52] = true := by decide +kernel
set_option maxRecDepth 100000 in
theorem xl_8 : xps (xls 8) [413, 416, 57] = true := by decide +kernel
set_option maxRecDepth 100000 in
theorem xl_9 : xps (xls 9) [413, 416, 57] = true := by decide +kernel
set_option maxRecDepth 100000 in
theorem xl_10 : xps (xls 10) [413, 57, 57] = true := by decide +kernel
set_option maxRecDepth 100000 in
theorem xl_11 : xps (xls 11) [243, 54, 54, 463] = true := by decide +kernel
set_option maxRecDepth 100000 in
theorem xl_12 : xps (xls 12) [243, 54] = true := by decide +kernel
set_option maxRecDepth 100000 in
theorem xl_13 : xps (xls 13) [58, 52, 54] = true := by decide +kernel
set_option maxRecDepth 100000 in
theorem xl_14 : xps (xls 14) [58, 54, 365] = true := by decide +kernel
set_option maxRecDepth 100000 in
theorem xl_15 : xps (xls 15) [243, 55] = true := by decide +kernel
set_option maxRecDepth 100000 in
theorem xl_16 : xps (xls 16) [243, 55] = true := by decide +kernel
set_option maxRecDepth 100000 in
theorem xl_17 : xps (xls 17) [243, 56] = true := by decide +kernel
set_option maxRecDepth 100000 in
theorem xl_18 : xps (xls 18) [243, 56] = true := by decide +kernel
set_option maxRecDepth 100000 in
theorem xl_19 : xps (xls 19) [] = true := by decide +kernel
set_option maxRecDepth 100000 in
theorem xl_20 : xps (xls 20) [93] = true := by decide +kernel
set_option maxRecDepth 100000 in
theorem xl_21 : xps (xls 21) [93, 93, 87, 90, 93, 93] = true := by decide +kernel
set_option maxRecDepth 100000 in
theorem xl_22 : xps (xls 22) [295, 87] = true := by decide +kernel
set_option maxRecDepth 100000 in
theorem xl_23 : xps (xls 23) [295, 90] = true := by decide +kernel
set_option maxRecDepth 100000 in
theorem xl_24 : xps (xls 24) [295, 90] = true := by decide +kernel
set_option maxRecDepth 100000 in
theorem xl_25 : xps (xls 25) [93, 90, 493] = true := by decide +kernel
set_option maxRecDepth 100000 in
theorem xl_26 : xps (xls 26) [295, 88] = true := by decide +kernel
set_option maxRecDepth 100000 in
theorem xl_27 : xps (xls 27) [295, 88, 88, 311] = true := by decide +kernel
set_option maxRecDepth 100000 in
theorem xl_28 : xps (xls 28) [93, 90, 88, 335] = true := by decide +kernel
set_option maxRecDepth 100000 in
theorem xl_29 : xps (xls 29) [92, 335, 92, 311, 92] = true := by decide +kernel
set_option maxRecDepth 100000 in
theorem xl_30 : xps (xls 30) [295, 295, 89, 335, 89, 89, 311, 89, 89, 311] = true := by decide +kernel
set_option maxRecDepth 100000 in
theorem xl_31 : xps (xls 31) [489, 489, 93, 335, 88] = true := by decide +kernel
set_option maxRecDepth 100000 in
theorem xl_32 : xps (xls 32) [95, 91, 91] = true := by decide +kernel
set_option maxRecDepth 100000 in
theorem xl_33 : xps (xls 33) [93, 335, 90, 95, 91, 90, 91, 95, 95, 95] = true := by decide +kernel
set_option maxRecDepth 100000 in
theorem xl_34 : xps (xls 34) [95, 91, 91, 335, 404, 91, 95] = true := by decide +kernel
set_option maxRecDepth 100000 in
theorem xl_35 : xps (xls 35) [95, 91, 91, 97, 335, 404, 91, 95] = true := by decide +kernel
set_option maxRecDepth 100000 in
theorem xl_36 : xps (xls 36) [538, 542] = true := by decide +kernel
set_option maxRecDepth 100000 in
theorem xl_37 : xps (xls 37) [538, 95, 542] = true := by decide +kernel
set_option maxRecDepth 100000 in
theorem xl_38 : xps (xls 38) [95, 97, 550, 335] = true := by decide +kernel
set_option maxRecDepth 100000 in
theorem xl_39 : xps (xls 39) [489, 97, 98, 100] = true := by decide +kernel
set_option maxRecDepth 100000 in
theorem xl_40 : xps (xls 40) [98, 98, 100, 546, 100, 558, 97, 562, 97, 570] = true := by decide +kernel
set_option maxRecDepth 100000 in
theorem xl_41 : xps (xls 41) [542, 542] = true := by decide +kernel
set_option maxRecDepth 100000 in
theorem xl_42 : xps (xls 42) [550, 562, 566] = true := by decide +kernel
set_option maxRecDepth 100000 in
theorem xl_43 : xps (xls 43) [295, 92, 335, 97, 88, 89] = true := by decide +kernel
set_option maxRecDepth 100000 in
theorem xl_44 : xps (xls 44) [550, 493] = true := by decide +kernel
set_option maxRecDepth 100000 in
theorem xl_45 : xps (xls 45) [550, 554] = true := by decide +kernel
set_option maxRecDepth 100000 in
theorem xl_46 : xps (xls 46) [] = true := by decide +kernel
set_option maxRecDepth 100000 in
theorem xl_47 : xps (xls 47) [148, 125, 59, 219, 25, 125, 235] = true := by decide +kernel
set_option maxRecDepth 100000 in
theorem xl_48 : xps (xls 48) [452, 266, 125, 379, 219, 25, 125, 459, 125, 383, 314] = true := by decide +kernel
set_option maxRecDepth 100000 in
theorem xl_49 : xps (xls 49) [452, 477, 219, 25, 125, 379, 391, 126, 125, 383, 495, 499, 125, 379] = true := by decide +kernel
set_option maxRecDepth 100000 in
theorem xl_50 : xps (xls 50) [452, 125, 379, 125, 481, 219, 25, 391, 125, 379] = true := by decide +kernel
set_option maxRecDepth 100000 in
theorem xl_51 : xps (xls 51) [513, 274, 26, 148, 125, 515, 125, 420, 405] = true := by decide +kernel
set_option maxRecDepth 100000 in
theorem xl_52 : xps (xls 52) [148, 126, 94, 219, 25, 126, 255] = true := by decide +kernel
set_option maxRecDepth 100000 in
theorem xl_53 : xps (xls 53) [266, 266, 151, 24, 126, 291, 126, 296, 300, 219, 25, 126, 307, 126, 296, 314] = true := by decide +kernel
set_option maxRecDepth 100000 in
theorem xl_54 : xps (xls 54) [266, 126, 291, 219, 25, 126, 331] = true := by decide +kernel
set_option maxRecDepth 100000 in
theorem xl_55 : xps (xls 55) [266, 266, 151, 24, 126, 291, 126, 291, 219, 25, 126, 345] = true := by decide +kernel
set_option maxRecDepth 100000 in
theorem xl_56 : xps (xls 56) [266, 126, 291, 219, 25, 126, 357, 126, 331, 125, 361] = true := by decide +kernel
set_option maxRecDepth 100000 in
theorem xl_57 : xps (xls 57) [266, 126, 291, 126, 370, 219, 25, 126, 357, 303, 375] = true := by decide +kernel
set_option maxRecDepth 100000 in
theorem xl_58 : xps (xls 58) [529, 126, 534, 126, 574, 127, 126, 101, 127, 126, 503, 375, 125, 59, 499, 126, 99] = true := by decide +kernel
set_option maxRecDepth 100000 in
theorem xl_59 : xps (xls 59) [126, 96] = true := by decide +kernel
set_option maxRecDepth 100000 in
theorem xl_60 : xps (xls 60) [126, 96, 274, 26, 126, 657] = true := by decide +kernel
set_option maxRecDepth 100000 in
theorem xl_61 : xps (xls 61) [529, 126, 534, 126, 666] = true := by decide +kernel
set_option maxRecDepth 100000 in
theorem xl_62 : xps (xls 62) [529, 126, 662, 126, 666] = true := by decide +kernel
set_option maxRecDepth 100000 in
theorem xl_63 : xps (xls 63) [529, 126, 662, 126, 534, 126, 101] = true := by decide +kernel
set_option maxRecDepth 100000 in
theorem xl_64 : xps (xls 64) [126, 96, 126, 534, 126, 666, 314, 126, 101, 126, 101] = true := by decide +kernel
set_option maxRecDepth 100000 in
theorem xl_65 : xps (xls 65) [127] = true := by decide +kernel
set_option maxRecDepth 100000 in
theorem xl_66 : xps (xls 66) [125, 59] = true := by decide +kernel
set_option maxRecDepth 100000 in
theorem xl_67 : xps (xls 67) [126, 94] = true := by decide +kernel
set_option maxRecDepth 100000 in
theorem xl_68 : xps (xls 68) [452, 125, 379] = true := by decide +kernel
set_option maxRecDepth 100000 in
theorem xl_69 : xps (xls 69) [632, 125, 420] = true := by decide +kernel
set_option maxRecDepth 100000 in
theorem xl_70 : xps (xls 70) [632, 125, 420, 274, 26, 125, 421] = true := by decide +kernel
set_option maxRecDepth 100000 in
theorem xl_71 : xps (xls 71) [452, 477] = true := by decide +kernel
set_option maxRecDepth 100000 in
theorem xl_72 : xps (xls 72) [452, 125, 383, 126, 503, 314] = true := by decide +kernel
set_option maxRecDepth 100000 in
theorem xl_73 : xps (xls 73) [452, 125, 608] = true := by decide +kernel
set_option maxRecDepth 100000 in
theorem xl_74 : xps (xls 74) [452, 125, 616] = true := by decide +kernel
set_option maxRecDepth 100000 in
theorem xl_75 : xps (xls 75) [266, 126, 291] = true := by decide +kernel
set_option maxRecDepth 100000 in
theorem xl_76 : xps (xls 76) [266, 125, 361] = true := by decide +kernel
set_option maxRecDepth 100000 in
theorem xl_77 : xps (xls 77) [125, 456, 274, 26] = true := by decide +kernel
set_option maxRecDepth 100000 in
theorem xl_78 : xps (xls 78) [126, 270, 274, 26] = true := by decide +kernel
set_option maxRecDepth 100000 in
theorem xl_79 : xps (xls 79) [274, 26] = true := by decide +kernel
set_option maxRecDepth 100000 in
theorem xl_80 : xps (xls 80) [151, 24] = true := by decide +kernel
set_option maxRecDepth 100000 in
theorem xl_81 : xps (xls 81) [148, 126, 96, 219, 25] = true := by decide +kernel
set_option maxRecDepth 100000 in
theorem xl_82 : xps (xls 82) [125, 379, 125, 481, 125, 383, 126, 125, 383, 485] = true := by decide +kernel
set_option maxRecDepth 100000 in
theorem xl_83 : xps (xls 83) [125, 379, 125, 395, 126, 125, 383, 125, 396, 400] = true := by decide +kernel
set_option maxRecDepth 100000 in
theorem xl_84 : xps (xls 84) [125, 409, 125, 125, 420, 421, 125, 429, 391] = true := by decide +kernel
set_option maxRecDepth 100000 in
theorem xl_85 : xps (xls 85) [125, 59, 125, 379, 125, 383, 125, 387, 391, 405] = true := by decide +kernel
set_option maxRecDepth 100000 in
theorem xl_86 : xps (xls 86) [125, 383, 126, 503, 125, 379, 391] = true := by decide +kernel
set_option maxRecDepth 100000 in
theorem xl_87 : xps (xls 87) [] = true := by decide +kernel
set_option maxRecDepth 100000 in
theorem xl_88 : xps (xls 88) [] = true := by decide +kernel
set_option maxRecDepth 100000 in
theorem xl_89 : xps (xls 89) [303] = true := by decide +kernel
set_option maxRecDepth 100000 in
theorem xl_90 : xps (xls 90) [303, 303] = true := by decide +kernel
set_option maxRecDepth 100000 in
theorem xl_91 : xps (xls 91) [317, 318, 318, 319] = true := by decide +kernel
set_option maxRecDepth 100000 in
theorem xl_92 : xps (xls 92) [139, 140] = true := by decide +kernel
set_option maxRecDepth 100000 in
theorem xl_93 : xps (xls 93) [] = true := by decide +kernel
set_option maxRecDepth 100000 in
theorem xl_94 : xps (xls 94) [] = true := by decide +kernel
set_option maxRecDepth 100000 in
theorem xl_95 : xps (xls 95) [442, 436] = true := by decide +kernel
set_option maxRecDepth 100000 in
theorem xl_96 : xps (xls 96) [436, 439] = true := by decide +kernel
set_option maxRecDepth 100000 in
theorem xl_97 : xps (xls 97) [] = true := by decide +kernel
set_option maxRecDepth 100000 in
theorem xl_98 : xps (xls 98) [] = true := by decide +kernel
set_option maxRecDepth 100000 in
theorem xl_99 : xps (xls 99) [467, 467, 442] = true := by decide +kernel
set_option maxRecDepth 100000 in
theorem xl_100 : xps (xls 100) [467] = true := by decide +kernel
set_option maxRecDepth 100000 in
theorem xl_101 : xps (xls 101) [] = true := by decide +kernel
set_option maxRecDepth 100000 in
theorem xl_102 : xps (xls 102) [473, 504, 33, 221] = true := by decide +kernel
set_option maxRecDepth 100000 in
theorem xl_103 : xps (xls 103) [448, 33, 221] = true := by decide +kernel
set_option maxRecDepth 100000 in
theorem xl_104 : xps (xls 104) [262, 32, 153, 33, 221] = true := by decide +kernel
set_option maxRecDepth 100000 in
theorem xl_105 : xps (xls 105) [326, 33, 221] = true := by decide +kernel
set_option maxRecDepth 100000 in
theorem xl_106 : xps (xls 106) [339, 32, 153, 33, 221] = true := by decide +kernel
set_option maxRecDepth 100000 in
theorem xl_107 : xps (xls 107) [352, 366, 33, 221] = true := by decide +kernel
set_option maxRecDepth 100000 in
theorem xl_108 : xps (xls 108) [525, 33, 221] = true := by decide +kernel
set_option maxRecDepth 100000 in
theorem xl_109 : xps (xls 109) [584, 588, 592, 596, 464, 600, 467, 320, 604, 612, 620, 624, 628, 637] = true := by decide +kernel
set_option maxRecDepth 100000 in
theorem xl_110 : xps (xls 110) [644, 648, 652, 578, 658, 670, 673, 578, 670, 320, 677, 670, 673, 681] = true := by decide +kernel
set_option maxRecDepth 100000 in
theorem xl_111 : xps (xls 111) [250, 259, 320, 323, 336, 349, 433, 349] = true := by decide +kernel
set_option maxRecDepth 100000 in
theorem xl_112 : xps (xls 112) [522, 578, 467, 467, 433, 436, 522] = true := by decide +kernel
set_option maxRecDepth 100000 in
theorem xl_113 : xps (xls 113) [144, 247, 445, 320, 464, 436, 467, 436, 470, 442, 436, 470, 442, 439, 509, 519, 247] = true := by decide +kernel
set_option maxRecDepth 100000 in
theorem xl_114 : xps (xls 114) [135, 136, 136, 141, 581, 641, 581, 641] = true := by decide +kernel
set_option maxRecDepth 100000 in
theorem xl_115 : xps (xls 115) [34, 31, 276, 32, 153, 33, 221] = true := by decide +kernel
set_option maxRecDepth 100000 in
theorem xl_116 : xps (xls 116) [28] = true := by decide +kernel
end CK3
