/-! the tables of the methods are right, 1: the words that a row needs, by their places -/
section CK
def xps (ws : List Jvm.Cond) (ps : List Nat) : Bool := decide (ws.map some = ps.map (fun i => lw_tbl[i]?)) && ws.all xmv
theorem xps_ok {ws : List Jvm.Cond} {ps : List Nat} (h : xps ws ps = true) : ∀ w ∈ ws, w ∈ lw_tbl ∧ xmv w = true := by
  unfold xps at h
  rw [Bool.and_eq_true] at h
  have h1 := of_decide_eq_true h.1
  intro w hw
  have h2 : some w ∈ ps.map (fun i => lw_tbl[i]?) := by rw [← h1]; exact List.mem_map.mpr ⟨w, hw, rfl⟩
  obtain ⟨i, hi, h3⟩ := List.mem_map.mp h2
  exact ⟨List.mem_of_getElem? h3, List.all_eq_true.mp h.2 w hw⟩
def xwV (k : Nat) : List Jvm.Cond := [.instanceMethod (m_y k), .selects (m_y k).cls (m_y k) (m_y k), .initialized (m_y k).cls, xcode k]
def xwS (k : Nat) : List Jvm.Cond := [.static (m_y k), .initialized (m_y k).cls, xcode k]
def xLV0 : List Nat := [1, 2, 3, 4, 5, 6, 7, 8, 9, 10, 11, 12, 13, 14, 15, 16, 17, 18, 20, 21, 22, 23, 24, 25]
set_option maxRecDepth 100000 in
theorem xLV0_at : xps (xLV0.flatMap xwV) [338, 339, 40, 340, 330, 331, 40, 332, 334, 335, 40, 336, 377, 378, 40, 379, 411, 412, 40, 413, 476, 477, 40, 478, 481, 14, 40, 482, 404, 405, 40, 406, 472, 473, 40, 474, 463, 464, 40, 465, 382, 383, 40, 384, 389, 390, 40, 391, 425, 426, 40, 427, 557, 558, 40, 559, 578, 579, 40, 580, 679, 680, 40, 681, 484, 485, 40, 486, 690, 691, 40, 692, 188, 189, 41, 190, 496, 497, 41, 498, 184, 185, 41, 186, 508, 509, 41, 510, 433, 434, 41, 435, 165, 166, 41, 167] = true := by decide +kernel
def xLV1 : List Nat := [26, 27, 28, 29, 30, 31, 32, 33, 34, 35, 36, 37, 38, 39, 40, 41, 42, 43, 44, 45, 47, 48, 49, 50]
set_option maxRecDepth 100000 in
theorem xLV1_at : xps (xLV1.flatMap xwV) [512, 513, 41, 514, 518, 519, 41, 520, 569, 570, 41, 571, 531, 532, 41, 533, 544, 545, 41, 546, 415, 416, 41, 417, 180, 181, 41, 182, 437, 438, 41, 439, 429, 430, 41, 431, 594, 595, 41, 596, 157, 158, 41, 159, 621, 622, 41, 623, 212, 213, 41, 214, 162, 0, 41, 163, 173, 1, 41, 174, 209, 6, 41, 210, 193, 3, 41, 194, 201, 5, 41, 202, 197, 4, 41, 198, 177, 2, 41, 178, 239, 240, 39, 241, 346, 347, 39, 348, 396, 397, 39, 398, 449, 450, 39, 451] = true := by decide +kernel
def xLV2 : List Nat := [51, 52, 53, 54, 55, 56, 57, 58, 59, 60, 61, 62, 63, 64, 65, 66, 67, 68, 69, 70, 71, 72, 73, 74]
set_option maxRecDepth 100000 in
theorem xLV2_at : xps (xLV2.flatMap xwV) [457, 458, 39, 459, 491, 492, 39, 493, 503, 504, 39, 505, 526, 527, 39, 528, 538, 539, 39, 540, 551, 552, 39, 553, 565, 566, 39, 567, 585, 586, 39, 587, 149, 150, 39, 151, 601, 602, 39, 603, 610, 611, 39, 612, 617, 618, 39, 619, 628, 629, 39, 630, 153, 154, 39, 155, 222, 223, 39, 224, 226, 227, 39, 228, 230, 231, 39, 232, 635, 636, 39, 637, 642, 643, 39, 644, 653, 654, 39, 655, 661, 662, 39, 663, 668, 669, 39, 670, 675, 676, 39, 677, 686, 687, 39, 688] = true := by decide +kernel
def xLV3 : List Nat := [75, 76, 77, 78, 81, 82, 83, 84, 85, 86, 92, 94, 95, 96, 97, 98, 99, 100, 101, 102, 103, 104, 105, 106]
set_option maxRecDepth 100000 in
theorem xLV3_at : xps (xLV3.flatMap xwV) [697, 698, 39, 699, 704, 705, 39, 706, 351, 8, 39, 352, 372, 9, 39, 373, 590, 16, 39, 591, 401, 10, 39, 402, 421, 11, 39, 422, 469, 13, 39, 470, 575, 15, 39, 576, 442, 12, 39, 443, 788, 789, 42, 790, 800, 17, 42, 801, 808, 18, 42, 809, 812, 19, 42, 813, 820, 21, 42, 821, 832, 23, 42, 833, 844, 26, 42, 845, 848, 27, 42, 849, 840, 25, 42, 841, 864, 29, 42, 865, 900, 32, 42, 901, 792, 793, 42, 794, 816, 20, 42, 817, 803, 804, 42, 805] = true := by decide +kernel
def xLV4 : List Nat := [107, 108, 109, 110, 111, 112, 113, 114, 115, 116, 117, 118, 119, 120, 121, 122, 123, 124, 125, 126, 127, 128, 129, 130]
set_option maxRecDepth 100000 in
theorem xLV4_at : xps (xLV4.flatMap xwV) [836, 24, 42, 837, 828, 22, 42, 829, 852, 28, 42, 853, 823, 824, 42, 825, 855, 856, 42, 857, 859, 860, 42, 861, 867, 868, 42, 869, 871, 872, 42, 873, 875, 876, 42, 877, 879, 880, 42, 881, 888, 30, 42, 889, 883, 884, 42, 885, 896, 31, 42, 897, 891, 892, 42, 893, 920, 36, 42, 921, 916, 35, 42, 917, 912, 34, 42, 913, 936, 37, 42, 937, 908, 33, 42, 909, 903, 904, 42, 905, 923, 924, 42, 925, 927, 928, 42, 929, 931, 932, 42, 933, 939, 940, 42, 941] = true := by decide +kernel
def xLV5 : List Nat := [131, 132, 133, 134, 135, 136, 137, 138, 139, 140, 141, 142, 143, 144]
set_option maxRecDepth 100000 in
theorem xLV5_at : xps (xLV5.flatMap xwV) [943, 944, 42, 945, 947, 948, 42, 949, 951, 952, 42, 953, 955, 956, 42, 957, 959, 960, 42, 961, 963, 964, 42, 965, 967, 968, 42, 969, 971, 972, 42, 973, 975, 976, 42, 977, 979, 980, 42, 981, 983, 984, 42, 985, 987, 988, 42, 989, 991, 992, 42, 993, 995, 996, 42, 997] = true := by decide +kernel
def xLV : List Nat := xLV0 ++ (xLV1 ++ (xLV2 ++ (xLV3 ++ (xLV4 ++ (xLV5)))))
theorem xLV_ok {k : Nat} (h : (xLV.any (Nat.beq k)) = true) : ∀ w ∈ xwV k, w ∈ lw_tbl ∧ xmv w = true := by
  obtain ⟨j, hj, h1⟩ := List.any_eq_true.mp h
  have h2 : k = j := Nat.eq_of_beq_eq_true h1
  subst h2
  intro w hw
  unfold xLV at hj
  simp only [List.mem_append] at hj
  rcases hj with h | h | h | h | h | h
  · exact xps_ok xLV0_at w (List.mem_flatMap.mpr ⟨k, h, hw⟩)
  · exact xps_ok xLV1_at w (List.mem_flatMap.mpr ⟨k, h, hw⟩)
  · exact xps_ok xLV2_at w (List.mem_flatMap.mpr ⟨k, h, hw⟩)
  · exact xps_ok xLV3_at w (List.mem_flatMap.mpr ⟨k, h, hw⟩)
  · exact xps_ok xLV4_at w (List.mem_flatMap.mpr ⟨k, h, hw⟩)
  · exact xps_ok xLV5_at w (List.mem_flatMap.mpr ⟨k, h, hw⟩)
def xLS0 : List Nat := [79, 80, 87, 88, 89, 90, 93, 145, 146, 147, 148, 149, 150, 151, 152, 153, 154, 155, 156, 157, 158, 159, 160, 161]
set_option maxRecDepth 100000 in
theorem xLS0_at : xps (xLS0.flatMap xwS) [646, 39, 647, 243, 39, 244, 408, 39, 409, 169, 39, 170, 204, 39, 205, 386, 39, 387, 796, 42, 797, 216, 49, 217, 234, 38, 235, 342, 38, 343, 393, 38, 394, 446, 38, 447, 454, 38, 455, 488, 38, 489, 500, 38, 501, 523, 38, 524, 535, 38, 536, 548, 38, 549, 562, 38, 563, 582, 38, 583, 598, 38, 599, 607, 38, 608, 614, 38, 615, 625, 38, 626] = true := by decide +kernel
def xLS1 : List Nat := [162, 163, 164, 165, 166, 167, 168, 169, 170]
set_option maxRecDepth 100000 in
theorem xLS1_at : xps (xLS1.flatMap xwS) [632, 38, 633, 639, 38, 640, 650, 38, 651, 658, 38, 659, 665, 38, 666, 672, 38, 673, 683, 38, 684, 694, 38, 695, 701, 38, 702] = true := by decide +kernel
def xLS : List Nat := xLS0 ++ (xLS1)
theorem xLS_ok {k : Nat} (h : (xLS.any (Nat.beq k)) = true) : ∀ w ∈ xwS k, w ∈ lw_tbl ∧ xmv w = true := by
  obtain ⟨j, hj, h1⟩ := List.any_eq_true.mp h
  have h2 : k = j := Nat.eq_of_beq_eq_true h1
  subst h2
  intro w hw
  unfold xLS at hj
  simp only [List.mem_append] at hj
  rcases hj with h | h
  · exact xps_ok xLS0_at w (List.mem_flatMap.mpr ⟨k, h, hw⟩)
  · exact xps_ok xLS1_at w (List.mem_flatMap.mpr ⟨k, h, hw⟩)
end CK
