/-! the tables of the methods are right, 1: the words that a row needs, by their places -/
section CK
def xps (ws : List Jvm.Cond) (ps : List Nat) : Bool := decide (ws.map some = ps.map (fun i => lw_tbl[i]?)) && ws.all xmv
theorem xps_ok {ws : List Jvm.Cond} {ps : List Nat} (h : xps ws ps = true) : ∀ w ∈ ws, w ∈ lw_tbl ∧ xmv w = true := by
  unfold xps at h
  rw [Bool.and_eq_true] at h
  have h1 := of_decide_eq_true h.1
  intro w hw
  have h2 : some w ∈ ps.map (fun i => lw_tbl[i]?) := by rw [← h1]; exact List.mem_map.mpr ⟨w, hw, rfl⟩
  obtain ⟨i, hi, h3⟩ := List.mem_map.mp h2
  exact ⟨List.mem_of_getElem? h3, List.all_eq_true.mp h.2 w hw⟩
def xwV (k : Nat) : List Jvm.Cond := [.instanceMethod (m_y k), .selects (m_y k).cls (m_y k) (m_y k), .initialized (m_y k).cls, xcode k]
def xwS (k : Nat) : List Jvm.Cond := [.static (m_y k), .initialized (m_y k).cls, xcode k]
def xLV0 : List Nat := [1, 2, 3, 4, 5, 6, 7, 8, 9, 10, 11, 12, 13, 14, 15, 16, 17, 18, 20, 21, 22, 23, 24, 25]
set_option maxRecDepth 100000 in
theorem xLV0_at : xps (xLV0.flatMap xwV) [244, 245, 19, 246, 236, 237, 19, 238, 240, 241, 19, 242, 380, 381, 19, 382, 417, 418, 19, 419, 422, 423, 19, 424, 427, 5, 19, 428, 482, 483, 19, 484, 410, 411, 19, 412, 516, 517, 19, 518, 460, 461, 19, 462, 384, 385, 19, 386, 397, 398, 19, 399, 362, 363, 19, 364, 388, 389, 19, 390, 609, 610, 19, 611, 430, 431, 19, 432, 617, 618, 19, 619, 271, 272, 20, 273, 256, 257, 20, 258, 555, 556, 20, 557, 292, 293, 20, 294, 358, 359, 20, 360, 490, 491, 20, 492] = true := by decide +kernel
def xLV1 : List Nat := [26, 27, 28, 29, 30, 31, 32, 33, 34, 35, 36, 37, 38, 39, 40, 41, 42, 43, 44, 45, 47, 48, 49, 50]
set_option maxRecDepth 100000 in
theorem xLV1_at : xps (xLV1.flatMap xwV) [297, 298, 20, 299, 308, 309, 20, 310, 371, 372, 20, 373, 332, 333, 20, 334, 346, 347, 20, 348, 486, 487, 20, 488, 551, 552, 20, 553, 496, 497, 20, 498, 401, 402, 20, 403, 575, 576, 20, 577, 535, 536, 20, 537, 663, 664, 20, 665, 667, 668, 20, 669, 540, 10, 20, 541, 544, 11, 20, 545, 572, 16, 20, 573, 560, 13, 20, 561, 568, 15, 20, 569, 564, 14, 20, 565, 548, 12, 20, 549, 145, 146, 18, 147, 449, 450, 18, 451, 474, 475, 18, 476, 505, 506, 18, 507] = true := by decide +kernel
def xLV2 : List Nat := [51, 52, 53, 54, 55, 56, 57, 58, 59, 60, 61, 62, 63, 64, 65, 66, 67, 68, 69, 70, 71, 72, 73, 74]
set_option maxRecDepth 100000 in
theorem xLV2_at : xps (xLV2.flatMap xwV) [510, 511, 18, 512, 251, 252, 18, 253, 263, 264, 18, 265, 327, 328, 18, 329, 340, 341, 18, 342, 353, 354, 18, 355, 367, 368, 18, 369, 526, 527, 18, 528, 645, 646, 18, 647, 653, 654, 18, 655, 678, 679, 18, 680, 659, 660, 18, 661, 674, 675, 18, 676, 682, 683, 18, 684, 649, 650, 18, 651, 585, 586, 18, 587, 589, 590, 18, 591, 593, 594, 18, 595, 638, 639, 18, 640, 629, 630, 18, 631, 597, 598, 18, 599, 601, 602, 18, 603, 605, 606, 18, 607, 613, 614, 18, 615] = true := by decide +kernel
def xLV3 : List Nat := [75, 76, 77, 78, 81, 82, 83, 84, 85, 86]
set_option maxRecDepth 100000 in
theorem xLV3_at : xps (xLV3.flatMap xwV) [621, 622, 18, 623, 625, 626, 18, 627, 454, 6, 18, 455, 268, 1, 18, 269, 531, 9, 18, 532, 479, 7, 18, 480, 393, 3, 18, 394, 407, 4, 18, 408, 377, 2, 18, 378, 501, 8, 18, 502] = true := by decide +kernel
def xLV : List Nat := xLV0 ++ (xLV1 ++ (xLV2 ++ (xLV3)))
theorem xLV_ok {k : Nat} (h : (xLV.any (Nat.beq k)) = true) : ∀ w ∈ xwV k, w ∈ lw_tbl ∧ xmv w = true := by
  obtain ⟨j, hj, h1⟩ := List.any_eq_true.mp h
  have h2 : k = j := Nat.eq_of_beq_eq_true h1
  subst h2
  intro w hw
  unfold xLV at hj
  simp only [List.mem_append] at hj
  rcases hj with h | h | h | h
  · exact xps_ok xLV0_at w (List.mem_flatMap.mpr ⟨k, h, hw⟩)
  · exact xps_ok xLV1_at w (List.mem_flatMap.mpr ⟨k, h, hw⟩)
  · exact xps_ok xLV2_at w (List.mem_flatMap.mpr ⟨k, h, hw⟩)
  · exact xps_ok xLV3_at w (List.mem_flatMap.mpr ⟨k, h, hw⟩)
def xLS0 : List Nat := [79, 80, 87, 88, 89, 90, 91, 92, 93, 94, 95, 96, 97, 98, 99, 100, 101, 102, 103, 104, 105, 106, 107, 108]
set_option maxRecDepth 100000 in
theorem xLS0_at : xps (xLS0.flatMap xwS) [633, 18, 634, 149, 18, 150, 414, 18, 415, 304, 18, 305, 301, 18, 302, 312, 18, 313, 315, 27, 316, 137, 17, 138, 437, 17, 438, 443, 17, 444, 440, 17, 441, 434, 17, 435, 468, 17, 469, 321, 17, 322, 465, 17, 466, 579, 17, 580, 671, 17, 672, 471, 17, 472, 446, 17, 447, 260, 17, 261, 324, 17, 325, 337, 17, 338, 350, 17, 351, 523, 17, 524] = true := by decide +kernel
def xLS1 : List Nat := [109, 110, 111, 112, 113, 114, 115]
set_option maxRecDepth 100000 in
theorem xLS1_at : xps (xLS1.flatMap xwS) [582, 17, 583, 642, 17, 643, 248, 17, 249, 520, 17, 521, 142, 17, 143, 35, 17, 36, 29, 17, 30] = true := by decide +kernel
def xLS : List Nat := xLS0 ++ (xLS1)
theorem xLS_ok {k : Nat} (h : (xLS.any (Nat.beq k)) = true) : ∀ w ∈ xwS k, w ∈ lw_tbl ∧ xmv w = true := by
  obtain ⟨j, hj, h1⟩ := List.any_eq_true.mp h
  have h2 : k = j := Nat.eq_of_beq_eq_true h1
  subst h2
  intro w hw
  unfold xLS at hj
  simp only [List.mem_append] at hj
  rcases hj with h | h
  · exact xps_ok xLS0_at w (List.mem_flatMap.mpr ⟨k, h, hw⟩)
  · exact xps_ok xLS1_at w (List.mem_flatMap.mpr ⟨k, h, hw⟩)
end CK
