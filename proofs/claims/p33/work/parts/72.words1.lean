/-! the tables of the methods are right, 1: the words that a row needs, by their places -/
section CK
def bq : List UInt8 → List UInt8 → Bool
  | [], [] => true
  | a :: l, b :: m => Nat.beq a.toNat b.toNat && bq l m
  | _, _ => false
theorem bq_ok : ∀ {l m : List UInt8}, bq l m = true → l = m
  | [], [], _ => rfl
  | [], _ :: _, h => by cases h
  | _ :: _, [], h => by cases h
  | a :: l, b :: m, h => by
    rw [bq, Bool.and_eq_true] at h
    rw [UInt8.toNat_inj.mp (Nat.eq_of_beq_eq_true h.1), bq_ok h.2]
def ceq (a b : Jvm.Cond) : Bool := match a with
  | .code y c n r => (match b with
    | .code y' c' n' r' => decide (y = y' ∧ n = n' ∧ r = r') && bq c.data.toList c'.data.toList
    | _ => false)
  | .codeWith y c n r h => (match b with
    | .codeWith y' c' n' r' h' => decide (y = y' ∧ n = n' ∧ r = r' ∧ h = h') && bq c.data.toList c'.data.toList
    | _ => false)
  | a => decide (a = b)
theorem by_ext {c d : ByteArray} (h : c.data.toList = d.data.toList) : c = d := by
  obtain ⟨⟨c⟩⟩ := c
  obtain ⟨⟨d⟩⟩ := d
  have h1 : c = d := h
  rw [h1]
theorem ceq_ok {a b : Jvm.Cond} (h : ceq a b = true) : a = b := by
  unfold ceq at h
  split at h
  · split at h
    · rw [Bool.and_eq_true] at h
      obtain ⟨⟨rfl, rfl, rfl⟩, h2⟩ := And.intro (of_decide_eq_true h.1) h.2
      rw [by_ext (bq_ok h2)]
    · cases h
  · split at h
    · rw [Bool.and_eq_true] at h
      obtain ⟨⟨rfl, rfl, rfl, rfl⟩, h2⟩ := And.intro (of_decide_eq_true h.1) h.2
      rw [by_ext (bq_ok h2)]
    · cases h
  · exact of_decide_eq_true h
def xpe : List Jvm.Cond → List (Option Jvm.Cond) → Bool
  | [], [] => true
  | w :: ws, some v :: vs => ceq w v && xpe ws vs
  | _, _ => false
theorem xpe_ok : ∀ {ws : List Jvm.Cond} {vs : List (Option Jvm.Cond)}, xpe ws vs = true → ws.map some = vs
  | [], [], _ => rfl
  | [], _ :: _, h => by cases h
  | _ :: _, [], h => by cases h
  | _ :: _, none :: _, h => by cases h
  | w :: ws, some v :: vs, h => by
    rw [xpe, Bool.and_eq_true] at h
    rw [List.map_cons, ceq_ok h.1, xpe_ok h.2]
def xps (ws : List Jvm.Cond) (ps : List Nat) : Bool := xpe ws (ps.map (fun i => lw_tbl[i]?)) && ws.all xmv
theorem xps_ok {ws : List Jvm.Cond} {ps : List Nat} (h : xps ws ps = true) : ∀ w ∈ ws, w ∈ lw_tbl ∧ xmv w = true := by
  unfold xps at h
  rw [Bool.and_eq_true] at h
  have h1 := xpe_ok h.1
  intro w hw
  have h2 : some w ∈ ps.map (fun i => lw_tbl[i]?) := by rw [← h1]; exact List.mem_map.mpr ⟨w, hw, rfl⟩
  obtain ⟨i, hi, h3⟩ := List.mem_map.mp h2
  exact ⟨List.mem_of_getElem? h3, List.all_eq_true.mp h.2 w hw⟩
def xwV (k : Nat) : List Jvm.Cond := [.instanceMethod (m_y k), .selects (m_y k).cls (m_y k) (m_y k), .initialized (m_y k).cls, xcode k]
def xwS (k : Nat) : List Jvm.Cond := [.static (m_y k), .initialized (m_y k).cls, xcode k]
def xLV0 : List Nat := [1, 2, 3, 4, 5, 6, 7, 8, 9, 10, 11, 12]
set_option maxRecDepth 100000 in
theorem xLV0_at : xps (xLV0.flatMap xwV) [244, 245, 19, 246, 236, 237, 19, 238, 240, 241, 19, 242, 380, 381, 19, 382, 417, 418, 19, 419, 422, 423, 19, 424, 427, 5, 19, 428, 482, 483, 19, 484, 410, 411, 19, 412, 516, 517, 19, 518, 460, 461, 19, 462, 384, 385, 19, 386] = true := by decide +kernel
def xLV1 : List Nat := [13, 14, 15, 16, 17, 18, 20, 21, 22, 23, 24, 25]
set_option maxRecDepth 100000 in
theorem xLV1_at : xps (xLV1.flatMap xwV) [397, 398, 19, 399, 362, 363, 19, 364, 388, 389, 19, 390, 609, 610, 19, 611, 430, 431, 19, 432, 617, 618, 19, 619, 271, 272, 20, 273, 256, 257, 20, 258, 555, 556, 20, 557, 292, 293, 20, 294, 358, 359, 20, 360, 490, 491, 20, 492] = true := by decide +kernel
def xLV2 : List Nat := [26, 27, 28, 29, 30, 31, 32, 33, 34, 35, 36, 37]
set_option maxRecDepth 100000 in
theorem xLV2_at : xps (xLV2.flatMap xwV) [297, 298, 20, 299, 308, 309, 20, 310, 371, 372, 20, 373, 332, 333, 20, 334, 346, 347, 20, 348, 486, 487, 20, 488, 551, 552, 20, 553, 496, 497, 20, 498, 401, 402, 20, 403, 575, 576, 20, 577, 535, 536, 20, 537, 663, 664, 20, 665] = true := by decide +kernel
def xLV3 : List Nat := [38, 39, 40, 41, 42, 43, 44, 45, 47, 48, 49, 50]
set_option maxRecDepth 100000 in
theorem xLV3_at : xps (xLV3.flatMap xwV) [667, 668, 20, 669, 540, 10, 20, 541, 544, 11, 20, 545, 572, 16, 20, 573, 560, 13, 20, 561, 568, 15, 20, 569, 564, 14, 20, 565, 548, 12, 20, 549, 145, 146, 18, 147, 449, 450, 18, 451, 474, 475, 18, 476, 505, 506, 18, 507] = true := by decide +kernel
def xLV4 : List Nat := [51, 52, 53, 54, 55, 56, 57, 58, 59, 60, 61, 62]
set_option maxRecDepth 100000 in
theorem xLV4_at : xps (xLV4.flatMap xwV) [510, 511, 18, 512, 251, 252, 18, 253, 263, 264, 18, 265, 327, 328, 18, 329, 340, 341, 18, 342, 353, 354, 18, 355, 367, 368, 18, 369, 526, 527, 18, 528, 645, 646, 18, 647, 653, 654, 18, 655, 678, 679, 18, 680, 659, 660, 18, 661] = true := by decide +kernel
def xLV5 : List Nat := [63, 64, 65, 66, 67, 68, 69, 70, 71, 72, 73, 74]
set_option maxRecDepth 100000 in
theorem xLV5_at : xps (xLV5.flatMap xwV) [674, 675, 18, 676, 682, 683, 18, 684, 649, 650, 18, 651, 585, 586, 18, 587, 589, 590, 18, 591, 593, 594, 18, 595, 638, 639, 18, 640, 629, 630, 18, 631, 597, 598, 18, 599, 601, 602, 18, 603, 605, 606, 18, 607, 613, 614, 18, 615] = true := by decide +kernel
def xLV6 : List Nat := [75, 76, 77, 78, 81, 82, 83, 84, 85, 86]
set_option maxRecDepth 100000 in
theorem xLV6_at : xps (xLV6.flatMap xwV) [621, 622, 18, 623, 625, 626, 18, 627, 454, 6, 18, 455, 268, 1, 18, 269, 531, 9, 18, 532, 479, 7, 18, 480, 393, 3, 18, 394, 407, 4, 18, 408, 377, 2, 18, 378, 501, 8, 18, 502] = true := by decide +kernel
def xLV : List Nat := xLV0 ++ (xLV1 ++ (xLV2 ++ (xLV3 ++ (xLV4 ++ (xLV5 ++ (xLV6))))))
theorem xLV_ok {k : Nat} (h : (xLV.any (Nat.beq k)) = true) : ∀ w ∈ xwV k, w ∈ lw_tbl ∧ xmv w = true := by
  obtain ⟨j, hj, h1⟩ := List.any_eq_true.mp h
  have h2 : k = j := Nat.eq_of_beq_eq_true h1
  subst h2
  intro w hw
  unfold xLV at hj
  simp only [List.mem_append] at hj
  rcases hj with h | h | h | h | h | h | h
  · exact xps_ok xLV0_at w (List.mem_flatMap.mpr ⟨k, h, hw⟩)
  · exact xps_ok xLV1_at w (List.mem_flatMap.mpr ⟨k, h, hw⟩)
  · exact xps_ok xLV2_at w (List.mem_flatMap.mpr ⟨k, h, hw⟩)
  · exact xps_ok xLV3_at w (List.mem_flatMap.mpr ⟨k, h, hw⟩)
  · exact xps_ok xLV4_at w (List.mem_flatMap.mpr ⟨k, h, hw⟩)
  · exact xps_ok xLV5_at w (List.mem_flatMap.mpr ⟨k, h, hw⟩)
  · exact xps_ok xLV6_at w (List.mem_flatMap.mpr ⟨k, h, hw⟩)
def xLS0 : List Nat := [79, 80, 87, 88, 89, 90, 91, 92, 94, 95, 96, 97]
set_option maxRecDepth 100000 in
theorem xLS0_at : xps (xLS0.flatMap xwS) [633, 18, 634, 149, 18, 150, 414, 18, 415, 304, 18, 305, 301, 18, 302, 312, 18, 313, 315, 27, 316, 137, 17, 138, 443, 17, 444, 440, 17, 441, 434, 17, 435, 468, 17, 469] = true := by decide +kernel
def xLS1 : List Nat := [98, 99, 101, 102, 103, 104, 105, 106, 107, 108, 115]
set_option maxRecDepth 100000 in
theorem xLS1_at : xps (xLS1.flatMap xwS) [321, 17, 322, 465, 17, 466, 671, 17, 672, 471, 17, 472, 446, 17, 447, 260, 17, 261, 324, 17, 325, 337, 17, 338, 350, 17, 351, 523, 17, 524, 29, 17, 30] = true := by decide +kernel
def xLS2 : List Nat := [93]
set_option maxRecDepth 100000 in
theorem xLS2_at : xps (xLS2.flatMap xwS) [437, 17, 438] = true := by decide +kernel
def xLS3 : List Nat := [100]
set_option maxRecDepth 100000 in
theorem xLS3_at : xps (xLS3.flatMap xwS) [579, 17, 580] = true := by decide +kernel
def xLS4 : List Nat := [109]
set_option maxRecDepth 100000 in
theorem xLS4_at : xps (xLS4.flatMap xwS) [582, 17, 583] = true := by decide +kernel
def xLS5 : List Nat := [110]
set_option maxRecDepth 100000 in
theorem xLS5_at : xps (xLS5.flatMap xwS) [642, 17, 643] = true := by decide +kernel
def xLS6 : List Nat := [111]
set_option maxRecDepth 100000 in
theorem xLS6_at : xps (xLS6.flatMap xwS) [248, 17, 249] = true := by decide +kernel
def xLS7 : List Nat := [112]
set_option maxRecDepth 100000 in
theorem xLS7_at : xps (xLS7.flatMap xwS) [520, 17, 521] = true := by decide +kernel
def xLS8 : List Nat := [113]
set_option maxRecDepth 100000 in
theorem xLS8_at : xps (xLS8.flatMap xwS) [142, 17, 143] = true := by decide +kernel
def xLS9 : List Nat := [114]
set_option maxRecDepth 100000 in
theorem xLS9_at : xps (xLS9.flatMap xwS) [35, 17, 36] = true := by decide +kernel
def xLS : List Nat := xLS0 ++ (xLS1 ++ (xLS2 ++ (xLS3 ++ (xLS4 ++ (xLS5 ++ (xLS6 ++ (xLS7 ++ (xLS8 ++ (xLS9)))))))))
theorem xLS_ok {k : Nat} (h : (xLS.any (Nat.beq k)) = true) : ∀ w ∈ xwS k, w ∈ lw_tbl ∧ xmv w = true := by
  obtain ⟨j, hj, h1⟩ := List.any_eq_true.mp h
  have h2 : k = j := Nat.eq_of_beq_eq_true h1
  subst h2
  intro w hw
  unfold xLS at hj
  simp only [List.mem_append] at hj
  rcases hj with h | h | h | h | h | h | h | h | h | h
  · exact xps_ok xLS0_at w (List.mem_flatMap.mpr ⟨k, h, hw⟩)
  · exact xps_ok xLS1_at w (List.mem_flatMap.mpr ⟨k, h, hw⟩)
  · exact xps_ok xLS2_at w (List.mem_flatMap.mpr ⟨k, h, hw⟩)
  · exact xps_ok xLS3_at w (List.mem_flatMap.mpr ⟨k, h, hw⟩)
  · exact xps_ok xLS4_at w (List.mem_flatMap.mpr ⟨k, h, hw⟩)
  · exact xps_ok xLS5_at w (List.mem_flatMap.mpr ⟨k, h, hw⟩)
  · exact xps_ok xLS6_at w (List.mem_flatMap.mpr ⟨k, h, hw⟩)
  · exact xps_ok xLS7_at w (List.mem_flatMap.mpr ⟨k, h, hw⟩)
  · exact xps_ok xLS8_at w (List.mem_flatMap.mpr ⟨k, h, hw⟩)
  · exact xps_ok xLS9_at w (List.mem_flatMap.mpr ⟨k, h, hw⟩)
end CK
