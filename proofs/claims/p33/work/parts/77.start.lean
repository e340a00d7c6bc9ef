/-! the start: the class as it is made, the law's five rows -/
section ST
set_option maxRecDepth 100000 in
theorem gl_X2p : (xpe wsX2_init (([41, 42, 43, 44, 45, 46, 19, 125, 81, 82, 20, 126, 127, 47, 48, 49, 50, 80, 51, 52, 53, 54, 55, 56, 57, 58, 60, 84, 85, 86, 87, 88, 89, 90, 91, 92, 93, 95, 97, 98, 100, 61, 63, 65, 67, 69, 71, 73, 75, 77, 128, 130, 132, 102, 104, 106, 108, 110, 112, 114, 116, 118, 120, 122] : List Nat).map (fun i => lw_tbl[i]?)) && wsX2_init.all (fun w => xmv w || decide (w = Jvm.Cond.arrayClass .int))) = true := by decide +kernel
theorem gl_X2q : ∀ w ∈ wsX2_init, w ∈ lw_tbl ∧ (xmv w = true ∨ w = Jvm.Cond.arrayClass .int) := by
  have h := gl_X2p
  rw [Bool.and_eq_true] at h
  have h1 := xpe_ok h.1
  intro w hw
  have h2 : some w ∈ List.map some wsX2_init := List.mem_map.mpr ⟨w, hw, rfl⟩
  rw [h1] at h2
  obtain ⟨i, hi, h3⟩ := List.mem_map.mp h2
  have h4 := List.all_eq_true.mp h.2 w hw
  rw [Bool.or_eq_true, decide_eq_true_eq] at h4
  exact ⟨List.mem_of_getElem? h3, h4⟩
set_option maxRecDepth 100000 in
theorem gl_X2 : GoodIn wsX2_init wsX2_init := goodIn_sub (fun _ h => h) (by decide +kernel)
theorem x_strs : xstr.map (fun q => some (Jvm.Cond.stringRef q.1 q.2.1 q.2.2)) = [192, 228, 254, 283, 290, 306, 330, 343, 344, 356, 374, 457, 458, 494, 508, 514, 533, 635, 636, 656].map (fun i => lw_tbl[i]?) := by decide +kernel
theorem x_str {q : String × Nat × String} (h : q ∈ xstr) : Jvm.Cond.stringRef q.1 q.2.1 q.2.2 ∈ lw_tbl := by
  have h1 : some (Jvm.Cond.stringRef q.1 q.2.1 q.2.2) ∈ xstr.map (fun q => some (Jvm.Cond.stringRef q.1 q.2.1 q.2.2)) := List.mem_map.mpr ⟨q, h, rfl⟩
  rw [x_strs] at h1
  obtain ⟨i, -, h3⟩ := List.mem_map.mp h1
  exact List.mem_of_getElem? h3
def lim0 : Nat → Int32 := upd (upd (upd (fun _ => 0) (1 : Int32).toNatClampNeg 3) (2 : Int32).toNatClampNeg 3) (3 : Int32).toNatClampNeg 3
def f00 : Nat → Int32 := fun _ => 0
def x00 : xX := (f00, fun r => [f00, f00, f00, f00, f00, f00, lim0].getD r f00)
def y00 : lY := fun _ => f00
def y03 : lY := yS (yS (yS y00 4 (xk 4 0).toNatClampNeg (xk 3 0)) 4 (xk 5 0).toNatClampNeg (xk 3 0)) 4 (xk 6 0).toNatClampNeg (xk 3 0)
theorem bt_00 (c : Nat) : bt 0 c = false := by
  show ((0 : Int32).toBitVec).getLsbD c = false
  rw [show (0 : Int32).toBitVec = 0#32 from rfl, BitVec.getLsbD_zero]
theorem lim0_at : ∀ j, 1 ≤ j → j ≤ 3 → ∃ l, 1 ≤ l ∧ l ≤ 9 ∧ lim0 j = nI l := fun j h1 h2 => by
  refine ⟨3, by omega, by omega, ?_⟩
  rcases (show j = 1 ∨ j = 2 ∨ j = 3 by omega) with rfl | rfl | rfl <;> decide +kernel
theorem LR_00 : LR 0 0 [] [] 0 x00 y03 := by
  have h0 : (0 : Int32) = nI 0 := nI_0.symm
  have ya : ∀ b, b ≠ 4 → y03 b = y00 b := fun b hb => by unfold y03; rw [yS_a hb, yS_a hb, yS_a hb]
  have yz : ∀ i, i ≠ 4 → i ≠ 5 → i ≠ 6 → y03 4 i = 0 := fun i h4 h5 h6 => by
    unfold y03
    rw [yS_i (show i ≠ (xk 6 0).toNatClampNeg from h6), yS_i (show i ≠ (xk 5 0).toNatClampNeg from h5), yS_i (show i ≠ (xk 4 0).toNatClampNeg from h4)]
    rfl
  refine ⟨⟨⟨⟨⟨h0, by omega, h0, by omega, h0, by decide⟩, (fun i v h => absurd h (by simp)), List.nodup_nil, fun c => ⟨fun h => absurd h List.not_mem_nil, fun h => absurd h.1 (Nat.not_lt_zero _)⟩⟩, ⟨h0, by omega, fun k h => absurd h (Nat.not_lt_zero _), fun j k _ h => absurd h (Nat.not_lt_zero _)⟩, ⟨fun k => ⟨0, by omega, h0⟩, fun k _ => h0, fun k c h => ?_, lim0_at⟩, ⟨fun c d h => ?_, fun c => ⟨0, by omega, h0⟩, fun c _ => h0⟩⟩, by omega, by omega, fun k => ⟨0, by omega, h0⟩⟩,
    ⟨(yz 0 (by decide) (by decide) (by decide)).trans h0, (yz 1 (by decide) (by decide) (by decide)).trans h0, (yz 2 (by decide) (by decide) (by decide)).trans h0, yz 3 (by decide) (by decide) (by decide), fun j h1 h3 => ?_⟩, fun k _ => ?_, fun c _ => ?_, (fun i v h => absurd h (by simp)), ⟨(fun i v h => absurd h (by simp)), List.nodup_nil, fun k => ⟨fun h => absurd h List.not_mem_nil, fun h => absurd h (Nat.not_lt_zero _)⟩, rfl, List.Pairwise.nil⟩⟩
  · have h1 : bt 0 c = true := h
    rw [bt_00] at h1
    cases h1
  · have h1 : bt 0 d = true := h
    rw [bt_00] at h1
    cases h1
  · rcases (show j = 1 ∨ j = 2 ∨ j = 3 by omega) with rfl | rfl | rfl <;> decide +kernel
  · rw [ya 1 (by decide)]; exact ⟨rfl, rfl, rfl, rfl, rfl⟩
  · rw [ya 2 (by decide)]
    refine ⟨rfl, rfl, ?_, rfl, rfl⟩
    show (0 : Int32) = bI (bt 0 c)
    rw [bt_00]; exact h0
def ad0 (b q0 q5 q16 a0 a1 a2 a3 a4 : Nat) (u1 u2 : Nat → Nat) : Nat → Nat := fun i => [q0, q5, u1 0, u1 1, u1 2, u1 3, u1 4, u1 5, u1 6, q16, u2 0, u2 1, u2 2, u2 3, u2 4, a0, a1, a2, a3, a4, 0, 0, 0, 0, 0, 0, 0, 0, 0, 0, 0, 0, 0, 0, 0, 0, 0, 0, 0, 0, 0, 0, 0, 0, 0, 0, 0, 0, 0, 0, 0, 0, 0, 0, 0, 0, 0, 0, 0, 0, 0, 0, 0, 0, 0, 0, 0, 0, 0, 0, 0, 0, 0, 0, 0, 0, 0, b].getD i 0
theorem ad0_77 (b q0 q5 q16 a0 a1 a2 a3 a4 : Nat) (u1 u2 : Nat → Nat) : ad0 b q0 q5 q16 a0 a1 a2 a3 a4 u1 u2 77 = b := rfl
abbrev eA (tg : Nat → ClassId) (q n : Nat) : va_W := [(q, .inl (tg 0, n, .inl (fun _ => 0)))]
set_option maxHeartbeats 8000000 in
set_option maxRecDepth 100000 in
theorem xw_00 (tg : Nat → ClassId) (b q0 q5 q16 a0 a1 a2 a3 a4 : Nat) (u1 u2 : Nat → Nat) : xw (ad0 b q0 q5 q16 a0 a1 a2 a3 a4 u1 u2) tg (wY x00 y00 []) = ce_X2 tg q0 q5 q16 u1 u2 ++ eA tg a0 10 ++ eA tg a1 50 ++ eA tg a2 60 ++ eA tg a3 12 ++ eA tg a4 7 := by
  unfold xw wY wW wL wC ce_X2 ce_X0 ce_X1
  simp only [List.cons_append, List.nil_append, List.mapIdx_cons, List.mapIdx_nil]
  repeat refine congr (congrArg List.cons rfl) ?_
  rfl
end ST
