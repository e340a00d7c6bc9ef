/-! the claim -/
section CL
set_option maxRecDepth 100000 in
theorem gl_X2 : GoodIn lw_tbl wsX2_init := goodIn_r _ [54, 55, 56, 57, 58, 59, 40, 138, 94, 95, 41, 139, 140, 60, 61, 62, 63, 93, 64, 65, 66, 67, 68, 69, 70, 71, 73, 97, 98, 99, 100, 101, 102, 103, 104, 105, 106, 108, 110, 111, 113, 74, 76, 78, 80, 82, 84, 86, 88, 90, 141, 143, 145, 115, 117, 119, 121, 123, 125, 127, 129, 131, 133, 135] (by decide +kernel) (by decide +kernel)
set_option maxRecDepth 100000 in
theorem gl_X3 : GoodIn lw_tbl wsX3_init := goodIn_r _ [711, 712, 56, 57, 93, 713, 714, 715, 716, 717, 786, 718, 721, 722, 723, 724, 725, 726, 728, 731, 732, 733, 737, 739, 741, 743, 745, 747, 749, 751, 753, 755, 757, 759, 761, 763, 765, 767, 769, 771, 773, 775, 777, 779, 781, 783] (by decide +kernel) (by decide +kernel)
theorem x_strs : xstr.map (fun q => some (Jvm.Cond.stringRef q.1 q.2.1 q.2.2)) = [286, 322, 363, 375, 380, 418, 452, 461, 494, 506, 516, 529, 541, 542, 554, 572, 592, 604, 648, 656].map (fun i => lw_tbl[i]?) := by decide +kernel
theorem x_str {q : String × Nat × String} (h : q ∈ xstr) : Jvm.Cond.stringRef q.1 q.2.1 q.2.2 ∈ lw_tbl := by
  have h1 : some (Jvm.Cond.stringRef q.1 q.2.1 q.2.2) ∈ xstr.map (fun q => some (Jvm.Cond.stringRef q.1 q.2.1 q.2.2)) := List.mem_map.mpr ⟨q, h, rfl⟩
  rw [x_strs] at h1
  obtain ⟨i, -, h3⟩ := List.mem_map.mp h1
  exact List.mem_of_getElem? h3
def lim0 : Nat → Int32 := upd (upd (upd (fun _ => 0) (1 : Int32).toNatClampNeg 3) (2 : Int32).toNatClampNeg 3) (3 : Int32).toNatClampNeg 3
def f00 : Nat → Int32 := fun _ => 0
def x00 : xX := (f00, fun r => [f00, f00, f00, f00, f00, f00, lim0].getD r f00)
theorem bt_00 (c : Nat) : bt 0 c = false := by
  show ((0 : Int32).toBitVec).getLsbD c = false
  rw [show (0 : Int32).toBitVec = 0#32 from rfl, BitVec.getLsbD_zero]
theorem lim0_at : ∀ j, 1 ≤ j → j ≤ 3 → ∃ l, 1 ≤ l ∧ l ≤ 9 ∧ lim0 j = nI l := fun j h1 h2 => by
  refine ⟨3, by omega, by omega, ?_⟩
  rcases (show j = 1 ∨ j = 2 ∨ j = 3 by omega) with rfl | rfl | rfl <;> decide +kernel
theorem Rel_00 : Rel 0 0 [] 0 x00 x00 := by
  have h0 : (0 : Int32) = nI 0 := nI_0.symm
  refine ⟨⟨⟨⟨h0, by omega, h0, by omega, h0, by decide⟩, (fun i v h => absurd h (by simp)), List.nodup_nil, fun c => ⟨fun h => absurd h List.not_mem_nil, fun h => absurd h.1 (Nat.not_lt_zero _)⟩⟩, ⟨h0, by omega, fun k h => absurd h (Nat.not_lt_zero _), fun j k _ h => absurd h (Nat.not_lt_zero _)⟩, ⟨fun k => ⟨0, by omega, h0⟩, fun k _ => h0, fun k c h => ?_, lim0_at⟩, ⟨fun c d h => ?_, fun c => ⟨0, by omega, h0⟩, fun c _ => h0⟩⟩, ⟨h0, h0, h0, h0, rfl⟩, ⟨rfl, rfl, rfl, rfl, rfl, rfl, rfl⟩, ⟨fun k h => absurd h (Nat.not_lt_zero _), (fun i v h => absurd h (by simp))⟩, ?_, ?_, ?_, ?_⟩
  · have h1 : bt 0 c = true := h
    rw [bt_00] at h1
    cases h1
  · have h1 : bt 0 d = true := h
    rw [bt_00] at h1
    cases h1
  · intro k c _ _
    show (0 : Int32) = bI (bt 0 c)
    rw [bt_00]; exact h0
  · intro c _
    show (0 : Int32) = bI (bt 0 c)
    rw [bt_00]; exact h0
  · intro c d _ _
    show (0 : Int32) = bI (bt 0 d)
    rw [bt_00]; exact h0
  · intro c d _ _
    show (0 : Int32) = bI (bt 0 d)
    rw [bt_00]; exact h0
def ad0 (b q0 q5 q16 qm ql : Nat) (u1 u2 u3 : Nat → Nat) : Nat → Nat := fun i => [q0, q5, u1 0, u1 1, u1 2, u1 3, u1 4, u1 5, u1 6, q16, u2 0, u2 1, u2 2, u2 3, u2 4, qm, u3 0, u3 1, u3 2, u3 3, u3 4, u3 5, u3 6, u3 7, u3 8, u3 9, u3 10, u3 11, u3 12, u3 13, u3 14, u3 15, ql, 0, 0, 0, 0, 0, 0, 0, 0, 0, 0, 0, 0, 0, 0, 0, 0, 0, 0, 0, 0, 0, 0, 0, 0, 0, 0, 0, 0, 0, 0, 0, 0, 0, 0, 0, 0, 0, 0, 0, 0, 0, 0, 0, 0, b].getD i 0
set_option maxHeartbeats 8000000 in
set_option maxRecDepth 100000 in
theorem xw_00 (tg : Nat → ClassId) (b q0 q5 q16 qm ql : Nat) (u1 u2 u3 : Nat → Nat) : xw (ad0 b q0 q5 q16 qm ql u1 u2 u3) tg (wW x00 x00 (fun _ => 0)) = ce_X2 tg q0 q5 q16 u1 u2 ++ ce_X3 tg qm u3 ++ [(ql, .inl (tg 2, 1, .inr (.inl (fun _ => 0))))] := by
  unfold xw wW wC wM ce_X2 ce_X0 ce_X1 ce_X3
  simp only [List.cons_append, List.nil_append, List.mapIdx_cons, List.mapIdx_nil]
  repeat refine congr (congrArg List.cons rfl) ?_
  rfl
end CL
