/-! the class's public methods, 2 -/
section FB
variable {sc : Option (Nat × (Nat → Int32))} {x : xX} {y : xW} {N C Q : Nat} {q : List Nat} {t : Nat}
set_option maxHeartbeats 4000000 in
theorem c_setBroken_2 (hx : cWF x N C Q) {c b : Int32} (h : inB c (nI C) = false) : xCW sc 20 k_X2_setBroken [.ref 0, .int c, .int b] (wW x y) (xIs (.inr 2) (wW x y)) :=
  xWp.gx rfl rfl trivial rfl (s_reqG_no _ (by rw [hx.2.2.1]; exact h)) (by decide) ⟨rfl, rfl⟩
set_option maxHeartbeats 4000000 in
theorem c_setBroken_1 (hx : cWF x N C Q) {k : Nat} {b : Int32} (hk : k < C) (h : x.2 10 k = nI 2) : xCW sc 20 k_X2_setBroken [.ref 0, .int (nI k), .int b] (wW x y) (xIs (.inr 1) (wW x y)) := by
  refine xWp.gc rfl trivial rfl (s_reqG _ hx hk) (by decide) ?_
  refine xWp.gc rfl trivial rfl (s_stateOf _ hx hk) (by decide) ?_
  refine xWp.gb rfl trivial rfl (fun _ => ?_) (fun h9 => absurd h h9)
  exact xWp.gf rfl trivial rfl (by decide) ⟨rfl, rfl⟩
def cBrk (x : xX) (k : Nat) (b : Bool) : xX := sI x 3 (wth (x.1 3) k b)
set_option maxHeartbeats 4000000 in
theorem c_setBroken (hx : cWF x N C Q) {k : Nat} {b : Int32} (hk : k < C) (h : ¬ x.2 10 k = nI 2) : xCW sc 20 k_X2_setBroken [.ref 0, .int (nI k), .int b] (wW x y) (xIs (.inl (some (.int (bI (bt (x.1 3) k))))) (wW (cBrk x k (decide (¬ b = 0))) y)) := by
  have hC := hx.2.2.2.1
  refine xWp.gc rfl trivial rfl (s_reqG _ hx hk) (by decide) ?_
  refine xWp.gc rfl trivial rfl (s_stateOf _ hx hk) (by decide) ?_
  refine xWp.gb rfl trivial rfl (fun h9 => absurd h9 h) (fun _ => ?_)
  refine xWp.gc rfl trivial rfl (s_replaceBroken _ (c := k) (by omega) b) (by decide) ?_
  exact xWp.gf rfl trivial rfl (Or.inr bI_z) ⟨rfl, rfl⟩
set_option maxHeartbeats 4000000 in
theorem c_setClash_2a (hx : cWF x N C Q) {c d b : Int32} (h : inB c (nI C) = false) : xCW sc 20 k_X2_setClash [.ref 0, .int c, .int d, .int b] (wW x y) (xIs (.inr 2) (wW x y)) :=
  xWp.gx rfl rfl trivial rfl (s_reqG_no _ (by rw [hx.2.2.1]; exact h)) (by decide) ⟨rfl, rfl⟩
set_option maxHeartbeats 4000000 in
theorem c_setClash_2b (hx : cWF x N C Q) {k : Nat} {d b : Int32} (hk : k < C) (h : inB d (nI C) = false) : xCW sc 20 k_X2_setClash [.ref 0, .int (nI k), .int d, .int b] (wW x y) (xIs (.inr 2) (wW x y)) := by
  refine xWp.gc rfl trivial rfl (s_reqG _ hx hk) (by decide) ?_
  exact xWp.gx rfl rfl trivial rfl (s_reqG_no _ (by rw [hx.2.2.1]; exact h)) (by decide) ⟨rfl, rfl⟩
set_option maxHeartbeats 4000000 in
theorem c_setClash_0 (hx : cWF x N C Q) {k : Nat} {b : Int32} (hk : k < C) : xCW sc 20 k_X2_setClash [.ref 0, .int (nI k), .int (nI k), .int b] (wW x y) (xIs (.inr 0) (wW x y)) := by
  refine xWp.gc rfl trivial rfl (s_reqG _ hx hk) (by decide) ?_
  refine xWp.gc rfl trivial rfl (s_reqG _ hx hk) (by decide) ?_
  refine xWp.gb rfl trivial rfl (fun _ => ?_) (fun h => absurd rfl h)
  exact xWp.gf rfl trivial rfl (by decide) ⟨rfl, rfl⟩
set_option maxHeartbeats 4000000 in
theorem c_setClash_1 (hx : cWF x N C Q) {k d : Nat} {b : Int32} (hk : k < C) (hd : d < C) (hkd : k ≠ d) (h1 : x.2 10 k = nI 2) (h2 : x.2 10 d = nI 2) : xCW sc 20 k_X2_setClash [.ref 0, .int (nI k), .int (nI d), .int b] (wW x y) (xIs (.inr 1) (wW x y)) := by
  have hC := hx.2.2.2.1
  refine xWp.gc rfl trivial rfl (s_reqG _ hx hk) (by decide) ?_
  refine xWp.gc rfl trivial rfl (s_reqG _ hx hd) (by decide) ?_
  refine xWp.gb rfl trivial rfl (fun h => absurd ((eq_nI (by omega) (by omega)).mp h) hkd) (fun _ => ?_)
  refine xWp.gc rfl trivial rfl (s_stateOf _ hx hk) (by decide) ?_
  refine xWp.gb rfl trivial rfl (fun _ => ?_) (fun h9 => absurd h1 h9)
  refine xWp.gc rfl trivial rfl (s_stateOf _ hx hd) (by decide) ?_
  refine xWp.gb rfl trivial rfl (fun _ => ?_) (fun h9 => absurd h2 h9)
  exact xWp.gf rfl trivial rfl (by decide) ⟨rfl, rfl⟩
set_option maxHeartbeats 4000000 in
theorem c_setClash (hx : cWF x N C Q) {k d : Nat} {b : Int32} (hk : k < C) (hd : d < C) (hkd : k ≠ d) (h12 : ¬ (x.2 10 k = nI 2 ∧ x.2 10 d = nI 2)) : xCW sc 20 k_X2_setClash [.ref 0, .int (nI k), .int (nI d), .int b] (wW x y) (xIs (.inl (some (.int (bI (bt (x.2 9 k) d))))) (wW (cClash x k d (decide (¬ b = 0))) y)) := by
  have hC := hx.2.2.2.1
  have k59 : ∀ u, u ≤ 2 → xAt sc k_X2_setClash 19 (xIs (.inl (some (.int (bI (bt (x.2 9 k) d))))) (wW (cClash x k d (decide (¬ b = 0))) y)) (59, [some (.ref 0), some (.int (nI k)), some (.int (nI d)), some (.int b)], [], wW x y, u) := fun u hu => by
    refine xWp.gc rfl trivial rfl (s_replaceClash _ hx hk hd b) (by show u + 0 ≤ 3; omega) ?_
    exact xWp.gf rfl trivial rfl (Or.inr bI_z) ⟨rfl, rfl⟩
  refine xWp.gc rfl trivial rfl (s_reqG _ hx hk) (by decide) ?_
  refine xWp.gc rfl trivial rfl (s_reqG _ hx hd) (by decide) ?_
  refine xWp.gb rfl trivial rfl (fun h => absurd ((eq_nI (by omega) (by omega)).mp h) hkd) (fun _ => ?_)
  refine xWp.gc rfl trivial rfl (s_stateOf _ hx hk) (by decide) ?_
  refine xWp.gb rfl trivial rfl (fun h1 => ?_) (fun _ => k59 _ (by decide))
  refine xWp.gc rfl trivial rfl (s_stateOf _ hx hd) (by decide) ?_
  exact xWp.gb rfl trivial rfl (fun h2 => absurd ⟨h1, h2⟩ h12) (fun _ => k59 _ (by decide))
set_option maxHeartbeats 4000000 in
theorem c_mend_2 (hx : cWF x N C Q) {c : Int32} (h : inB c (nI C) = false) : xCW sc 20 k_X2_mend [.ref 0, .int c] (wW x y) (xIs (.inr 2) (wW x y)) :=
  xWp.gx rfl rfl trivial rfl (s_reqG_no _ (by rw [hx.2.2.1]; exact h)) (by decide) ⟨rfl, rfl⟩
set_option maxHeartbeats 4000000 in
theorem c_mend_1 (hx : cWF x N C Q) {k : Nat} (hk : k < C) (h : ¬ x.2 10 k = nI 3) : xCW sc 20 k_X2_mend [.ref 0, .int (nI k)] (wW x y) (xIs (.inr 1) (wW x y)) := by
  refine xWp.gc rfl trivial rfl (s_reqG _ hx hk) (by decide) ?_
  refine xWp.gc rfl trivial rfl (s_stateOf _ hx hk) (by decide) ?_
  refine xWp.gb rfl trivial rfl (fun h9 => absurd h9 h) (fun _ => ?_)
  exact xWp.gf rfl trivial rfl (by decide) ⟨rfl, rfl⟩
def cMend (x : xX) (k : Nat) : xX := sI (sA x 10 k (nI 0)) 3 (wth (x.1 3) k false)
set_option maxHeartbeats 4000000 in
theorem c_mend (hx : cWF x N C Q) {k : Nat} (hk : k < C) (h : x.2 10 k = nI 3) : xCW sc 20 k_X2_mend [.ref 0, .int (nI k)] (wW x y) (xIs (.inl (some (.int (nI (cCN x N k))))) (wW (cMend x k) y)) := by
  have hC := hx.2.2.2.1
  refine xWp.gc rfl trivial rfl (s_reqG _ hx hk) (by decide) ?_
  refine xWp.gc rfl trivial rfl (s_stateOf _ hx hk) (by decide) ?_
  refine xWp.gb rfl trivial rfl (fun _ => ?_) (fun h9 => absurd h h9)
  refine xWp.gc rfl trivial rfl (s_setState _ hx hk (nI 0)) (by decide) ?_
  refine xWp.gc rfl trivial rfl (s_replaceBroken (x := sA x 10 k (nI 0)) _ (c := k) (by omega) (nI 0)) (by decide) ?_
  have hx1 : cWF (sI (sA x 10 k (nI 0)) 3 (wth ((sA x 10 k (nI 0)).1 3) k (decide (¬ nI 0 = 0)))) N C Q := hx
  refine xWp.gc rfl trivial rfl (s_countNaming _ hx1 (c := k) (by omega)) (by decide) ?_
  exact xWp.gf rfl trivial rfl (Or.inl rfl) ⟨rfl, rfl⟩
theorem iState (h : cInv N C q t x) {c s : Nat} (hc : c < C) (h1 : ¬ x.2 10 c = nI 1) (hs : s ≤ 3) (hs1 : s ≠ 1) : cInv N C q t (sA x 10 c (nI s)) := by
  obtain ⟨⟨w, g2, g3, g4⟩, a, b, ⟨c1, c2, c3⟩⟩ := h
  refine ⟨⟨w, g2, g3, fun d => ?_⟩, a, b, c1, fun d => ?_, fun d hd => ?_⟩
  · show d ∈ q ↔ d < C ∧ upd (x.2 10) c (nI s) d = nI 1
    by_cases e : d = c
    · subst e
      rw [pk_us, g4, eq_nI (by omega) (by omega)]
      simp [h1, hs1]
    · rw [pk_un e]; exact g4 d
  · show ∃ s', s' ≤ 3 ∧ upd (x.2 10) c (nI s) d = nI s'
    by_cases e : d = c
    · subst e; exact ⟨s, hs, pk_us⟩
    · rw [pk_un e]; exact c2 d
  · show upd (x.2 10) c (nI s) d = nI 0
    rw [pk_un (by omega)]; exact c3 d hd
set_option maxHeartbeats 4000000 in
theorem c_takeOut_2 (hx : cWF x N C Q) {c : Int32} (h : inB c (nI C) = false) : xCW sc 20 k_X2_takeOut [.ref 0, .int c] (wW x y) (xIs (.inr 2) (wW x y)) :=
  xWp.gx rfl rfl trivial rfl (s_reqG_no _ (by rw [hx.2.2.1]; exact h)) (by decide) ⟨rfl, rfl⟩
set_option maxHeartbeats 4000000 in
theorem c_takeOut_1 (hx : cWF x N C Q) {k : Nat} (hk : k < C) (h : ¬ x.2 10 k = nI 2 ∨ cNeeded x C k = true) : xCW sc 20 k_X2_takeOut [.ref 0, .int (nI k)] (wW x y) (xIs (.inr 1) (wW x y)) := by
  have hC := hx.2.2.2.1
  refine xWp.gc rfl trivial rfl (s_reqG _ hx hk) (by decide) ?_
  refine xWp.gc rfl trivial rfl (s_stateOf _ hx hk) (by decide) ?_
  refine xWp.gb rfl trivial rfl (fun h2 => ?_) (fun _ => ?_)
  · refine xWp.gc rfl trivial rfl (s_isNeededByOneIn _ hx (c := k) (by omega)) (by decide) ?_
    rw [h.elim (fun z => absurd h2 z) id]
    refine xWp.gb rfl trivial rfl (fun h => absurd h (by decide)) (fun _ => ?_)
    exact xWp.gf rfl trivial rfl (by decide) ⟨rfl, rfl⟩
  · exact xWp.gf rfl trivial rfl (by decide) ⟨rfl, rfl⟩
set_option maxHeartbeats 8000000 in
theorem c_takeOut (hi : cInv N C q t x) {k : Nat} (hk : k < C) (h2 : x.2 10 k = nI 2) (hn : cNeeded x C k = false) (ht : t + 2 * N ≤ 1000000) : xCW sc 20 k_X2_takeOut [.ref 0, .int (nI k)] (wW x y) (xIs (.inl (some (.int (nI (cDrop N (bitI k) true (sA x 10 k (nI 0)) N).2)))) (wW (cDrop N (bitI k) true (sA x 10 k (nI 0)) N).1 y)) := by
  have hx := hi.wf
  have hC := hi.c
  have h1 : cInv N C q t (sA x 10 k (nI 0)) := iState hi hk (by rw [h2]; decide) (by omega) (by omega)
  refine xWp.gc rfl trivial rfl (s_reqG _ hx hk) (by decide) ?_
  refine xWp.gc rfl trivial rfl (s_stateOf _ hx hk) (by decide) ?_
  refine xWp.gb rfl trivial rfl (fun _ => ?_) (fun h9 => absurd h2 h9)
  refine xWp.gc rfl trivial rfl (s_isNeededByOneIn _ hx (c := k) (by omega)) (by decide) ?_
  rw [hn]
  refine xWp.gb rfl trivial rfl (fun _ => ?_) (fun h => absurd (by decide) h)
  refine xWp.gc rfl trivial rfl (s_setState _ hx hk (nI 0)) (by decide) ?_
  refine xWp.gc rfl trivial rfl (s_bit _ _ k) (by decide) ?_
  refine xWp.gc rfl trivial rfl (s_dropCards _ h1 (bitI k) true ht) (by decide) ?_
  exact xWp.gf rfl trivial rfl (Or.inl rfl) ⟨rfl, rfl⟩

set_option maxHeartbeats 4000000 in
theorem c_merge_0 {v : Int32} (h : v < nI 1 ∨ ¬ v ≤ nI 8) : xCW sc 20 k_X2_merge [.ref 0, .int v] (wW x y) (xIs (.inr 0) (wW x y)) :=
  xWp.gx rfl rfl trivial rfl (s_reqR_no0 _ h) (by decide) ⟨rfl, rfl⟩
set_option maxHeartbeats 4000000 in
theorem c_merge_1 {v : Int32} (h1 : ¬ v < nI 1) (h8 : v ≤ nI 8) (h : ¬ v ≤ x.1 5) : xCW sc 20 k_X2_merge [.ref 0, .int v] (wW x y) (xIs (.inr 1) (wW x y)) :=
  xWp.gx rfl rfl trivial rfl (s_reqR_no1 _ h1 h8 h) (by decide) ⟨rfl, rfl⟩
def cMg0 (x : xX) (C Q l : Nat) : xX := sI (cStl (cTr x (cFR x C l)) l Q) 0 ((cStl (cTr x (cFR x C l)) l Q).1 0 + (cStl (cTr x (cFR x C l)) l Q).1 8)
def cMg1 (x : xX) (N C Q l : Nat) : xX := (cDrop N (cAll (cMg0 x C Q l) C (nI 3)) false (cMg0 x C Q l) N).1
def cMg (x : xX) (N C Q l : Nat) : xX := cOns (cMg1 x N C Q l) C N
theorem iMg0 (hi : cInv N C q t x) {l : Nat} (hl : l ≤ q.length) : cInv N C (q.drop l) t (cMg0 x C q.length l) := by
  have h1 : cInv N C q t (cTr x (cFR x C l)) := hi
  have h2 := iStl h1 hl
  exact h2
set_option maxHeartbeats 8000000 in
theorem c_merge (hi : cInv N C q t x) {l : Nat} (h1 : 1 ≤ l) (h8 : l ≤ 8) (hl : l ≤ q.length) (ht : t + 3 * N ≤ 1000000) : xCW sc 20 k_X2_merge [.ref 0, .int (nI l)] (wW x y) (xIs (.inl (some (.int ((cMg x N C q.length l).1 7)))) (wW (cMg x N C q.length l) y)) := by
  have hx := hi.wf
  have hN := hi.n
  have hq30 := hi.q30
  have hr : cInv N C q t (cTr x (cFR x C l)) := hi
  have h2 := iMg0 hi hl
  obtain ⟨q3, t3, ht3, h3, -⟩ := iDrop h2 (cAll (cMg0 x C q.length l) C (nI 3)) false (by omega) N (Nat.le_refl _)
  refine xWp.gc rfl trivial rfl (s_reqR _ (fun z => by rw [lt_nI (by omega) (by omega)] at z; omega) ((le_nI (by omega) (by omega)).mpr h8) (by rw [hx.2.2.2.2.1]; exact (le_nI (by omega) (by omega)).mpr hl)) (by decide) ?_
  refine xWp.gc rfl trivial rfl (s_foreseeRow _ hx hi.qf h1 h8 hl) (by decide) ?_
  refine xWp.gc rfl trivial rfl (s_settle _ hr.wf hr.qf hl) (by decide) ?_
  refine xWp.gc rfl trivial rfl (s_allOf (x := cMg0 x C q.length l) _ h2.wf (nI 3)) (by decide) ?_
  refine xWp.gc rfl trivial rfl (s_dropCards (x := cMg0 x C q.length l) _ h2 (cAll (cMg0 x C q.length l) C (nI 3)) false (by omega)) (by decide) ?_
  refine xWp.go 53 rfl trivial ?_
  refine xWp.loop N (fun j => (53, [some (.ref 0), some (.int (nI l)), some (.int (nI j))], [], wW (cOns (cMg1 x N C q.length l) C j) y, 2)) (fun j hj ih => ?_) ?_
  · obtain ⟨t4, h4, h5⟩ := iOns h3 (by omega) j (by omega)
    refine xWp.gb rfl trivial rfl (fun h9 => ?_) (fun _ => ?_)
    · have h9' : (cOns (cMg1 x N C q.length l) C j).1 1 ≤ nI j := h9
      rw [show (cOns (cMg1 x N C q.length l) C j).1 1 = nI N from h5.wf.1, le_nI (by omega) (by omega)] at h9'
      omega
    refine xWp.gc rfl trivial rfl (s_passOn _ h5.wf h5.qf hj) (by decide) ?_
    refine xWp.go 53 rfl trivial ?_
    rw [nI_s j] at ih
    exact ih
  · obtain ⟨t4, h4, h5⟩ := iOns h3 (by omega) N (by omega)
    refine xWp.gb rfl trivial rfl (fun _ => ?_) (fun h9 => ?_)
    · exact xWp.gf rfl trivial rfl (Or.inl rfl) ⟨rfl, rfl⟩
    · have h9' : ¬ (cOns (cMg1 x N C q.length l) C N).1 1 ≤ nI N := h9
      rw [show (cOns (cMg1 x N C q.length l) C N).1 1 = nI N from h5.wf.1, le_nI (by omega) (by omega)] at h9'
      omega
end FB
