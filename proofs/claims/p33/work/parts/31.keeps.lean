/-! what queueing, settling and passing on do to what always holds; numbers that stay -/
section KP
variable {sc : Option (Nat × (Nat → Int32))} {x z : xX} {y : xW} {N C : Nat} {q : List Nat} {t : Nat}
theorem iEq1 (h : cInv N C q t z) {c : Nat} (hc : c < C) (hs : z.2 10 c = nI 0) : cInv N C (q ++ [c]) t (cEq1 z c) ∧ q.length < 30 := by
  have hC := h.c
  have hnd : (q ++ [c]).Nodup := by
    rw [List.nodup_append]
    refine ⟨h.1.2.2.1, by simp, fun a ha b hb e => ?_⟩
    have hb' : b = c := by simpa using hb
    rw [e, hb'] at ha
    have := ((h.1.2.2.2 c).mp ha).2
    rw [hs] at this
    exact absurd this (by decide)
  have hlt : ∀ d, d ∈ q ++ [c] → d < C := fun d hd => by
    rw [List.mem_append] at hd
    rcases hd with hd | hd
    · exact h.lt hd
    · have : d = c := by simpa using hd
      omega
  have hlen := nd_len hnd hlt
  rw [List.length_append] at hlen
  have hlen1 : ([c] : List Nat).length = 1 := rfl
  refine ⟨?_, by omega⟩
  obtain ⟨⟨⟨w1, w2, w3, w4, w5, w6⟩, g2, g3, g4⟩, a, ⟨b1, b2, b3, b4⟩, ⟨c1, c2, c3⟩⟩ := h
  have eq0 : (z.1 5).toNatClampNeg = q.length := by rw [w5]; exact cl_nI (by omega)
  refine ⟨⟨⟨w1, w2, w3, w4, ?_, ?_⟩, fun i v hv => ?_, hnd, fun d => ?_⟩, a, ⟨b1, b2, b3, b4⟩, c1, fun d => ?_, fun d hd => ?_⟩
  · show z.1 5 + nI 1 = nI (q ++ [c]).length
    rw [w5, nI_add, List.length_append]
    rfl
  · rw [List.length_append]; omega
  · show upd (z.2 11) (z.1 5).toNatClampNeg (nI c) i = nI v
    rw [eq0]
    rcases Nat.lt_or_ge i q.length with hi | hi
    · rw [List.getElem?_append_left hi] at hv
      rw [pk_un (by omega)]
      exact g2 i v hv
    · rw [List.getElem?_append_right hi] at hv
      by_cases e : i = q.length
      · subst e
        simp at hv
        rw [pk_us, hv]
      · rw [List.getElem?_eq_none (by simp; omega)] at hv
        cases hv
  · show d ∈ q ++ [c] ↔ d < C ∧ upd (z.2 10) c (nI 1) d = nI 1
    by_cases e : d = c
    · subst e; rw [pk_us]; simp [hc]
    · rw [pk_un e]
      simp [e]
      exact g4 d
  · show ∃ s, s ≤ 3 ∧ upd (z.2 10) c (nI 1) d = nI s
    by_cases e : d = c
    · subst e; exact ⟨1, by omega, pk_us⟩
    · rw [pk_un e]; exact c2 d
  · show upd (z.2 10) c (nI 1) d = nI 0
    rw [pk_un (by omega)]
    exact c3 d hd
theorem iEnq (h : cInv N C q t x) (m : Int32) : ∀ j, j ≤ C → ∃ q', cInv N C q' t (cEnq x m j)
  | 0, _ => ⟨q, h⟩
  | j + 1, hj => by
    obtain ⟨q', h1⟩ := iEnq h m j (by omega)
    rw [cEnq]
    split
    · rename_i hc
      simp only [Bool.and_eq_true, decide_eq_true_eq] at hc
      exact ⟨_, (iEq1 h1 (by omega) hc.1.2).1⟩
    · exact ⟨q', h1⟩
theorem iOn (h : cInv N C q t x) {k : Nat} (hk : k < N) (ht : t < 1000000) : ∃ t', t' ≤ t + 1 ∧ cInv N C q t' (cOn x C k) := by
  unfold cOn
  split
  · exact ⟨t + 1, by omega, iPut h hk (by omega) ht⟩
  · exact ⟨t, by omega, h⟩
def cOns (x : xX) (C : Nat) : Nat → xX
  | 0 => x
  | k + 1 => cOn (cOns x C k) C k
theorem iOns (h : cInv N C q t x) (ht : t + N ≤ 1000000) : ∀ k, k ≤ N → ∃ t', t' ≤ t + k ∧ cInv N C q t' (cOns x C k)
  | 0, _ => ⟨t, by omega, h⟩
  | k + 1, hk => by
    obtain ⟨t', h1, h2⟩ := iOns h ht k (by omega)
    obtain ⟨t2, h3, h4⟩ := iOn h2 (k := k) (by omega) (by omega)
    exact ⟨t2, by omega, h4⟩
theorem nd_take (h : q.Nodup) {i l : Nat} (hi : i < q.length) : q[i] ∈ q.take l ↔ i < l := by
  rw [List.mem_take_iff_getElem]
  constructor
  · rintro ⟨j, hj, e⟩
    have := (List.getElem_inj h).mp e
    omega
  · intro hl
    exact ⟨i, by omega, rfl⟩
theorem nd_drop (h : q.Nodup) (l : Nat) : q.filter (fun c => !decide (c ∈ q.take l)) = q.drop l := by
  have e := List.take_append_drop l q
  have hnd : (q.take l ++ q.drop l).Nodup := by rw [e]; exact h
  rw [List.nodup_append] at hnd
  conv => lhs; arg 2; rw [← e]
  rw [List.filter_append]
  have h1 : (q.take l).filter (fun c => !decide (c ∈ q.take l)) = [] := by
    rw [List.filter_eq_nil_iff]
    intro a ha
    simp [ha]
  have h2 : (q.drop l).filter (fun c => !decide (c ∈ q.take l)) = q.drop l := by
    rw [List.filter_eq_self]
    intro a ha
    have : a ∉ q.take l := fun z => hnd.2.2 a z a ha rfl
    simp [this]
  rw [h1, h2]
  rfl
theorem cStl_fl (h : cInv N C q t x) {l : Nat} (hl : l ≤ q.length) :
    (cStl x l q.length).1 = upd x.1 5 (nI (q.drop l).length) ∧ (∀ i u, (q.drop l)[i]? = some u → (cStl x l q.length).2 11 i = nI u) ∧ (∀ c, (cStl x l q.length).2 10 c = if c ∈ q.take l then (if bt (x.1 6) c then nI 2 else nI 3) else x.2 10 c) ∧ (∀ r, r ≠ 10 → r ≠ 11 → (cStl x l q.length).2 r = x.2 r) := by
  have hnd := h.1.2.2.1
  obtain ⟨h1, h2, h3, h4, h5⟩ := cGo_fl h.cqv (fun c => decide (c ∈ q.take l)) (fun c => if bt (x.1 6) c then nI 2 else nI 3) (d := fun p => if p < l then some (if bt (x.1 6) (cq x p) then nI 2 else nI 3) else none) (fun i hi => by
    have e := h.cqv i _ (List.getElem?_eq_getElem hi)
    rw [e]
    have := nd_take hnd (l := l) hi
    by_cases hil : i < l
    · simp [hil, this.mpr hil]
    · have hn : ¬ q[i] ∈ q.take l := fun z => hil (this.mp z)
      simp only [hil, hn, decide_false, if_false]
      rfl) q.length (Nat.le_refl _)
  rw [List.take_length] at h1 h2 h3
  rw [nd_drop hnd] at h1 h2
  unfold cStl
  generalize cGo x (fun p => if p < l then some (if bt (x.1 6) (cq x p) then nI 2 else nI 3) else none) q.length = z at h1 h2 h3 h4 h5 ⊢
  refine ⟨?_, h2, fun c => ?_, h4⟩
  · show upd z.2.1 5 (nI z.1) = _
    rw [h5, h1]
  · show z.2.2 10 c = _
    rw [h3]
    by_cases hc : c ∈ q.take l
    · simp [hc, List.mem_of_mem_take hc]
    · simp [hc]
theorem iStl (h : cInv N C q t x) {l : Nat} (hl : l ≤ q.length) : cInv N C (q.drop l) t (cStl x l q.length) := by
  obtain ⟨u1, u2, u3, u4⟩ := cStl_fl h hl
  have h30 := h.q30
  obtain ⟨⟨w, g2, g3, g4⟩, ⟨a1, a2, a3, a4⟩, ⟨b1, b2, b3, b4⟩, ⟨c1, c2, c3⟩⟩ := h
  generalize cStl x l q.length = z at u1 u2 u3 u4
  have r1 := u4 1 (by decide) (by decide)
  have r2 := u4 2 (by decide) (by decide)
  have r3 := u4 3 (by decide) (by decide)
  have r6 := u4 6 (by decide) (by decide)
  have r8 := u4 8 (by decide) (by decide)
  obtain ⟨w1, w2, w3, w4, w5, w6⟩ := w
  have e := List.take_append_drop l q
  have hnd : (q.take l ++ q.drop l).Nodup := by rw [e]; exact g3
  rw [List.nodup_append] at hnd
  have hin : ∀ c, c ∈ q ↔ c ∈ q.take l ∨ c ∈ q.drop l := fun c => by
    conv => lhs; rw [← e]
    exact List.mem_append
  refine ⟨⟨⟨?_, w2, ?_, w4, ?_, ?_⟩, u2, hnd.2.1, fun c => ?_⟩, ⟨?_, a2, ?_, ?_⟩, ⟨?_, ?_, ?_, ?_⟩, ?_, fun c => ?_, fun c hc => ?_⟩
  · rw [u1]; exact w1
  · rw [u1]; exact w3
  · rw [u1]; rfl
  · rw [List.length_drop]; omega
  · rw [u3]
    by_cases hm : c ∈ q.take l
    · have h9 : c ∉ q.drop l := fun z => hnd.2.2 c hm c z rfl
      rw [if_pos hm]
      constructor
      · exact fun z => absurd z h9
      · rintro ⟨-, z⟩
        split at z
        · exact absurd z (by decide)
        · exact absurd z (by decide)
    · rw [if_neg hm, ← g4, hin]
      simp [hm]
  · rw [u1]; exact a1
  · rw [r2]; exact a3
  · rw [r2]; exact a4
  · rw [r1]; exact b1
  · rw [r1]; exact b2
  · rw [r3]; exact b3
  · rw [r6]; exact b4
  · rw [r8]; exact c1
  · rw [u3]
    split
    · split
      · exact ⟨2, by omega, rfl⟩
      · exact ⟨3, by omega, rfl⟩
    · exact c2 c
  · rw [u3, if_neg (fun z => by have := (g4 c).mp (List.mem_of_mem_take z); omega)]
    exact c3 c hc
/-- numbers of the class that moving cards leaves alone -/
def kp (x z : xX) : Prop := ∀ i, i ≠ 2 → i ≠ 5 → z.1 i = x.1 i
theorem kp.rf : kp x x := fun _ _ _ => rfl
theorem kp.tr {a b c : xX} (h : kp a b) (h2 : kp b c) : kp a c := fun i h8 h9 => by rw [h2 i h8 h9, h i h8 h9]
theorem kp_put {k : Nat} {col : Int32} : kp x (cPut x k col) := fun i h _ => by
  show upd x.1 2 _ i = x.1 i
  exact pk_un h
theorem kp_shift (h : cInv N C q t x) {k j : Nat} (hk : k < N) (hj : j ≤ 4) (ht : t < 1000000) : kp x (cShift x N k (nI j)) := by
  have hp := iPut h hk hj ht
  unfold cShift
  rw [cQn_of h.wf]
  split
  · intro i h8 h9
    rw [(cUnq_fl hp _).1, pk_un h9]
    exact kp_put i h8 h9
  · exact kp_put
theorem kp_psh1 (h : cInv N C q t x) {a : Nat} (ha : a ≤ 4) (hs : 0 < cSz x N (nI (a + 1))) (ht : t < 1000000) : kp x (cPsh1 N a x) := by
  obtain ⟨h1, -⟩ := h.low hs
  have h' : cInv N C q t (sA x 5 (cLow x N (nI (a + 1))) (x.2 5 (cLow x N (nI (a + 1))) + nI 1)) := h
  have := kp_shift h' h1 ha ht
  exact this
theorem kp_push : ∀ (a : Nat) {x : xX} {q : List Nat} {t : Nat}, cInv N C q t x → a ≤ 4 → t + a ≤ 1000000 → kp x (cPush N a x)
  | 0, x, q, t, h, _, _ => kp.rf
  | a + 1, x, q, t, h, ha, ht => by
    rw [cPush]
    split
    · rename_i hb
      obtain ⟨h1, l, hl⟩ := cAb_sz h (by omega) hb
      obtain ⟨q', h2⟩ := iPsh1 (a := a) h (by omega) (by omega) (by omega)
      exact (kp_psh1 h (by omega) (by omega) (by omega)).tr (kp_push a h2 (by omega) (by omega))
    · exact kp.rf
theorem kp_fall (h : cInv N C q t x) {k : Nat} (hk : k < N) (ht : t + 2 ≤ 1000000) : kp x (cFall N k x) := by
  have h' : cInv N C q t (sA x 4 k (x.2 4 k + nI 1)) := h
  obtain ⟨q1, h1⟩ := iShift h' hk (j := 1) (by omega) (by omega)
  have e1 := kp_shift h' hk (j := 1) (by omega) (by omega)
  have e2 : kp x (cShift (sA x 4 k (x.2 4 k + nI 1)) N k (nI 1)) := e1
  exact e2.tr (kp_push 1 h1 (by omega) (by omega))
theorem kp_drop (h : cInv N C q t x) (m : Int32) (ad : Bool) (ht : t + 2 * N ≤ 1000000) : ∀ k, k ≤ N → kp x (cDrop N m ad x k).1
  | 0, _ => kp.rf
  | k + 1, hk => by
    obtain ⟨q', t', h1, h2, h3⟩ := iDrop h m ad ht k (by omega)
    have ih := kp_drop h m ad ht k (by omega)
    rw [cDrop, cDr1]
    split
    · exact ih.tr (kp_fall h2 (by omega) (by omega))
    · exact ih
theorem kp_on {k : Nat} : kp x (cOn x C k) := by
  unfold cOn
  split
  · exact kp_put
  · exact kp.rf
theorem kp_ons : ∀ k, kp x (cOns x C k)
  | 0 => kp.rf
  | k + 1 => (kp_ons k).tr kp_on
theorem cTr_tr (s s' : Int32 × Int32 × Int32) : cTr (cTr x s) s' = cTr x s' := by
  unfold cTr sI
  refine Prod.ext (funext fun i => ?_) rfl
  show upd (upd (upd (upd (upd (upd x.1 6 s.1) 7 s.2.1) 8 s.2.2) 6 s'.1) 7 s'.2.1) 8 s'.2.2 i = upd (upd (upd x.1 6 s'.1) 7 s'.2.1) 8 s'.2.2 i
  unfold upd
  split
  · rfl
  · split
    · rfl
    · split
      · rfl
      · rfl
theorem cTr_self : cTr x (x.1 6, x.1 7, x.1 8) = x := by
  unfold cTr sI
  refine Prod.ext (funext fun i => ?_) rfl
  show upd (upd (upd x.1 6 (x.1 6)) 7 (x.1 7)) 8 (x.1 8) i = x.1 i
  unfold upd
  split
  · rename_i h; rw [h]
  · split
    · rename_i h; rw [h]
    · split
      · rename_i h; rw [h]
      · rfl
theorem cTry_tr (s0 : Int32 × Int32 × Int32) : ∀ (lv : Nat) (s : Int32 × Int32 × Int32) (f l : Nat), cTry (cTr x s0) lv s f l = cTry x lv s f l
  | 0, s, f, l => rfl
  | lv + 1, s, f, l => by
    rw [cTry, cTry, cTry_tr s0 lv, cTry_tr s0 lv]
    rfl
theorem cFR_tr (s0 : Int32 × Int32 × Int32) (l : Nat) : cFR (cTr x s0) C l = cFR x C l := by
  unfold cFR
  rw [cTry_tr]
  rfl
theorem cFO_tr (s0 : Int32 × Int32 × Int32) : ∀ l, cFO (cTr x s0) C l = cFO x C l
  | 0 => rfl
  | l + 1 => by rw [cFO, cFO, cTry_tr, cFO_tr s0 l]
end KP
