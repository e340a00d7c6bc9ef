/-! the law's own coming of a card, whole -/
section LCx
variable {sc : Option (Nat × (Nat → Int32))} {x xc : xX} {y : lY} {r : xW} {N C : Nat} {q od : List Nat} {t : Nat}
/-- what a card's coming leaves -/
def lSh (N C : Nat) (t : Nat) (xc x' : xX) (r : xW) : xX → lY → xW → Prop := fun x1 y1 r1 => x1 = xc ∧ r1 = r ∧ ∃ q' od', LR N C q' od' t x' y1
def zC (f : Nat → Int32) (a i : Nat) : Nat → Int32 := fun p => if a ≤ p ∧ p < i then f (p + 1) else f p
theorem nI_s' (j : Nat) : nI (j + 1) = nI j + xk 1 0 := nI_s j
theorem zC_0 (f : Nat → Int32) (a : Nat) : zC f a a = f := funext fun p => if_neg (by omega)
theorem zC_s (f : Nat → Int32) {a i : Nat} (h : a ≤ i) : upd (zC f a i) i (f (i + 1)) = zC f a (i + 1) := funext fun p => by
  by_cases e : p = i
  · subst e
    rw [pk_us]
    unfold zC
    rw [if_pos (by omega)]
  · rw [pk_un e]
    unfold zC
    by_cases e2 : a ≤ p ∧ p < i
    · rw [if_pos e2, if_pos (by omega)]
    · rw [if_neg e2, if_neg (by omega)]
theorem va_up_2 {y : lY} {a : Nat} {f g : Nat → Int32} : va_up (va_up y a f) a g = va_up y a g := funext fun b => by
  unfold va_up
  split <;> rfl
theorem va_up_s {y : lY} {a : Nat} {f : Nat → Int32} : va_up y a f a = f := if_pos rfl
theorem va_up_n {y : lY} {a b : Nat} {f : Nat → Int32} (h : b ≠ a) : va_up y a f b = y b := if_neg h
theorem cNI_z (p : Nat → Bool) (f : Nat → Int32) {i : Nat} (h : p i = false) : orIf p f (i + 1) = orIf p f i ||| xk 0 0 := by rw [orIf_f h, i32_or0]
set_option maxHeartbeats 16000000 in
/-- from where the card has been put: what it leaves opens -/
theorem l_comeN (n : Nat) (h : LR N C q od t x y) {k : Nat} (hk : k < 10) (j0 i0 : Nat) (lv : Bool) {P : xX → lY → xW → Prop} (hP : ∀ z : lY, z 0 = y 0 → z 1 = y 1 → (∀ i, i ≠ 2 → z 4 i = y 4 i) → z 4 2 = nI (q.filter (fun c => !(lGone lv (x.2 3 k) (cNI x N (nI 3)) c))).length → (∀ c, c < 12 → z 2 (5 * c + 1) = if c ∈ q ∧ lGone lv (x.2 3 k) (cNI x N (nI 3)) c = true then nI 0 else x.2 10 c) → (∀ c i, c < 12 → i ≤ 4 → i ≠ 1 → z 2 (5 * c + i) = y 2 (5 * c + i)) → (∀ i v, (q.filter (fun c => !(lGone lv (x.2 3 k) (cNI x N (nI 3)) c)))[i]? = some v → z 3 i = nI v) → P xc z r) (c9 c10 c11 c12 : Option Value) :
    xAt sc k_L_come n (lQ none P) (90, cmL k j0 i0 lv c9 c10 c11 c12, [], wY xc y r, 0) := by
  have hN := h.n
  have hN1 := h.hN
  refine xWp.go 96 rfl trivial ?_
  refine xWp.loop N (fun i => (96, cmL k j0 i0 lv (some (.int (cNI x i (nI 3)))) (some (.int (nI i))) c11 c12, [], wY xc y r, 0)) (fun i hi ih => ?_) ?_
  · have ei : y 1 (xk 5 0 * nI i + xk 1 0).toNatClampNeg = x.2 1 i := by rw [c5 (by omega) (by omega), h.col (by omega)]
    have em : y 1 (xk 5 0 * nI i + xk 2 0).toNatClampNeg = x.2 3 i := by rw [c5 (by omega) (by omega), h.nam (by omega)]
    refine xWp.gb rfl ⟨inx (by omega) (by omega), trivial⟩ rfl (fun h9 => ?_) (fun _ => ?_)
    · have h' : y 4 0 ≤ nI i := h9
      rw [hN1, le_nI (by omega) (by omega)] at h'; omega
    refine xWp.gb rfl ⟨in5 (K := 10) (by omega) (by omega) (by omega), trivial⟩ rfl (fun h8 => ?_) (fun h8 => ?_)
    · have h8' : y 1 (xk 5 0 * nI i + xk 1 0).toNatClampNeg = nI 3 := h8
      rw [ei] at h8'
      have e : cNI x (i + 1) (nI 3) = cNI x i (nI 3) ||| y 1 (xk 5 0 * nI i + xk 2 0).toNatClampNeg := by
        rw [em]
        exact orIf_t (by simp [h8'])
      rw [e, nI_s i] at ih
      exact xWp.go 96 rfl ⟨in5 (K := 10) (by omega) (by omega) (by omega), trivial⟩ ih
    · have h8' : ¬ y 1 (xk 5 0 * nI i + xk 1 0).toNatClampNeg = nI 3 := h8
      rw [ei] at h8'
      have e : cNI x (i + 1) (nI 3) = cNI x i (nI 3) ||| xk 0 0 := cNI_z _ _ (by simp [h8'])
      rw [e, nI_s i] at ih
      exact xWp.go 96 rfl trivial ih
  · refine xWp.gb rfl ⟨inx (by omega) (by omega), trivial⟩ rfl (fun _ => ?_) (fun h9 => ?_)
    · refine xWp.go 146 rfl trivial ?_
      exact l_comeQ n h hk j0 i0 lv (cNI x N (nI 3)) hP c12
    · have h' : ¬ y 4 0 ≤ nI N := h9
      rw [hN1, le_nI (by omega) (by omega)] at h'; omega
set_option maxHeartbeats 16000000 in
theorem l_come (n : Nat) (h : LR N C q od t x y) {k j : Nat} (hk : k < N) (hj : j ≤ 4) (ht : t < 1000000) : xCW sc (n + 1) k_L_come [.ref 15, .ref 16, .ref 17, .ref 18, .ref 19, .int (nI k), .int (nI j)] (wY xc y r) (lQ none (lSh N C (t + 1) xc (cShift x N k (nI j)) r)) := by
  have hN := h.n
  have hC := h.c
  have hN1 := h.hN
  obtain ⟨A, B, hAB⟩ := List.append_of_mem ((h.oin k).mpr hk)
  subst hAB
  have hlen := h.ol
  rw [List.length_append, List.length_cons] at hlen
  have hnd := h.ond
  have hkA : k ∉ A := fun z => by
    rw [List.nodup_append] at hnd
    exact hnd.2.2 k z k List.mem_cons_self rfl
  have ec : y 1 (xk 5 0 * nI k + xk 1 0).toNatClampNeg = x.2 1 k := by rw [c5 (by omega) (by omega), h.col (by omega)]
  obtain ⟨lv, hlv⟩ : ∃ lv, lv = (decide (x.2 1 k = nI 3) && decide (j < 4)) := ⟨_, rfl⟩
  have hshift : cShift x N k (nI j) = if lv = true then cUnq (cPut x k (nI j)) (x.2 3 k &&& (cNI (cPut x k (nI j)) N (nI 3) ^^^ -1)) q.length else cPut x k (nI j) := by
    unfold cShift
    rw [cQn_of h.inv.wf, hlv]
    have e4 : nI j = nI 4 ↔ j = 4 := eq_nI (by omega) (by omega)
    by_cases e1 : x.2 1 k = nI 3 <;> by_cases e2 : j < 4 <;> simp [e1, e2, e4]
    · omega
    · omega
  rw [hshift]
  -- the card at the end of the order
  have k70 : xAt sc k_L_come n (lQ none (lSh N C (t + 1) xc (if lv = true then cUnq (cPut x k (nI j)) (x.2 3 k &&& (cNI (cPut x k (nI j)) N (nI 3) ^^^ -1)) q.length else cPut x k (nI j)) r)) (70, cmL k j (A.length + B.length) lv none none none none, [], wY xc (va_up y 0 (zC (y 0) A.length (A.length + B.length))) r, 0) := by
    have hpre : y 4 0 - xk 1 0 = nI (A.length + B.length) := by rw [hN1, show N = (A.length + B.length) + 1 by omega]; exact nI_pre _
    obtain ⟨y1, hy1⟩ : ∃ y1 : lY, y1 = yS (yS (va_up y 0 (zC (y 0) A.length (A.length + B.length))) 0 (A.length + B.length) (nI k)) 1 (5 * k + 1) (nI j) := ⟨_, rfl⟩
    have eZ : yS (yS (va_up y 0 (zC (y 0) A.length (A.length + B.length))) 0 (y 4 0 - xk 1 0).toNatClampNeg (nI k)) 1 (xk 5 0 * nI k + xk 1 0).toNatClampNeg (nI j) = y1 := by rw [hpre, cl_nI (by omega), c5 (by omega) (by omega), hy1]
    have h1 : LR N C q (A ++ B ++ [k]) (t + 1) (cPut x k (nI j)) y1 := by
      refine rPutL h hk hj ht (fun i v hv => ?_) ?_ ?_ ?_ ?_
      · rw [hy1, yS_a (by decide)]
        rcases Nat.lt_or_ge i (A ++ B).length with hi | hi
        · rw [List.getElem?_append_left hi] at hv
          rw [List.length_append] at hi
          rw [yS_i (by omega), va_up_s]
          unfold zC
          rcases Nat.lt_or_ge i A.length with hi2 | hi2
          · rw [if_neg (by omega)]
            rw [List.getElem?_append_left hi2] at hv
            exact h.oi (by rw [List.getElem?_append_left hi2]; exact hv)
          · rw [if_pos (by omega)]
            rw [List.getElem?_append_right hi2] at hv
            refine h.oi ?_
            rw [List.getElem?_append_right (by omega), show i + 1 - A.length = (i - A.length) + 1 by omega, List.getElem?_cons_succ]
            exact hv
        · rw [List.getElem?_append_right hi] at hv
          rw [List.length_append] at hi hv
          have hz : i - (A.length + B.length) < 1 := (List.getElem?_eq_some_iff.mp hv).1
          have ei : i = A.length + B.length := by omega
          rw [ei, Nat.sub_self] at hv
          have : k = v := by simpa using hv
          rw [ei, yS_s, this]
      · rw [hy1]
        show upd _ _ _ = _
        rw [yS_a (by decide), va_up_n (by decide)]
      · rw [hy1, yS_a (by decide), yS_a (by decide), va_up_n (by decide)]
      · rw [hy1, yS_a (by decide), yS_a (by decide), va_up_n (by decide)]
      · rw [hy1, yS_a (by decide), yS_a (by decide), va_up_n (by decide)]
    have fin := l_comeN (sc := sc) (r := r) (xc := xc) n h1 (k := k) (by omega) j (A.length + B.length) lv (P := lSh N C (t + 1) xc (if lv = true then cUnq (cPut x k (nI j)) (x.2 3 k &&& (cNI (cPut x k (nI j)) N (nI 3) ^^^ -1)) q.length else cPut x k (nI j)) r) (fun z z0 z1 z4 z42 zs zg zq => by
      refine ⟨rfl, rfl, ?_⟩
      cases lv with
      | false =>
        have ef : q.filter (fun c => !(lGone false ((cPut x k (nI j)).2 3 k) (cNI (cPut x k (nI j)) N (nI 3)) c)) = q := List.filter_eq_self.mpr (fun c _ => rfl)
        rw [ef] at z42 zq
        refine ⟨q, _, h1.reb h1.inv rfl rfl (fun _ _ _ => rfl) z0 z1 z4 z42 (fun c hc => ?_) zg zq⟩
        rw [zs c hc, if_neg (fun z => by cases z.2)]
        rfl
      | true =>
        obtain ⟨m, hm⟩ : ∃ m, m = x.2 3 k &&& (cNI (cPut x k (nI j)) N (nI 3) ^^^ -1) := ⟨_, rfl⟩
        have hb : ∀ c, c < 32 → lGone true ((cPut x k (nI j)).2 3 k) (cNI (cPut x k (nI j)) N (nI 3)) c = bt m c := fun c hc => by
          rw [hm, b_and, b_xor, b_m1 c hc, Bool.xor_true]
          rfl
        have ef : q.filter (fun c => !(lGone true ((cPut x k (nI j)).2 3 k) (cNI (cPut x k (nI j)) N (nI 3)) c)) = q.filter (fun c => !bt m c) := List.filter_congr (fun c hc => by
          have := h1.inv.lt hc
          rw [hb c (by omega)])
        rw [ef] at z42 zq
        obtain ⟨u1, u2, u3, u4⟩ := cUnq_fl h1.inv m
        rw [← hm, if_pos rfl]
        refine ⟨_, _, h1.reb (iUnq h1.inv m) (by rw [u1]; rfl) (by rw [u1]; rfl) u4 z0 z1 z4 z42 (fun c hc => ?_) zg zq⟩
        rw [zs c hc, u3, hb c (by omega)]) none none none none
    refine xWp.go 90 rfl ⟨inx (by omega) (by omega), ?_, ?_, trivial⟩ ?_
    · show vp_in (y 4 0 - xk 1 0) 10
      rw [hpre]; exact in_nI (by omega) (by omega)
    · exact in5 (K := 10) (by omega) (by omega) (by omega)
    · rw [← eZ] at fin
      exact fin
  -- the cards behind it move up
  have k43 : xAt sc k_L_come n (lQ none (lSh N C (t + 1) xc (if lv = true then cUnq (cPut x k (nI j)) (x.2 3 k &&& (cNI (cPut x k (nI j)) N (nI 3) ^^^ -1)) q.length else cPut x k (nI j)) r)) (43, cmL k j (A.length + 0) lv none none none none, [], wY xc (va_up y 0 (zC (y 0) A.length (A.length + 0))) r, 0) := by
    refine xWp.loop B.length (fun b => (43, cmL k j (A.length + b) lv none none none none, [], wY xc (va_up y 0 (zC (y 0) A.length (A.length + b))) r, 0)) (fun b hb ih => ?_) ?_
    · refine xWp.gb rfl ⟨inx (by omega) (by omega), trivial⟩ rfl (fun h9 => ?_) (fun _ => ?_)
      · have h' : y 4 0 ≤ nI (A.length + b) + xk 1 0 := h9
        rw [hN1, nI_xk, le_nI (by omega) (by omega)] at h'; omega
      have eZ : yS (va_up y 0 (zC (y 0) A.length (A.length + b))) 0 (nI (A.length + b)).toNatClampNeg (va_up y 0 (zC (y 0) A.length (A.length + b)) 0 (nI (A.length + b) + xk 1 0).toNatClampNeg) = va_up y 0 (zC (y 0) A.length (A.length + (b + 1))) := by
        rw [nI_xk, cl_nI (by omega), cl_nI (by omega), va_up_s]
        unfold yS
        rw [va_up_s, va_up_2]
        have e1 : zC (y 0) A.length (A.length + b) (A.length + b + 1) = y 0 (A.length + b + 1) := by unfold zC; rw [if_neg (by omega)]
        rw [e1, zC_s (y 0) (by omega)]
        rfl
      rw [← eZ, show A.length + (b + 1) = (A.length + b) + 1 by omega] at ih
      unfold cmL at ih
      rw [nI_s (A.length + b)] at ih
      exact xWp.go 43 rfl ⟨inP (by omega) (by omega), in_nI (by omega) (by omega), trivial⟩ ih
    · refine xWp.gb rfl ⟨inx (by omega) (by omega), trivial⟩ rfl (fun _ => ?_) (fun h9 => ?_)
      · exact k70
      · have h' : ¬ y 4 0 ≤ nI (A.length + B.length) + xk 1 0 := h9
        rw [hN1, nI_xk, le_nI (by omega) (by omega)] at h'; omega
  have hy0 : va_up y 0 (zC (y 0) A.length (A.length + 0)) = y := by
    rw [Nat.add_zero, zC_0]
    exact funext fun b => by unfold va_up; split; rename_i e; rw [e]; rfl
  rw [hy0, Nat.add_zero] at k43
  -- its place in the order
  have k28 : xAt sc k_L_come n (lQ none (lSh N C (t + 1) xc (if lv = true then cUnq (cPut x k (nI j)) (x.2 3 k &&& (cNI (cPut x k (nI j)) N (nI 3) ^^^ -1)) q.length else cPut x k (nI j)) r)) (28, cmL k j 0 lv none none none none, [], wY xc y r, 0) := by
    refine xWp.loop A.length (fun i => (28, cmL k j i lv none none none none, [], wY xc y r, 0)) (fun i hi ih => ?_) ?_
    · have hm : A[i] ≠ k := fun e => hkA (by rw [← e]; exact List.getElem_mem hi)
      have hAN : A[i] < N := (h.oin _).mp (List.mem_append_left _ (List.getElem_mem hi))
      have eo : y 0 (nI i).toNatClampNeg = nI A[i] := by
        rw [cl_nI (by omega)]
        exact h.oi (by rw [List.getElem?_append_left hi]; exact List.getElem?_eq_getElem hi)
      refine xWp.gb rfl ⟨in_nI (by omega) (by omega), trivial⟩ rfl (fun h9 => ?_) (fun _ => ?_)
      · have h' : y 0 (nI i).toNatClampNeg = nI k := h9
        rw [eo, eq_nI (by omega) (by omega)] at h'
        exact absurd h' hm
      · unfold cmL at ih
        rw [nI_s i] at ih
        exact xWp.go 28 rfl trivial ih
    · have eo : y 0 (nI A.length).toNatClampNeg = nI k := by
        rw [cl_nI (by omega)]
        exact h.oi (by rw [List.getElem?_append_right (Nat.le_refl _), Nat.sub_self]; rfl)
      refine xWp.gb rfl ⟨in_nI (by omega) (by omega), trivial⟩ rfl (fun _ => ?_) (fun h9 => absurd eo h9)
      exact k43
  refine xWp.gb rfl ⟨in5 (K := 10) (by omega) (by omega) (by omega), trivial⟩ rfl (fun h3 => ?_) (fun h3 => ?_)
  · have h3' : y 1 (xk 5 0 * nI k + xk 1 0).toNatClampNeg = nI 3 := h3
    rw [ec] at h3'
    refine xWp.gb rfl trivial rfl (fun h4 => ?_) (fun h4 => ?_)
    · have h4' : nI 4 ≤ nI j := h4
      rw [le_nI (by omega) (by omega)] at h4'
      have : lv = false := by rw [hlv]; simp; intro _; omega
      subst this
      exact xWp.go 28 rfl trivial k28
    · have h4' : ¬ nI 4 ≤ nI j := h4
      rw [le_nI (by omega) (by omega)] at h4'
      have : lv = true := by rw [hlv]; simp [h3']; omega
      subst this
      exact xWp.go 28 rfl trivial k28
  · have h3' : ¬ y 1 (xk 5 0 * nI k + xk 1 0).toNatClampNeg = nI 3 := h3
    rw [ec] at h3'
    have : lv = false := by rw [hlv]; simp [h3']
    subst this
    exact xWp.go 28 rfl trivial k28
end LCx
