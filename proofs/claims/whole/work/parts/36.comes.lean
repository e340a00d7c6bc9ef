/-! the reference: a card comes to a column -/
section CO
variable {x x0 y : xX} {o : Nat → Int64} {N C : Nat} {q : List Nat} {t : Nat} {w : xW}
/-- it returns v, and the reference's state has P -/
def mQ (v : Option Value) (P : xX → Prop) (x0 : xX) (o : Nat → Int64) : xR → xW → Prop := fun r w => ∃ y', r = .inl v ∧ w = wW x0 y' o ∧ P y'
theorem xWp.gm {I : List (List xI)} {bm : Nat} {scr : Option (Nat × (Nat → Int32))} {hd : List (Nat × Nat × Nat)} {cl : Nat → List Value → xW → (xR → xW → Prop) → Prop} {Q : xR → xW → Prop} {s : xS} {s' : xS} {g g2 : Prop} {k nx u : Nat} {as st : List Value} {L : xL} {w : xW} (h : xgo I bm scr 9999 60 s = some (g, s')) (hg : g) (h2 : xo I bm scr s' = some (.inr (.inr (.inr (.inl (g2, (k, as, nx, L, st, w, u))))))) {v : Option Value} {P : xX → Prop} (hc : cl k as w (mQ v P x0 o)) (hg2 : g2) (kk : ∀ y', P y' → xWp I bm scr hd cl Q (nx, L, v.toList ++ st, wW x0 y' o, u)) : xWp I bm scr hd cl Q s :=
  xWp.go 9999 h hg (xWp.call h2 hg2 _ hc (fun r w9 h9 => by obtain ⟨y', rfl, rfl, hP⟩ := h9; exact kk y' hP))
theorem mQ.mk {v : Option Value} {P : xX → Prop} {y' : xX} (h : P y') : mQ v P x0 o (.inl v) (wW x0 y' o) := ⟨y', rfl, rfl, h⟩
set_option maxHeartbeats 800000 in
theorem m_leaves (n : Nat) (h3 : y.1 3 = nI q.length) (hl : q.length ≤ 30) (hq : ∀ i v, q[i]? = some v → y.2 12 i = nI v) (hlt : ∀ d, d ∈ q → d < 30) {c : Nat} (hc : c < 30) : xCW (n + 1) k_X3_leaves [.ref 15, .int (nI c)] (wW x0 y o) (mQ none (fun y' => y'.1 = upd y.1 3 (nI (q.filter (fun d => !decide (d = c))).length) ∧ (∀ i v, (q.filter (fun d => !decide (d = c)))[i]? = some v → y'.2 12 i = nI v) ∧ ∀ r, r ≠ 12 → y'.2 r = y.2 r) x0 o) := by
  have key : ∀ m j nj (z : xX), j + m = q.length → z.1 = y.1 → nj = ((q.take j).filter (fun d => !decide (d = c))).length → (∀ i v, ((q.take j).filter (fun d => !decide (d = c)))[i]? = some v → z.2 12 i = nI v) → (∀ i v, j ≤ i → q[i]? = some v → z.2 12 i = nI v) → (∀ r, r ≠ 12 → z.2 r = y.2 r) →
      xAt k_X3_leaves n (mQ none (fun y' => y'.1 = upd y.1 3 (nI (q.filter (fun d => !decide (d = c))).length) ∧ (∀ i v, (q.filter (fun d => !decide (d = c)))[i]? = some v → y'.2 12 i = nI v) ∧ ∀ r, r ≠ 12 → y'.2 r = y.2 r) x0 o) (4, [some (.ref 15), some (.int (nI c)), some (.int (nI nj)), some (.int (nI j))], [], wW x0 z o, 0) := by
    intro m
    induction m with
    | zero =>
      intro j nj z hj z1 hn a1 a2 a3
      have ej : j = q.length := by omega
      subst ej
      rw [List.take_length] at hn a1
      refine xWp.gb rfl trivial rfl (fun _ => ?_) (fun h => ?_)
      · refine xWp.gf rfl trivial rfl trivial (mQ.mk (y' := sI z 3 (nI nj)) ⟨?_, a1, a3⟩)
        show upd z.1 3 (nI nj) = _
        rw [z1, hn]
      · have h' : ¬ z.1 3 ≤ nI q.length := h
        rw [z1, h3, le_nI (by omega) (by omega)] at h'
        omega
    | succ m ih =>
      intro j nj z hj z1 hn a1 a2 a3
      have hj' : j < q.length := by omega
      have hnj : nj ≤ j := by
        have h1 := List.length_filter_le (fun d => !decide (d = c)) (q.take j)
        rw [List.length_take] at h1
        omega
      have eq0 : q[j]? = some q[j] := List.getElem?_eq_getElem hj'
      have et : q.take (j + 1) = q.take j ++ [q[j]] := List.take_succ_eq_append_getElem hj'
      have hd := hlt q[j] (List.getElem_mem hj')
      have ez := a2 j _ (Nat.le_refl _) eq0
      generalize q[j] = d at eq0 et hd ez
      refine xWp.gb rfl trivial rfl (fun h => ?_) (fun _ => ?_)
      · have h' : z.1 3 ≤ nI j := h
        rw [z1, h3, le_nI (by omega) (by omega)] at h'
        omega
      refine xWp.go 24 rfl ⟨in_nI (by omega) (by omega), in_nI (by omega) (by omega), trivial⟩ ?_
      rw [cl_nI (k := j) (by omega), cl_nI (k := nj) (by omega), ez]
      have g1 : (sA z 12 nj (nI d)).1 = y.1 := z1
      have gr : ∀ r, r ≠ 12 → (sA z 12 nj (nI d)).2 r = y.2 r := fun r hr => by
        show va_up z.2 12 _ r = y.2 r
        unfold va_up
        rw [if_neg hr]
        exact a3 r hr
      have gq : ∀ i v, j + 1 ≤ i → q[i]? = some v → (sA z 12 nj (nI d)).2 12 i = nI v := fun i v hi hv => by
        show upd (z.2 12) nj (nI d) i = nI v
        rw [pk_un (by omega)]
        exact a2 i v (by omega) hv
      have gj : (sA z 12 nj (nI d)).2 12 j = nI d := by
        show upd (z.2 12) nj (nI d) j = nI d
        by_cases e : j = nj
        · rw [e, pk_us]
        · rw [pk_un e, ez]
      have goal : xAt k_X3_leaves n (mQ none (fun y' => y'.1 = upd y.1 3 (nI (q.filter (fun d => !decide (d = c))).length) ∧ (∀ i v, (q.filter (fun d => !decide (d = c)))[i]? = some v → y'.2 12 i = nI v) ∧ ∀ r, r ≠ 12 → y'.2 r = y.2 r) x0 o) (24, [some (.ref 15), some (.int (nI c)), some (.int (nI nj)), some (.int (nI j))], [], wW x0 (sA z 12 nj (nI d)) o, 0) := by
        refine xWp.gb rfl ⟨in_nI (by omega) (by omega), trivial⟩ rfl (fun h => ?_) (fun h => ?_)
        · have h' : (sA z 12 nj (nI d)).2 12 (nI j).toNatClampNeg = nI c := h
          rw [cl_nI (by omega), gj, eq_nI (by omega) (by omega)] at h'
          have ef : (q.take (j + 1)).filter (fun d => !decide (d = c)) = (q.take j).filter (fun d => !decide (d = c)) := by rw [et, List.filter_append]; simp [h']
          have h9 := ih (j + 1) nj (sA z 12 nj (nI d)) (by omega) g1 (by rw [ef]; exact hn) (fun i v hv => by
            rw [ef] at hv
            have hi : i < nj := by rw [hn]; exact (List.getElem?_eq_some_iff.mp hv).1
            show upd (z.2 12) nj (nI d) i = nI v
            rw [pk_un (by omega)]
            exact a1 i v hv) gq gr
          rw [nI_s j, ← nI_z nj] at h9
          exact xWp.go 4 rfl trivial h9
        · have h' : ¬ (sA z 12 nj (nI d)).2 12 (nI j).toNatClampNeg = nI c := h
          rw [cl_nI (by omega), gj, eq_nI (by omega) (by omega)] at h'
          have ef : (q.take (j + 1)).filter (fun d => !decide (d = c)) = (q.take j).filter (fun d => !decide (d = c)) ++ [d] := by rw [et, List.filter_append]; simp [h']
          have h9 := ih (j + 1) (nj + 1) (sA z 12 nj (nI d)) (by omega) g1 (by rw [ef, List.length_append, ← hn]; rfl) (fun i v hv => by
            rw [ef] at hv
            show upd (z.2 12) nj (nI d) i = nI v
            rcases Nat.lt_or_ge i ((q.take j).filter (fun d => !decide (d = c))).length with hi | hi
            · rw [List.getElem?_append_left hi] at hv
              rw [pk_un (by omega)]
              exact a1 i v hv
            · rw [List.getElem?_append_right hi] at hv
              by_cases e : i = nj
              · rw [e, ← hn, Nat.sub_self] at hv
                simp at hv
                rw [e, pk_us, hv]
              · rw [List.getElem?_eq_none (by simp; omega)] at hv
                cases hv) gq gr
          rw [nI_s j, nI_s nj] at h9
          exact xWp.go 4 rfl trivial h9
      exact goal
  refine xWp.go 4 rfl trivial ?_
  exact key q.length 0 0 y (by omega) rfl (by simp) (fun i v hv => by simp at hv) (fun i v _ hv => hq i v hv) (fun r _ => rfl)
theorem bt_cNI (hC : C ≤ 30) (col : Int32) (c : Nat) : bt (cNI x N col) c = anyB (xNA x col c) N := by
  rw [Bool.eq_iff_iff]
  unfold cNI
  rw [bt_orIf, anyB_iff]
  unfold xNA
  simp only [Bool.and_eq_true]
theorem bt_msk (hC : C ≤ 30) (k : Nat) (col : Int32) {c : Nat} (hc : c < 32) : bt (x.2 3 k &&& (cNI x N col ^^^ -1)) c = (bt (x.2 3 k) c && !(anyB (xNA x col c) N)) := by
  rw [b_and, b_xor, b_m1 c hc, bt_cNI hC, Bool.xor_true]
/-- the reference's state when a card has come, ahead of what that does to the queue -/
def mPut (y : xX) (k : Nat) (col : Int32) : xX := sA (sI (sA y 1 k col) 1 (y.1 1 + nI 1)) 2 k (y.1 1 + nI 1)
theorem rPut (h : Rel N C q t x y) {k j : Nat} (hk : k < N) (hj : j ≤ 4) (ht : t < 1000000) : Rel N C q (t + 1) (cPut x k (nI j)) (mPut y k (nI j)) := by
  obtain ⟨hi, ⟨n0, n1, n2, n3, n4⟩, ⟨r0, r1, r3, r4, r6, r7, r8⟩, ⟨ra, rq⟩, s⟩ := h
  have ht0 := hi.2.1.1
  refine ⟨iPut hi hk hj ht, ⟨n0, ?_, n2, n3, n4⟩, ⟨r0, ?_, r3, r4, r6, r7, r8⟩, ⟨fun k' hk' => ?_, rq⟩, s⟩
  · show y.1 1 + nI 1 = nI (t + 1)
    rw [n1, nI_add]
  · show upd (y.2 1) k (nI j) = upd (x.2 1) k (nI j)
    rw [r1]
  · show upd (y.2 2) k (y.1 1 + nI 1) k' = upd (x.2 2) k (x.1 2) k' + nI 1
    by_cases e : k' = k
    · subst e; rw [pk_us, pk_us, n1, ht0]
    · rw [pk_un e, pk_un e]; exact ra k' hk'
theorem rUnq (h : Rel N C q t x y) (m : Int32) {z : xX} (h1 : z.1 = upd y.1 3 (nI (q.filter (fun d => !bt m d)).length)) (h2 : ∀ i v, (q.filter (fun d => !bt m d))[i]? = some v → z.2 12 i = nI v) (h3 : ∀ d, z.2 8 d = if d ∈ q ∧ bt m d = true then nI 0 else x.2 10 d) (h4 : ∀ r, r ≠ 8 → r ≠ 12 → z.2 r = y.2 r) : Rel N C (q.filter (fun d => !bt m d)) t (cUnq x m q.length) z := by
  obtain ⟨u1, u2, u3, u4⟩ := cUnq_fl h.1 m
  have hi := iUnq h.1 m
  obtain ⟨-, ⟨n0, n1, n2, n3, n4⟩, ⟨r0, r1, r3, r4, r6, r7, r8⟩, ⟨ra, rq⟩, ⟨s5, s9, s10, s11⟩⟩ := h
  generalize cUnq x m q.length = xx at u1 u2 u3 u4 hi
  have v0 := u4 0 (by decide) (by decide)
  have v1 := u4 1 (by decide) (by decide)
  have v2 := u4 2 (by decide) (by decide)
  have v3 := u4 3 (by decide) (by decide)
  have v4 := u4 4 (by decide) (by decide)
  have v5 := u4 5 (by decide) (by decide)
  have v6 := u4 6 (by decide) (by decide)
  have v7 := u4 7 (by decide) (by decide)
  have v8 := u4 8 (by decide) (by decide)
  have v9 := u4 9 (by decide) (by decide)
  refine ⟨hi, ⟨?_, ?_, ?_, ?_, ?_⟩, ⟨?_, ?_, ?_, ?_, ?_, ?_, ?_⟩, ⟨fun k hk => ?_, h2⟩, ⟨fun k c hk hc => ?_, fun c hc => ?_, fun c d hc hd => ?_, fun c d hc hd => ?_⟩⟩
  · rw [h1]; exact n0
  · rw [h1]; exact n1
  · rw [h1]; exact n2
  · rw [h1]; rfl
  · rw [h1, u1]; exact n4
  · rw [h4 0 (by decide) (by decide), v0]; exact r0
  · rw [h4 1 (by decide) (by decide), v1]; exact r1
  · rw [h4 3 (by decide) (by decide), v4]; exact r3
  · rw [h4 4 (by decide) (by decide), v5]; exact r4
  · rw [h4 6 (by decide) (by decide), v6]; exact r6
  · rw [h4 7 (by decide) (by decide), v7]; exact r7
  · exact funext fun d => by rw [h3, u3]
  · rw [h4 2 (by decide) (by decide), v2]; exact ra k hk
  · rw [h4 5 (by decide) (by decide), v3]; exact s5 k c hk hc
  · rw [h4 9 (by decide) (by decide), u1]; exact s9 c hc
  · rw [h4 10 (by decide) (by decide), v8]; exact s10 c d hc hd
  · rw [h4 11 (by decide) (by decide), v9]; exact s11 c d hc hd
/-- what a card's coming gives -/
def mCome (N C : Nat) (t : Nat) (x y : xX) (y' : xX) : Prop := (∃ q', Rel N C q' t x y') ∧ ∀ i, 4 ≤ i → y'.1 i = y.1 i
set_option maxHeartbeats 1600000 in
theorem m_comes (n : Nat) (h : Rel N C q t x y) {k j : Nat} (hk : k < N) (hj : j ≤ 4) (ht : t < 1000000) : xCW (n + 3) k_X3_comes [.ref 15, .int (nI k), .int (nI j)] (wW x0 y o) (mQ none (mCome N C (t + 1) (cShift x N k (nI j)) y) x0 o) := by
  have hN := h.1.n
  have hC := h.1.c
  have hq30 := h.1.q30
  have h1 := rPut h hk hj ht
  have hy1 : ∀ i, 4 ≤ i → (mPut y k (nI j)).1 i = y.1 i := fun i hi => by
    show upd y.1 1 _ i = y.1 i
    exact pk_un (by omega)
  have rd1 := h1.rd
  have hcol := h.2.2.1.2.1
  refine xWp.go 37 rfl ⟨in_nI (by omega) (by omega), in_nI (by omega) (by omega), in_nI (by omega) (by omega), trivial⟩ ?_
  rw [cl_nI (by omega)]
  have start : ∀ (hd : Int32), hd = x.2 1 k → xAt k_X3_comes (n + 2) (mQ none (mCome N C (t + 1) (cShift x N k (nI j)) y) x0 o) (37, [some (.ref 15), some (.int (nI k)), some (.int (nI j)), some (.int hd), some (.int (nI 0))], [], wW x0 (mPut y k (nI j)) o, 0) := by
    intro hd ehd
    by_cases h34 : x.2 1 k = nI 3 ∧ ¬ nI j = nI 4
    · have e : cShift x N k (nI j) = cUnq (cPut x k (nI j)) (x.2 3 k &&& (cNI (cPut x k (nI j)) N (nI 3) ^^^ -1)) q.length := by
        unfold cShift
        rw [cQn_of h.1.wf]
        exact if_pos h34
      rw [e]
      obtain ⟨m, hm⟩ : ∃ m, m = x.2 3 k &&& (cNI (cPut x k (nI j)) N (nI 3) ^^^ -1) := ⟨_, rfl⟩
      have hmb : ∀ c, c < 32 → bt m c = (bt ((cPut x k (nI j)).2 3 k) c && !(anyB (xNA (cPut x k (nI j)) (nI 3) c) N)) := fun c hc => by rw [hm]; exact bt_msk (x := cPut x k (nI j)) hC k (nI 3) hc
      rw [← hm]
      clear hm e
      generalize cPut x k (nI j) = x1 at h1 rd1 hmb ⊢
      generalize mPut y k (nI j) = y1 at h1 rd1 hy1 ⊢
      have key : ∀ b c (z : xX), c + b = C → z.1 = upd y1.1 3 (nI (q.filter (fun d => !(decide (d < c) && bt m d))).length) → (∀ i v, (q.filter (fun d => !(decide (d < c) && bt m d)))[i]? = some v → z.2 12 i = nI v) → (∀ d, z.2 8 d = if d < c ∧ d ∈ q ∧ bt m d = true then nI 0 else x1.2 10 d) → (∀ r, r ≠ 8 → r ≠ 12 → z.2 r = y1.2 r) → xAt k_X3_comes (n + 2) (mQ none (mCome N C (t + 1) (cUnq x1 m q.length) y) x0 o) (37, [some (.ref 15), some (.int (nI k)), some (.int (nI j)), some (.int hd), some (.int (nI c))], [], wW x0 z o, 0) := by
        intro b
        induction b with
        | zero =>
          intro c z hc z1 z2 z3 z4
          have ec : c = C := by omega
          subst ec
          have zC : z.1 2 = nI c := by rw [z1]; exact h1.2.1.2.2.1
          refine xWp.gb rfl trivial rfl (fun _ => ?_) (fun h9 => ?_)
          · have ef : q.filter (fun d => !(decide (d < c) && bt m d)) = q.filter (fun d => !bt m d) := List.filter_congr (fun d hd => by have := h.1.lt hd; simp [this])
            rw [ef] at z1 z2
            refine xWp.gf rfl trivial rfl trivial (mQ.mk ⟨⟨_, rUnq h1 m z1 z2 (fun d => ?_) z4⟩, fun i hi => ?_⟩)
            · rw [z3]
              by_cases hd : d ∈ q
              · have := h.1.lt hd
                simp [hd, this]
              · simp [hd]
            · rw [z1, pk_un (by omega)]
              exact hy1 i hi
          · have h9' : ¬ z.1 2 ≤ nI c := h9
            rw [zC, le_nI (by omega) (by omega)] at h9'
            omega
        | succ b ih =>
          intro c z hc z1 z2 z3 z4
          have zC : z.1 2 = nI C := by rw [z1]; exact h1.2.1.2.2.1
          have zN : z.1 0 = nI N := by rw [z1]; exact h1.2.1.1
          have zQ : z.1 3 = nI (q.filter (fun d => !(decide (d < c) && bt m d))).length := by rw [z1, pk_us]
          have rdz : mRd N C x1 z := ⟨zN, hN, zC, hC, by rw [z4 1 (by decide) (by decide)]; exact rd1.2.2.2.2.1, by rw [z4 5 (by decide) (by decide)]; exact rd1.2.2.2.2.2⟩
          have zs : z.2 8 c = x1.2 10 c := by rw [z3, if_neg (by omega)]
          have mem := h1.1.1.2.2.2 c
          refine xWp.gb rfl trivial rfl (fun h9 => ?_) (fun _ => ?_)
          · have h9' : z.1 2 ≤ nI c := h9
            rw [zC, le_nI (by omega) (by omega)] at h9'
            omega
          refine xWp.gb rfl trivial rfl (fun _ => ?_) (fun h9 => absurd (ehd.trans h34.1) h9)
          refine xWp.gb rfl trivial rfl (fun h9 => absurd h9 h34.2) (fun _ => ?_)
          have skip : ¬ (c ∈ q ∧ bt m c = true) → xAt k_X3_comes (n + 2) (mQ none (mCome N C (t + 1) (cUnq x1 m q.length) y) x0 o) (101, [some (.ref 15), some (.int (nI k)), some (.int (nI j)), some (.int hd), some (.int (nI c))], [], wW x0 z o, 0) := fun hno => by
            have ef : q.filter (fun d => !(decide (d < c) && bt m d)) = q.filter (fun d => !(decide (d < c + 1) && bt m d)) := List.filter_congr (fun d hd => by
              by_cases e : d = c
              · subst e
                have : bt m d = false := by
                  cases hb : bt m d
                  · rfl
                  · exact absurd ⟨hd, hb⟩ hno
                simp [this]
              · have : (d < c) ↔ (d < c + 1) := by omega
                simp only [this])
            rw [ef] at z1 z2
            have h9 := ih (c + 1) z (by omega) z1 z2 (fun d => by
              rw [z3]
              by_cases e : d = c
              · subst e
                rw [if_neg (by omega), if_neg (fun w => hno ⟨w.2.1, w.2.2⟩)]
              · have : (d < c) ↔ (d < c + 1) := by omega
                simp only [this]) z4
            rw [nI_s c] at h9
            exact xWp.go 37 rfl trivial h9
          refine xWp.gc rfl trivial rfl (m_named (n + 1) rdz (k := k) (c := c) (by omega) (by omega)) (by decide) ?_
          refine xWp.gb rfl trivial rfl (fun hb => ?_) (fun hb => ?_)
          · rw [bI_0] at hb
            exact skip (fun w => by rw [hmb c (by omega), hb] at w; exact absurd w.2 (by simp))
          rw [bI_0, Bool.not_eq_false] at hb
          refine xWp.gb rfl ⟨in_nI (by omega) (by omega), trivial⟩ rfl (fun h9 => ?_) (fun h9 => ?_)
          · rw [cl_nI (by omega), zs] at h9
            have hcq : c ∈ q := mem.mpr ⟨by omega, h9⟩
            refine xWp.gc rfl trivial rfl (m_isNamedAt n rdz (nI 3) (c := c) (by omega)) (by decide) ?_
            refine xWp.gb rfl trivial rfl (fun hb2 => ?_) (fun hb2 => ?_)
            · rw [bI_0] at hb2
              have hmc : bt m c = true := by rw [hmb c (by omega), hb, hb2]; rfl
              refine xWp.go 95 rfl ⟨in_nI (by omega) (by omega), trivial⟩ ?_
              rw [cl_nI (by omega)]
              have lv := m_leaves (x0 := x0) (o := o) (y := sA z 8 c (nI 0)) (n + 1) (q := q.filter (fun d => !(decide (d < c) && bt m d))) (c := c) zQ (Nat.le_trans (List.length_filter_le _ _) hq30) z2 (fun d hd => by have := h.1.lt (List.mem_filter.mp hd).1; omega) (by omega)
              refine xWp.gm rfl trivial rfl lv (by decide) (fun z' hz' => ?_)
              obtain ⟨w1, w2, w3⟩ := hz'
              have ef : (q.filter (fun d => !(decide (d < c) && bt m d))).filter (fun d => !decide (d = c)) = q.filter (fun d => !(decide (d < c + 1) && bt m d)) := by
                rw [List.filter_filter]
                refine List.filter_congr (fun d hd => ?_)
                by_cases e : d = c
                · subst e; simp [hmc]
                · have : (d < c) ↔ (d < c + 1) := by omega
                  simp [e, this]
              rw [ef] at w1 w2
              have h99 := ih (c + 1) z' (by omega) (by
                rw [w1]
                show upd z.1 3 _ = _
                rw [z1, fa_upd_twice]) w2 (fun d => by
                rw [w3 8 (by decide)]
                show upd (z.2 8) c (nI 0) d = _
                by_cases e : d = c
                · subst e
                  rw [pk_us, if_pos ⟨by omega, hcq, hmc⟩]
                · have : (d < c) ↔ (d < c + 1) := by omega
                  rw [pk_un e, z3]
                  simp only [this]) (fun r h8 h12 => by
                rw [w3 r h12]
                show va_up z.2 8 _ r = _
                unfold va_up
                rw [if_neg h8]
                exact z4 r h8 h12)
              rw [nI_s c] at h99
              exact xWp.go 37 rfl trivial h99
            · rw [bI_0, Bool.not_eq_false] at hb2
              exact skip (fun w => by rw [hmb c (by omega), hb2] at w; exact absurd w.2 (by simp))
          · rw [cl_nI (by omega), zs] at h9
            exact skip (fun w => h9 (mem.mp w.1).2)
      have ef0 : q.filter (fun d => !(decide (d < 0) && bt m d)) = q := List.filter_eq_self.mpr (fun d _ => by simp)
      exact key C 0 y1 (by omega) (by rw [ef0]; exact (fa_upd_same h1.2.1.2.2.2.1).symm) (by rw [ef0]; exact h1.2.2.2.1.2) (fun d => by rw [if_neg (by omega), h1.2.2.1.2.2.2.2.2.2]) (fun r _ _ => rfl)
    · have e : cShift x N k (nI j) = cPut x k (nI j) := if_neg h34
      rw [e]
      have fin : mQ none (mCome N C (t + 1) (cPut x k (nI j)) y) x0 o (.inl none) (wW x0 (mPut y k (nI j)) o) := mQ.mk ⟨⟨q, h1⟩, hy1⟩
      refine xWp.gb rfl trivial rfl (fun _ => ?_) (fun _ => ?_)
      · exact xWp.gf rfl trivial rfl trivial fin
      · refine xWp.gb rfl trivial rfl (fun h3 => ?_) (fun _ => ?_)
        · refine xWp.gb rfl trivial rfl (fun _ => ?_) (fun h4 => ?_)
          · exact xWp.gf rfl trivial rfl trivial fin
          · exact absurd ⟨ehd.symm.trans h3, h4⟩ h34
        · exact xWp.gf rfl trivial rfl trivial fin
  exact start _ (by rw [hcol])
end CO
