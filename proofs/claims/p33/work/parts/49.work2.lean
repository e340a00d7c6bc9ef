/-! the law merges a row on a copy: parts in halves, and one by one -/
section LKx
variable {sc : Option (Nat × (Nat → Int32))} {x xc : xX} {y : lY} {N C : Nat} {q od : List Nat} {t : Nat}
theorem d16 {f l : Nat} (hf : f ≤ 100) (hl : l < 16) : nI (16 * f + l) / xk 16 0 = nI f := by
  show nI (16 * f + l) / nI 16 = nI f
  rw [pk_div (by omega) (by omega) (by omega)]
  congr 1; omega
theorem r16 {f l : Nat} (hf : f ≤ 100) (hl : l < 16) : nI (16 * f + l) - nI (16 * f + l) / xk 16 0 * xk 16 0 = nI l := by
  show nI (16 * f + l) - nI (16 * f + l) / nI 16 * nI 16 = nI l
  rw [pk_rem (by omega) (by omega) (by omega)]
  congr 1; omega
theorem lwd2 {l : Nat} (hl : l ≤ 100) : nI l / xk 2 0 = nI (l / 2) := pk_div (by omega) (by omega) (by omega)
set_option maxHeartbeats 16000000 in
/-- one part is tried: then what is done where it passes, and where not -/
theorem l_workOne (n : Nat) (h : LR N C q od t x y) {f l L : Nat} (h1 : 1 ≤ l) (h8 : l ≤ 8) (hl : f + l ≤ q.length) (hL : L < 16) (s : Int32 × Int32 × Int32) (len sg z8 z9 z10 z11 z12 z13 : Option Value) (F p : Nat → Int32) (hF : F3 F s) (hp : p L = nI (16 * f + l)) {Pq : xR → xW → Prop}
    (kp : cPass x s.1 f l = true → ∀ F' z8 z9 z10 z11 z12 z13, F3 F' (s.1 ||| cRow x f l, s.2.1 + nI 1, s.2.2 + (nI 5 + cWt x f l)) → xAt sc k_L_work n Pq (101, wkL len sg (some (.int (nI L))) z8 z9 z10 z11 z12 z13, [], wK xc y F' p, 3))
    (kn : cPass x s.1 f l = false → ∀ F' z10 z11 z12 z13, F3 F' (s.1, s.2.1 + nI 1, s.2.2 + (nI 5 + cWt x f l)) → xAt sc k_L_work n Pq (268, wkL len sg (some (.int (nI L))) (some (.int (nI f))) (some (.int (nI l))) z10 z11 z12 z13, [], wK xc y F' p, 3)) :
    xAt sc k_L_work n Pq (101, wkL len sg (some (.int (nI (L + 1)))) z8 z9 z10 z11 z12 z13, [], wK xc y F p, 3) := by
  have hq := h.q12
  obtain ⟨F0, F1, F2⟩ := hF
  have gL : vp_in (nI (L + 1) + xk 1 1) 16 := by rw [nI_dec]; exact in_nI hL (by omega)
  have n16 : ¬ xk 16 0 = 0 := by decide
  have eP : p (nI (L + 1) + xk 1 1).toNatClampNeg = nI (16 * f + l) := by rw [nI_dec, cl_nI (by omega)]; exact hp
  have eD : p (nI (L + 1) + xk 1 1).toNatClampNeg / xk 16 0 = nI f := by rw [eP]; exact d16 (by omega) (by omega)
  have eR : p (nI (L + 1) + xk 1 1).toNatClampNeg - p (nI (L + 1) + xk 1 1).toNatClampNeg / xk 16 0 * xk 16 0 = nI l := by rw [eP]; exact r16 (by omega) (by omega)
  refine xWp.gb rfl trivial rfl (fun h9 => ?_) (fun _ => ?_)
  · have h9' : nI (L + 1) ≤ nI 0 := h9
    rw [le_nI (by omega) (by omega)] at h9'; omega
  refine xWp.go 155 rfl ⟨gL, n16, gL, n16, inx (by omega) (by omega), inx (by omega) (by omega), inx (by omega) (by omega), inx (by omega) (by omega), inx (by omega) (by omega), trivial⟩ ?_
  dsimp only
  rw [eR, eD, nI_dec]
  have key := l_workIn (xc := xc) (sc := sc) n h hl s.1 (s.2.1 + nI 1) (s.2.2 + nI 5) len sg (some (.int (nI L))) p (Pq := Pq) (fun F' at9 g0 g1 g2 => ?_) l 0 (upd (upd F 1 (F 1 + nI 1)) 2 (F 2 + nI 5)) z13 (by omega) (by rw [pk_un (by decide), pk_un (by decide)]; exact F0) (by rw [pk_un (by decide), pk_us, F1]) (by rw [pk_us, F2]; exact (Int32.add_zero _).symm)
  · have ec : s.1 ||| cRow x f 0 = s.1 := b_ext (fun i _ => by
      rw [b_or]
      show (bt s.1 i || bt (nI 0) i) = bt s.1 i
      rw [nI_0, b_0, Bool.or_false])
    rw [ec, Nat.add_zero] at key
    have eF : F (xk 0 0).toNatClampNeg = s.1 := F0
    rw [eF]
    exact key
  · have g2' : F' 2 = s.2.2 + (nI 5 + cWt x f l) := by rw [g2, Int32.add_assoc]
    cases hc : cPass x s.1 f l
    · refine xWp.gb rfl trivial rfl (fun _ => ?_) (fun h9 => absurd rfl h9)
      refine xWp.gb rfl ⟨inx (by omega) (by omega), inx (by omega) (by omega), trivial⟩ rfl (fun _ => ?_) (fun h9 => absurd rfl h9)
      exact kn hc (upd F' 0 (F' 0)) _ _ _ _ ⟨by rw [pk_us]; exact g0, by rw [pk_un (by decide)]; exact g1, by rw [pk_un (by decide)]; exact g2'⟩
    · refine xWp.gb rfl trivial rfl (fun h9 => absurd h9 (by decide)) (fun _ => ?_)
      refine xWp.gb rfl ⟨inx (by omega) (by omega), trivial⟩ rfl (fun h9 => absurd h9 (by decide)) (fun _ => ?_)
      refine xWp.go 101 rfl trivial ?_
      exact kp hc (upd F' 0 (s.1 ||| cRow x f l)) _ _ _ _ _ _ ⟨by rw [pk_us], by rw [pk_un (by decide)]; exact g1, by rw [pk_un (by decide)]; exact g2'⟩
set_option maxHeartbeats 16000000 in
/-- a part and all that comes of it -/
theorem l_workTry (n : Nat) (h : LR N C q od t x y) (len sg : Option Value) {Pq : xR → xW → Prop} : ∀ (lv f l L : Nat) (s : Int32 × Int32 × Int32) (z8 z9 z10 z11 z12 z13 : Option Value) (F p : Nat → Int32), 1 ≤ l → l ≤ 8 → l ≤ 2 ^ lv → f + l ≤ q.length → L + lv < 16 → F3 F s → p L = nI (16 * f + l) →
    (∀ F' p' z8 z9 z10 z11 z12 z13, F3 F' (cTry x (lv + 1) s f l) → (∀ i, i < L → p' i = p i) → xAt sc k_L_work n Pq (101, wkL len sg (some (.int (nI L))) z8 z9 z10 z11 z12 z13, [], wK xc y F' p', 3)) →
    xAt sc k_L_work n Pq (101, wkL len sg (some (.int (nI (L + 1)))) z8 z9 z10 z11 z12 z13, [], wK xc y F p, 3)
  | lv, f, l, L, s, z8, z9, z10, z11, z12, z13, F, p, h1, h8, hlv, hl, hL, hF, hp, hK => by
    have hq := h.q12
    refine l_workOne n h h1 h8 hl (by omega) s len sg z8 z9 z10 z11 z12 z13 F p hF hp (fun hc F' y8 y9 y10 y11 y12 y13 hF' => ?_) (fun hc F' y10 y11 y12 y13 hF' => ?_)
    · refine hK F' p _ _ _ _ _ _ ?_ (fun _ _ => rfl)
      rw [cTry, hc]; exact hF'
    · by_cases hl1 : 1 < l
      · cases lv with
        | zero => exfalso; have : l ≤ 1 := hlv; omega
        | succ lv =>
          rw [cTry_two hc hl1] at hK
          have e2 : l - l / 2 = (l + 1) / 2 := by omega
          have e3 : l / 2 = l - (l + 1) / 2 := by omega
          have hlv2 : l ≤ 2 * 2 ^ lv := by rw [Nat.pow_succ] at hlv; omega
          obtain ⟨p2, hp2⟩ : ∃ p2, p2 = upd (upd p L (nI (16 * (f + (l + 1) / 2) + (l - (l + 1) / 2)))) (L + 1) (nI (16 * f + (l + 1) / 2)) := ⟨_, rfl⟩
          have step := l_workTry n h len sg (Pq := Pq) lv f ((l + 1) / 2) (L + 1) (s.1, s.2.1 + nI 1, s.2.2 + (nI 5 + cWt x f l)) (some (.int (nI f))) (some (.int (nI l))) y10 y11 y12 y13 F' p2 (by omega) (by omega) (by omega) (by omega) (by omega) hF' (by rw [hp2, pk_us]) (fun F2 p3 z8 z9 z10 z11 z12 z13 hF2 hp3 => ?_)
          · have i1 : (nI L).toNatClampNeg = L := cl_nI (by omega)
            have i2 : (nI L + xk 1 0).toNatClampNeg = L + 1 := by rw [nI_xk]; exact cl_nI (by omega)
            have v1 : xk 16 0 * (nI f + nI l - nI l / xk 2 0) + nI l / xk 2 0 = nI (16 * (f + (l + 1) / 2) + (l - (l + 1) / 2)) := by
              rw [lwd2 (by omega), nI_add, pk_sub (by omega)]
              show nI 16 * _ + _ = _
              rw [nI_mul, nI_add]
              congr 1; omega
            have v2 : xk 16 0 * nI f + nI l - nI l / xk 2 0 = nI (16 * f + (l + 1) / 2) := by
              rw [lwd2 (by omega)]
              show nI 16 * _ + _ - _ = _
              rw [nI_mul, nI_add, pk_sub (by omega)]
              congr 1; omega
            rw [hp2, ← v1, ← v2] at step
            have step2 : xAt sc k_L_work n Pq (101, wkL len sg (some (.int (nI L + xk 2 0))) (some (.int (nI f))) (some (.int (nI l))) y10 y11 y12 y13, [], wK xc y F' (upd (upd p (nI L).toNatClampNeg (xk 16 0 * (nI f + nI l - nI l / xk 2 0) + nI l / xk 2 0)) (nI L + xk 1 0).toNatClampNeg (xk 16 0 * nI f + nI l - nI l / xk 2 0)), 3) := by
              rw [nI_xk, i1, i2]
              exact step
            have n2 : ¬ xk 2 0 = 0 := by decide
            refine xWp.gb rfl trivial rfl (fun h9 => ?_) (fun _ => ?_)
            · have h9' : nI l ≤ nI 1 := h9
              rw [le_nI (by omega) (by omega)] at h9'; omega
            exact xWp.go 101 rfl ⟨n2, n2, in_nI (by omega) (by omega), n2, inP (by omega) (by omega), trivial⟩ step2
          · refine l_workTry n h len sg (Pq := Pq) lv (f + (l + 1) / 2) (l - (l + 1) / 2) L _ z8 z9 z10 z11 z12 z13 F2 p3 (by omega) (by omega) (by omega) (by omega) (by omega) hF2 (by rw [hp3 L (by omega), hp2, pk_un (by omega), pk_us]) (fun F4 p4 y8 y9 y10 y11 y12 y13 hF4 hp4 => ?_)
            refine hK F4 p4 _ _ _ _ _ _ hF4 (fun i hi => ?_)
            rw [hp4 i hi, hp3 i (by omega), hp2, pk_un (by omega), pk_un (by omega)]
      · refine xWp.gb rfl trivial rfl (fun _ => ?_) (fun h9 => ?_)
        · refine xWp.go 101 rfl trivial ?_
          refine hK F' p _ _ _ _ _ _ ?_ (fun _ _ => rfl)
          rw [cTry, hc]
          simp only [show decide (1 < l) = false by simpa using hl1]
          exact hF'
        · have h9' : ¬ nI l ≤ nI 1 := h9
          rw [le_nI (by omega) (by omega)] at h9'; omega
/-- what a row that is tried leaves -/
def lWk (xc : xX) (y : lY) (s : Int32 × Int32 × Int32) : xX → lY → xW → Prop := fun x1 y1 r1 => x1 = xc ∧ y1 = y ∧ ∃ F : Nat → Int32, r1 = [.inl (0, 3, .inl F)] ∧ F3 F s
set_option maxHeartbeats 16000000 in
theorem l_workEnd (n : Nat) (len sg z8 z9 z10 z11 z12 z13 : Option Value) (F p : Nat → Int32) {s : Int32 × Int32 × Int32} (hF : F3 F s) : xAt sc k_L_work n (lQ none (lWk xc y s)) (101, wkL len sg (some (.int (nI 0))) z8 z9 z10 z11 z12 z13, [], wK xc y F p, 3) := by
  refine xWp.gb rfl trivial rfl (fun _ => ?_) (fun h9 => absurd (by decide) h9)
  exact xWp.gf rfl trivial rfl trivial (lQ.mk (x' := xc) (y' := y) (r' := [.inl (0, 3, .inl F)]) ⟨rfl, rfl, F, rfl, hF⟩)
def iiN (c : Nat) : Int32 := match c with
  | 0 => xk 1 1
  | c + 1 => nI c
theorem iiN_s (c : Nat) : iiN (c + 1) + xk 1 1 = iiN c := by
  cases c with
  | zero => decide
  | succ c => exact nI_dec c
set_option maxHeartbeats 16000000 in
theorem l_workOnes (n : Nat) (h : LR N C q od t x y) (len sg : Option Value) {l : Nat} (hl : l ≤ q.length) : ∀ (m b : Nat) (z8 z9 z10 z11 z12 z13 : Option Value) (F p : Nat → Int32), b + m = l → F3 F (cFO x C b) → (∀ i, b ≤ i → i < l → p (l - (i + 1)) = nI (16 * i + 1)) →
    xAt sc k_L_work n (lQ none (lWk xc y (cFO x C l))) (101, wkL len sg (some (.int (nI m))) z8 z9 z10 z11 z12 z13, [], wK xc y F p, 3)
  | 0, b, z8, z9, z10, z11, z12, z13, F, p, hm, hF, hp => by
    have e : b = l := by omega
    subst e
    exact l_workEnd n len sg z8 z9 z10 z11 z12 z13 F p hF
  | m + 1, b, z8, z9, z10, z11, z12, z13, F, p, hm, hF, hp => by
    have hq := h.q12
    refine l_workTry n h len sg 0 b 1 m (cFO x C b) z8 z9 z10 z11 z12 z13 F p (by omega) (by omega) (by decide) (by omega) (by omega) hF (by have := hp b (by omega) (by omega); rwa [show l - (b + 1) = m by omega] at this) (fun F2 p2 y8 y9 y10 y11 y12 y13 hF2 hp2 => ?_)
    exact l_workOnes n h len sg hl m (b + 1) y8 y9 y10 y11 y12 y13 F2 p2 (by omega) hF2 (fun i h1 h2 => by rw [hp2 _ (by omega)]; exact hp i (by omega) h2)
set_option maxHeartbeats 16000000 in
theorem l_workFill1 (n : Nat) (F : Nat → Int32) {l : Nat} (hl : l ≤ 8) {Pq : xR → xW → Prop} (hP : ∀ p z8, (∀ i, i < l → p (l - (i + 1)) = nI (16 * i + 1)) → xAt sc k_L_work n Pq (70, wkL (some (.int (nI l))) (some (.int (nI 1))) (some (.int (nI l))) z8 none none none none none, [], wK xc y F p, 3)) :
    ∀ (c : Nat) (p : Nat → Int32), c ≤ l → (∀ i, c ≤ i → i < l → p (l - (i + 1)) = nI (16 * i + 1)) → xAt sc k_L_work n Pq (32, wkL (some (.int (nI l))) (some (.int (nI 1))) (some (.int (nI (l - c)))) (some (.int (iiN c))) none none none none none, [], wK xc y F p, 3)
  | 0, p, hc, hp => by
    refine xWp.gb rfl trivial rfl (fun _ => ?_) (fun h9 => absurd (show xk 1 1 < 0 by decide) h9)
    exact hP p _ (fun i hi => hp i (by omega) hi)
  | c + 1, p, hc, hp => by
    refine xWp.gb rfl trivial rfl (fun h9 => absurd h9 (n0_nI (a := c) (by omega))) (fun _ => ?_)
    refine xWp.gb rfl ⟨in_nI (by omega) (by omega), trivial⟩ rfl (fun h9 => absurd h9 (by decide)) (fun _ => ?_)
    have ev : xk 16 0 * nI c + xk 1 0 = nI (16 * c + 1) := by
      show nI 16 * nI c + nI 1 = _
      rw [nI_mul, nI_add]
    have ih := l_workFill1 n F hl hP c (upd p (l - (c + 1)) (nI (16 * c + 1))) (by omega) (fun i h1 h2 => by
      by_cases e : i = c
      · subst e; rw [pk_us]
      · rw [pk_un (by omega)]; exact hp i (by omega) h2)
    have ei : (nI (l - (c + 1))).toNatClampNeg = l - (c + 1) := cl_nI (by omega)
    rw [← ev, show l - c = (l - (c + 1)) + 1 by omega, nI_s (l - (c + 1)), ← iiN_s c] at ih
    refine xWp.go 32 rfl trivial ?_
    dsimp only
    rw [ei]
    exact ih
set_option maxHeartbeats 16000000 in
theorem l_workFill0 (n : Nat) (F : Nat → Int32) {l : Nat} (hl : l ≤ 8) {Pq : xR → xW → Prop} (hP : ∀ p z8, xAt sc k_L_work n Pq (70, wkL (some (.int (nI l))) (some (.int (nI 0))) (some (.int (nI 0))) z8 none none none none none, [], wK xc y F p, 3)) :
    ∀ (c : Nat) (p : Nat → Int32), c ≤ l → xAt sc k_L_work n Pq (32, wkL (some (.int (nI l))) (some (.int (nI 0))) (some (.int (nI 0))) (some (.int (iiN c))) none none none none none, [], wK xc y F p, 3)
  | 0, p, hc => by
    refine xWp.gb rfl trivial rfl (fun _ => ?_) (fun h9 => absurd (show xk 1 1 < 0 by decide) h9)
    exact hP p _
  | c + 1, p, hc => by
    refine xWp.gb rfl trivial rfl (fun h9 => absurd h9 (n0_nI (a := c) (by omega))) (fun _ => ?_)
    refine xWp.gb rfl ⟨inx (i := 0) (by omega) (by omega), trivial⟩ rfl (fun _ => ?_) (fun h9 => absurd rfl h9)
    have ih := l_workFill0 n F hl hP c (upd p (nI 0).toNatClampNeg (xk 16 0 * nI c + xk 1 0)) (by omega)
    rw [← iiN_s c] at ih
    exact xWp.go 32 rfl trivial ih
set_option maxHeartbeats 16000000 in
theorem l_work (n : Nat) (h : LR N C q od t x y) {l : Nat} (h1 : 1 ≤ l) (h8 : l ≤ 8) (hl : l ≤ q.length) (sg : Bool) (F : Nat → Int32) : xCW sc (n + 2) k_L_work [.ref 17, .ref 18, .ref 19, .ref 20, .int (nI l), .int (bI sg)] (wY xc y [.inl (0, 3, .inl F)]) (lQ none (lWk xc y (match sg with | true => cFO x C l | false => cFR x C l))) := by
  have hq := h.q12
  obtain ⟨l', rfl⟩ : ∃ l', l = l' + 1 := ⟨l - 1, by omega⟩
  obtain ⟨G, hG⟩ : ∃ G : Nat → Int32, G = upd (upd (upd F 0 (cAll x C (nI 2))) 1 (nI 0)) 2 (nI 0) := ⟨_, rfl⟩
  have hG3 : F3 G (cT0 x C) := by rw [hG]; exact ⟨by rw [pk_un (by decide), pk_un (by decide), pk_us]; rfl, by rw [pk_un (by decide), pk_us]; rfl, by rw [pk_us]; rfl⟩
  refine xWp.gc rfl ⟨⟨rfl, by decide⟩, trivial⟩ rfl (l_withStateR n h (nI 2)) (by decide) ?_
  cases sg
  · have fill := l_workFill0 (sc := sc) (xc := xc) (y := y) (n + 1) G (l := l' + 1) h8 (Pq := lQ none (lWk xc y (cFR x C (l' + 1)))) (fun p z8 => ?_) (l' + 1) (fun _ => 0) (Nat.le_refl _)
    · rw [hG] at fill
      refine xWp.go 32 rfl ⟨inx (by omega) (by omega), inx (by omega) (by omega), inx (by omega) (by omega), trivial⟩ ?_
      dsimp only
      rw [nI_pre l']
      exact fill
    · refine xWp.gb rfl trivial rfl (fun _ => ?_) (fun h9 => absurd rfl h9)
      refine xWp.gb rfl ⟨inx (by omega) (by omega), trivial⟩ rfl (fun _ => ?_) (fun h9 => absurd rfl h9)
      refine xWp.go 101 rfl trivial ?_
      exact l_workTry (n + 1) h (some (.int (nI (l' + 1)))) (some (.int (nI 0))) 3 0 (l' + 1) 0 (cT0 x C) z8 none none none none none G (upd p (xk 0 0).toNatClampNeg (nI (l' + 1))) h1 h8 (by omega) (by omega) (by omega) hG3 (by show upd p 0 (nI (l' + 1)) 0 = _; rw [pk_us]; congr 1; omega) (fun F2 p2 y8 y9 y10 y11 y12 y13 hF2 hp2 => l_workEnd (n + 1) _ _ y8 y9 y10 y11 y12 y13 F2 p2 hF2)
  · have fill := l_workFill1 (sc := sc) (xc := xc) (y := y) (n + 1) G (l := l' + 1) h8 (Pq := lQ none (lWk xc y (cFO x C (l' + 1)))) (fun p z8 hp => ?_) (l' + 1) (fun _ => 0) (Nat.le_refl _) (fun i h1 h2 => by omega)
    · rw [hG, Nat.sub_self] at fill
      refine xWp.go 32 rfl ⟨inx (by omega) (by omega), inx (by omega) (by omega), inx (by omega) (by omega), trivial⟩ ?_
      dsimp only
      rw [nI_pre l']
      exact fill
    · refine xWp.gb rfl trivial rfl (fun h9 => absurd h9 (by decide)) (fun _ => ?_)
      refine xWp.gb rfl ⟨inx (by omega) (by omega), inx (by omega) (by omega), trivial⟩ rfl (fun h9 => absurd h9 (by decide)) (fun _ => ?_)
      refine xWp.go 101 rfl trivial ?_
      refine l_workOnes (n + 1) h (some (.int (nI (l' + 1)))) (some (.int (nI 1))) hl (l' + 1) 0 z8 none none none none none G (upd p (xk 0 0).toNatClampNeg (p (xk 0 0).toNatClampNeg)) (by omega) hG3 (fun i h1 h2 => ?_)
      have e : upd p (xk 0 0).toNatClampNeg (p (xk 0 0).toNatClampNeg) = p := funext fun i => by
        by_cases e : i = (xk 0 0).toNatClampNeg
        · rw [← e, pk_us]
        · rw [pk_un e]
      rw [e]
      exact hp i h2
/-- what of a row passed, as places -/
theorem sshl {b : Bool} (j : Nat) (hj : j < 32) : bI b <<< (nI j &&& 31) = match b with | true => bitI j | false => 0 := by
  cases b
  · exact b_ext (fun i hi => by
      rw [b_shl j hj _ hi, b_0]
      show (decide (j ≤ i) && bt (nI 0) (i - j)) = false
      rw [nI_0, b_0, Bool.and_false])
  · rfl
set_option maxHeartbeats 8000000 in
theorem l_passed (n : Nat) (h : LR N C q od t x y) {l : Nat} (hl : l ≤ q.length) {F : Nat → Int32} {s : Int32 × Int32 × Int32} (hF : F3 F s) : xCW sc (n + 1) k_L_passed [.ref 18, .ref 20, .int (nI l)] (wY xc y [.inl (0, 3, .inl F)]) (xIs (.inl (some (.int (cPP x s.1 l)))) (wY xc y [.inl (0, 3, .inl F)])) := by
  have hq := h.q12
  have hC := h.c
  refine xWp.go 5 rfl trivial ?_
  refine xWp.loop l (fun j => (5, [some (.ref 18), some (.ref 20), some (.int (nI l)), some (.int (cPP x s.1 j)), some (.int (nI j))], [], wY xc y [.inl (0, 3, .inl F)], 0)) (fun j hj ih => ?_) ?_
  · obtain ⟨eq1, eq2⟩ := h.qc (i := j) (by omega)
    have ez : y 3 (nI j).toNatClampNeg = nI (cq x j) := by rw [cl_nI (by omega)]; exact eq1
    refine xWp.gb rfl trivial rfl (fun h9 => ?_) (fun _ => ?_)
    · have h' : nI l ≤ nI j := h9
      rw [le_nI (by omega) (by omega)] at h'; omega
    have es : cPP x s.1 (j + 1) = cPP x s.1 j ||| (F (xk 0 0).toNatClampNeg >>> (y 3 (nI j).toNatClampNeg &&& 31) &&& xk 1 0) <<< (nI j &&& 31) := by
      have e0 : F (xk 0 0).toNatClampNeg = s.1 := hF.1
      have e1 : s.1 >>> (nI (cq x j) &&& 31) &&& xk 1 0 = bI (bt s.1 (cq x j)) := sbit (by omega) _
      rw [e0, ez, e1, sshl j (by omega)]
      cases hb : bt s.1 (cq x j)
      · have : cPP x s.1 (j + 1) = cPP x s.1 j := orIf_f hb
        rw [this]
        exact (i32_or0 _).symm
      · exact orIf_t hb
    rw [es, nI_s j] at ih
    exact xWp.go 5 rfl ⟨inx (by omega) (by omega), in_nI (by omega) (by omega), trivial⟩ ih
  · refine xWp.gb rfl trivial rfl (fun _ => ?_) (fun h9 => ?_)
    · exact xWp.gf rfl trivial rfl (Or.inl rfl) ⟨rfl, rfl⟩
    · have h' : ¬ nI l ≤ nI l := h9
      rw [le_nI (by omega) (by omega)] at h'; omega
end LKx
