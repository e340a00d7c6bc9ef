/-! what each change of the class's state asks of the law's rows -/
section LOp
variable {x x2 : xX} {y z : lY} {N C : Nat} {q od : List Nat} {t : Nat}
theorem LR.chg (h : LR N C q od t x y) (hi : cInv N C q t x2) (x0 : x2.1 0 = x.1 0) (xr : ∀ r, r ≤ 6 → x2.2 r = x.2 r) (za : ∀ a, a ≠ 2 → z a = y a) (zg : ∀ c, c < 12 → z 2 (5 * c) = x2.2 7 c ∧ z 2 (5 * c + 1) = x2.2 10 c ∧ z 2 (5 * c + 2) = bI (bt (x2.1 3) c) ∧ z 2 (5 * c + 3) = x2.2 8 c ∧ z 2 (5 * c + 4) = x2.2 9 c) : LR N C q od t x2 z := by
  obtain ⟨⟨hi0, h10, h12, hrk⟩, ⟨m0, m1, m2, m3, m4⟩, hc, hg, hq, ho⟩ := h
  have e0 := xr 0 (by decide)
  have e1 := xr 1 (by decide)
  have e2 := xr 2 (by decide)
  have e3 := xr 3 (by decide)
  have e4 := xr 4 (by decide)
  have e5 := xr 5 (by decide)
  have e6 := xr 6 (by decide)
  have z0 := za 0 (by decide)
  have z1 := za 1 (by decide)
  have z3 := za 3 (by decide)
  have z4 := za 4 (by decide)
  exact ⟨⟨hi, h10, h12, by rw [e0]; exact hrk⟩, ⟨by rw [z4]; exact m0, by rw [z4]; exact m1, by rw [z4]; exact m2, by rw [z4, x0]; exact m3, fun j h1 h3 => by rw [z4, e6]; exact m4 j h1 h3⟩, fun k hk => by rw [z1, e0, e1, e3, e4, e5]; exact hc k hk, zg, by rw [z3]; exact hq, by rw [z0, e2]; exact ho⟩
theorem rNeedL (h : LR N C q od t x y) {k d : Nat} (hk : k < C) (hd : d < k) : LR N C q od t (cNeed x k d) (yS y 2 (5 * k + 3) (wth (x.2 8 k) d true)) := by
  have hC := h.c
  have hg := h.2.2.2.1
  obtain ⟨g, a, b, ⟨c1, c2, c3⟩⟩ := h.inv
  refine h.chg ⟨g, a, b, ⟨fun c d' hb => ?_, c2, c3⟩⟩ rfl (fun r hr => ?_) (fun a ha => yS_a ha) (fun c hc => ?_)
  · have hb' : bt (upd (x.2 8) k (wth (x.2 8 k) d true) c) d' = true := hb
    by_cases e : c = k
    · subst e
      rw [pk_us, bt_wth (by omega)] at hb'
      split at hb'
      · omega
      · exact c1 _ _ hb'
    · rw [pk_un e] at hb'
      exact c1 _ _ hb'
  · show va_up x.2 8 _ r = x.2 r
    exact if_neg (by omega)
  · obtain ⟨g0, g1, g2, g3, g4⟩ := hg c hc
    refine ⟨by rw [yS_i (by omega)]; exact g0, by rw [yS_i (by omega)]; exact g1, by rw [yS_i (by omega)]; exact g2, ?_, by rw [yS_i (by omega)]; exact g4⟩
    show _ = upd (x.2 8) k (wth (x.2 8 k) d true) c
    by_cases e : c = k
    · subst e; rw [yS_s, pk_us]
    · rw [yS_i (by omega), pk_un e]; exact g3
theorem rBrkL (h : LR N C q od t x y) {k : Nat} (hk : k < C) (b : Bool) : LR N C q od t (cBrk x k b) (yS y 2 (5 * k + 2) (bI b)) := by
  have hC := h.c
  have hg := h.2.2.2.1
  refine h.chg (x2 := cBrk x k b) h.inv rfl (fun r hr => rfl) (fun a ha => yS_a ha) (fun c hc => ?_)
  obtain ⟨g0, g1, g2, g3, g4⟩ := hg c hc
  refine ⟨by rw [yS_i (by omega)]; exact g0, by rw [yS_i (by omega)]; exact g1, ?_, by rw [yS_i (by omega)]; exact g3, by rw [yS_i (by omega)]; exact g4⟩
  show _ = bI (bt (wth (x.1 3) k b) c)
  rw [bt_wth (by omega)]
  by_cases e : c = k
  · subst e; rw [yS_s, if_pos rfl]
  · rw [yS_i (by omega), if_neg e]; exact g2
theorem rClashL (h : LR N C q od t x y) {k d : Nat} (hk : k < C) (hd : d < C) (hkd : k ≠ d) (b : Bool) : LR N C q od t (cClash x k d b) (yS (yS y 2 (5 * k + 4) (wth (x.2 9 k) d b)) 2 (5 * d + 4) (wth (x.2 9 d) k b)) := by
  have hC := h.c
  have hg := h.2.2.2.1
  refine h.chg (x2 := cClash x k d b) h.inv rfl (fun r hr => ?_) (fun a ha => by rw [yS_a ha, yS_a ha]) (fun c hc => ?_)
  · show va_up (va_up x.2 9 _) 9 _ r = x.2 r
    unfold va_up
    rw [if_neg (by omega), if_neg (by omega)]
  · obtain ⟨g0, g1, g2, g3, g4⟩ := hg c hc
    refine ⟨by rw [yS_i (by omega), yS_i (by omega)]; exact g0, by rw [yS_i (by omega), yS_i (by omega)]; exact g1, by rw [yS_i (by omega), yS_i (by omega)]; exact g2, by rw [yS_i (by omega), yS_i (by omega)]; exact g3, ?_⟩
    show _ = upd (upd (x.2 9) k (wth (x.2 9 k) d b)) d (wth (upd (x.2 9) k (wth (x.2 9 k) d b) d) k b) c
    rw [pk_un (f := x.2 9) (k := k) (j := d) (fun z => hkd z.symm)]
    by_cases e : c = d
    · subst e; rw [yS_s, pk_us]
    · rw [yS_i (by omega), pk_un e]
      by_cases e2 : c = k
      · subst e2; rw [yS_s, pk_us]
      · rw [yS_i (by omega), pk_un e2]; exact g4
theorem rStateL (h : LR N C q od t x y) {k s : Nat} (hk : k < C) (h1 : ¬ x.2 10 k = nI 1) (hs : s ≤ 3) (hs1 : s ≠ 1) : LR N C q od t (sA x 10 k (nI s)) (yS y 2 (5 * k + 1) (nI s)) := by
  have hg := h.2.2.2.1
  refine h.chg (iState h.inv hk h1 hs hs1) rfl (fun r hr => ?_) (fun a ha => yS_a ha) (fun c hc => ?_)
  · show va_up x.2 10 _ r = x.2 r
    exact if_neg (by omega)
  · obtain ⟨g0, g1, g2, g3, g4⟩ := hg c hc
    refine ⟨by rw [yS_i (by omega)]; exact g0, ?_, by rw [yS_i (by omega)]; exact g2, by rw [yS_i (by omega)]; exact g3, by rw [yS_i (by omega)]; exact g4⟩
    show _ = upd (x.2 10) k (nI s) c
    by_cases e : c = k
    · subst e; rw [yS_s, pk_us]
    · rw [yS_i (by omega), pk_un e]; exact g1
theorem rMendL (h : LR N C q od t x y) {k : Nat} (hk : k < C) (h3 : x.2 10 k = nI 3) : LR N C q od t (cMend x k) (yS (yS y 2 (5 * k + 1) (nI 0)) 2 (5 * k + 2) (nI 0)) := by
  have h1 := rStateL h hk (s := 0) (by rw [h3]; decide) (by omega) (by omega)
  exact rBrkL h1 hk false
theorem rNameL (h : LR N C q od t x y) {k d : Nat} (hk : k < N) (hd : d < C) (b : Bool) : LR N C q od t (cName x k d b) (yS y 1 (5 * k + 2) (wth (x.2 3 k) d b)) := by
  have hC := h.c
  refine h.setCard (Or.inr (Or.inr ⟨rfl, rfl⟩)) _ ?_
  obtain ⟨g, a, ⟨b1, b2, b3, b4⟩, cc⟩ := h.inv
  refine ⟨g, a, ⟨b1, b2, fun k' c hb => ?_, b4⟩, cc⟩
  have hb' : bt (upd (x.2 3) k (wth (x.2 3 k) d b) k') c = true := hb
  by_cases e : k' = k
  · subst e
    rw [pk_us, bt_wth (by omega)] at hb'
    split at hb'
    · omega
    · exact b3 _ _ hb'
  · rw [pk_un e] at hb'
    exact b3 _ _ hb'
theorem rLimL (h : LR N C q od t x y) {a l : Nat} (ha : 1 ≤ a) (h1 : 1 ≤ l) (h9 : l ≤ 9) : LR N C q od t (sA x 6 a (nI l)) (yS y 4 (3 + a) (nI l)) := by
  have hi := iLim h.inv (a := a) h1 h9
  obtain ⟨⟨-, h10⟩, ⟨m0, m1, m2, m3, m4⟩, hc, hg, hq, ho⟩ := h
  have ya : ∀ b, b ≠ 4 → yS y 4 (3 + a) (nI l) b = y b := fun b hb => yS_a hb
  refine ⟨⟨hi, h10⟩, ⟨by rw [yS_i (by omega)]; exact m0, by rw [yS_i (by omega)]; exact m1, by rw [yS_i (by omega)]; exact m2, ?_, fun j h1 h3 => ?_⟩, by rw [ya 1 (by decide)]; exact hc, by rw [ya 2 (by decide)]; exact hg, by rw [ya 3 (by decide)]; exact hq, by rw [ya 0 (by decide)]; exact ho⟩
  · rw [yS_i (by omega)]; exact m3
  · show _ = upd (x.2 6) a (nI l) j
    by_cases e : j = a
    · subst e; rw [yS_s, pk_us]
    · rw [yS_i (by omega), pk_un e]; exact m4 j h1 h3
theorem cAddInv (h : cInv N C q t x) (hN : N < 20) (ht : t < 1000000) (v : Int32) : cInv (N + 1) C q (t + 1) (cAdd x N v) := by
  obtain ⟨⟨⟨w1, w2, w3, w4, w5, w6⟩, g2, g3, g4⟩, ⟨a1, a2, a3, a4⟩, ⟨b1, b2, b3, b4⟩, cc⟩ := h
  refine ⟨⟨⟨?_, by omega, w3, w4, w5, w6⟩, g2, g3, g4⟩, ⟨?_, by omega, fun k' hk' => ?_, fun i k' hik hk' => ?_⟩, ⟨fun k' => ?_, fun k' hk' => ?_, fun k' c hb => ?_, b4⟩, cc⟩
  · show nI N + nI 1 = nI (N + 1)
    rw [nI_add]
  · show x.1 2 + nI 1 = nI (t + 1)
    rw [a1, nI_add]
  · show ∃ a, a < t + 1 ∧ upd (x.2 2) N (x.1 2) k' = nI a
    by_cases e : k' = N
    · subst e; exact ⟨t, by omega, by rw [pk_us, a1]⟩
    · obtain ⟨a, h1, h2⟩ := a3 k' (by omega)
      exact ⟨a, by omega, by rw [pk_un e, h2]⟩
  · show upd (x.2 2) N (x.1 2) i ≠ upd (x.2 2) N (x.1 2) k'
    by_cases e : k' = N
    · subst e
      rw [pk_us, pk_un (by omega), a1]
      obtain ⟨a, h1, h2⟩ := a3 i (by omega)
      rw [h2]
      intro z
      rw [nI_eq (by omega) (by omega)] at z
      omega
    · rw [pk_un e, pk_un (by omega)]
      exact a4 i k' hik (by omega)
  · show ∃ j', j' ≤ 4 ∧ upd (x.2 1) N (nI 0) k' = nI j'
    by_cases e : k' = N
    · subst e; exact ⟨0, by omega, pk_us⟩
    · rw [pk_un e]; exact b1 k'
  · show upd (x.2 1) N (nI 0) k' = nI 0
    rw [pk_un (by omega)]
    exact b2 k' (by omega)
  · have := b3 k' c hb
    exact ⟨by omega, this.2⟩
theorem rAddL (h : LR N C q od t x y) (hN : N < 10) (ht : t < 1000000) {p : Nat} (hp : p ≤ 9) : LR (N + 1) C q (od ++ [N]) (t + 1) (cAdd x N (nI p)) (yS (yS (yS y 1 (5 * N) (nI p)) 0 N (nI N)) 4 0 (nI N + nI 1)) := by
  have hi := cAddInv h.inv (by omega) ht (nI p)
  have hi0 := h.inv
  have hb2 := h.inv.2.2.1.2.1 N (Nat.le_refl _)
  obtain ⟨⟨-, h10, h12, hrk⟩, ⟨m0, m1, m2, m3, m4⟩, hc, hg, hq, ho0, ho1, ho2, ho3, ho4⟩ := h
  have y4 : ∀ i, i ≠ 0 → yS (yS (yS y 1 (5 * N) (nI p)) 0 N (nI N)) 4 0 (nI N + nI 1) 4 i = y 4 i := fun i hi => by rw [yS_i hi, yS_a (by decide), yS_a (by decide)]
  have y1 : ∀ i, i ≠ 5 * N → yS (yS (yS y 1 (5 * N) (nI p)) 0 N (nI N)) 4 0 (nI N + nI 1) 1 i = y 1 i := fun i hi => by rw [yS_a (by decide), yS_a (by decide), yS_i hi]
  refine ⟨⟨hi, by omega, h12, fun k => ?_⟩, ⟨by rw [yS_s, nI_add], by rw [y4 1 (by decide)]; exact m1, by rw [y4 2 (by decide)]; exact m2, by rw [y4 3 (by decide)]; exact m3, fun j h1 h3 => by rw [y4 _ (by omega)]; exact m4 j h1 h3⟩, fun k hk => ?_, fun c hc => by rw [yS_a (by decide), yS_a (by decide), yS_a (by decide)]; exact hg c hc, fun i v hv => by rw [yS_a (by decide), yS_a (by decide), yS_a (by decide)]; exact hq i v hv, fun i v hv => ?_, ?_, fun k => ?_, by rw [List.length_append, ho3]; rfl, ?_⟩
  · show ∃ p', p' ≤ 9 ∧ upd (x.2 0) N (nI p) k = nI p'
    by_cases e : k = N
    · subst e; exact ⟨p, hp, pk_us⟩
    · rw [pk_un e]; exact hrk k
  · obtain ⟨g0, g1, g2, g3, g4⟩ := hc k hk
    refine ⟨?_, ?_, by rw [y1 _ (by omega)]; exact g2, by rw [y1 _ (by omega)]; exact g3, by rw [y1 _ (by omega)]; exact g4⟩
    · show _ = upd (x.2 0) N (nI p) k
      by_cases e : k = N
      · subst e; rw [yS_a (by decide), yS_a (by decide), yS_s, pk_us]
      · rw [y1 _ (by omega), pk_un e]; exact g0
    · show _ = upd (x.2 1) N (nI 0) k
      rw [y1 _ (by omega), fa_upd_same hb2]
      exact g1
  · rw [yS_a (by decide)]
    rcases Nat.lt_or_ge i od.length with hi2 | hi2
    · rw [List.getElem?_append_left hi2] at hv
      rw [yS_i (by omega), yS_a (by decide)]
      exact ho0 i v hv
    · rw [List.getElem?_append_right hi2] at hv
      have h1 : i - od.length < 1 := (List.getElem?_eq_some_iff.mp hv).1
      have ei : i = N := by omega
      rw [ei, ho3, Nat.sub_self] at hv
      have : N = v := by simpa using hv
      rw [ei, yS_s, this]
  · rw [List.nodup_append]
    refine ⟨ho1, by simp, fun a ha b hb e => ?_⟩
    have hb' : b = N := by simpa using hb
    have := (ho2 a).mp ha
    omega
  · rw [List.mem_append, List.mem_singleton, ho2]
    omega
  · show (od ++ [N]).Pairwise (fun a b => upd (x.2 2) N (x.1 2) a < upd (x.2 2) N (x.1 2) b)
    rw [List.pairwise_append]
    refine ⟨List.Pairwise.imp_of_mem (fun {a b} ha hb hab => ?_) ho4, List.pairwise_singleton _ _, fun a ha b hb => ?_⟩
    · have h1 := (ho2 a).mp ha
      have h2 := (ho2 b).mp hb
      rw [pk_un (by omega), pk_un (by omega)]
      exact hab
    · have hb' : b = N := by simpa using hb
      have h1 := (ho2 a).mp ha
      subst hb'
      rw [pk_us, pk_un (by omega), hi0.2.1.1]
      obtain ⟨a', h3, h4⟩ := hi0.2.1.2.2.1 a h1
      rw [h4]
      exact nI_ltN (by omega) h3
theorem cChgInv (h : cInv N C q t x) (hC : C < 30) (v : Int32) : cInv N (C + 1) q t (cChg x C v) := by
  obtain ⟨⟨⟨w1, w2, w3, w4, w5, w6⟩, g2, g3, g4⟩, a, ⟨b1, b2, b3, b4⟩, ⟨c1, c2, c3⟩⟩ := h
  refine ⟨⟨⟨w1, w2, rfl, by omega, w5, w6⟩, g2, g3, fun c => ?_⟩, a, ⟨b1, b2, fun k c hb => ?_, b4⟩, ⟨fun c d hb => ?_, fun c => ?_, fun c hc => ?_⟩⟩
  · show c ∈ q ↔ c < C + 1 ∧ upd (x.2 10) C (nI 0) c = nI 1
    rw [g4, fa_upd_same (c3 C (Nat.le_refl _))]
    constructor
    · exact fun z => ⟨by omega, z.2⟩
    · rintro ⟨z1, z2⟩
      refine ⟨?_, z2⟩
      rcases Nat.lt_or_ge c C with e | e
      · exact e
      · rw [c3 c e] at z2
        exact absurd z2 (by decide)
  · have := b3 k c hb
    exact ⟨this.1, by omega⟩
  · have := c1 c d hb
    exact ⟨by omega, this.2⟩
  · show ∃ s, s ≤ 3 ∧ upd (x.2 10) C (nI 0) c = nI s
    rw [fa_upd_same (c3 C (Nat.le_refl _))]
    exact c2 c
  · show upd (x.2 10) C (nI 0) c = nI 0
    rw [fa_upd_same (c3 C (Nat.le_refl _))]
    exact c3 c (by omega)
theorem rChgL (h : LR N C q od t x y) (hC : C < 12) (v : Int32) : LR N (C + 1) q od t (cChg x C v) (yS (yS y 2 (5 * C) v) 4 1 (nI C + nI 1)) := by
  have hi := cChgInv h.inv (by omega) v
  have c3 := h.inv.2.2.2.2.2 C (Nat.le_refl _)
  obtain ⟨⟨-, h10, h12, hrk⟩, ⟨m0, m1, m2, m3, m4⟩, hc, hg, hq, ho⟩ := h
  have y4 : ∀ i, i ≠ 1 → yS (yS y 2 (5 * C) v) 4 1 (nI C + nI 1) 4 i = y 4 i := fun i hi => by rw [yS_i hi, yS_a (by decide)]
  have ya : ∀ a, a ≠ 4 → a ≠ 2 → yS (yS y 2 (5 * C) v) 4 1 (nI C + nI 1) a = y a := fun a h4 h2 => by rw [yS_a h4, yS_a h2]
  refine ⟨⟨hi, h10, by omega, hrk⟩, ⟨by rw [y4 0 (by decide)]; exact m0, by rw [yS_s, nI_add], by rw [y4 2 (by decide)]; exact m2, by rw [y4 3 (by decide)]; exact m3, fun j h1 h3 => by rw [y4 _ (by omega)]; exact m4 j h1 h3⟩, by rw [ya 1 (by decide) (by decide)]; exact hc, fun c hc => ?_, by rw [ya 3 (by decide) (by decide)]; exact hq, by rw [ya 0 (by decide) (by decide)]; exact ho⟩
  obtain ⟨g0, g1, g2, g3, g4⟩ := hg c hc
  rw [yS_a (by decide)]
  refine ⟨?_, ?_, by rw [yS_i (by omega)]; exact g2, by rw [yS_i (by omega)]; exact g3, by rw [yS_i (by omega)]; exact g4⟩
  · show _ = upd (x.2 7) C v c
    by_cases e : c = C
    · subst e; rw [yS_s, pk_us]
    · rw [yS_i (by omega), pk_un e]; exact g0
  · show _ = upd (x.2 10) C (nI 0) c
    rw [yS_i (by omega), fa_upd_same c3]
    exact g1
end LOp
