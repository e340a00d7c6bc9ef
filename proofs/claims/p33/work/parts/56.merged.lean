/-! the law merges -/
section LMg
variable {sc : Option (Nat × (Nat → Int32))} {x xc : xX} {y : lY} {N C : Nat} {q od : List Nat} {t : Nat}
/-- what an act leaves -/
def lAct (T : Nat) : xX → lY → xW → Prop := fun x1 y1 r1 => r1 = [] ∧ ∃ N' C' q' od' t', t' ≤ T ∧ LR N' C' q' od' t' x1 y1
abbrev wF (xc : xX) (y : lY) (F : Nat → Int32) : xW := wY xc y [.inl (0, 3, .inl F)]
def imL (z len a9 a10 a11 : Option Value) : xL := [some (.ref 0), some (.ref 15), some (.ref 16), some (.ref 17), some (.ref 18), some (.ref 19), z, some (.ref 20), len, a9, a10, a11]
theorem rMg0L (h : LR N C q od t x y) {l : Nat} (hl : l ≤ q.length) {z : lY} (z0 : z 0 = y 0) (z1 : z 1 = y 1) (z4 : ∀ i, i ≠ 2 → i ≠ 3 → z 4 i = y 4 i) (z42 : z 4 2 = nI (q.length - l)) (z43 : z 4 3 = y 4 3 + (cFR x C l).2.2) (zs : ∀ c, c < 12 → z 2 (5 * c + 1) = if c ∈ q.take l then (if bt (cFR x C l).1 c then nI 2 else nI 3) else x.2 10 c) (zg : ∀ c i, c < 12 → i ≤ 4 → i ≠ 1 → z 2 (5 * c + i) = y 2 (5 * c + i)) (zq : ∀ i v, (q.drop l)[i]? = some v → z 3 i = nI v) : LR N C (q.drop l) od t (cMg0 x C q.length l) z := by
  have hq30 := h.inv.q30
  have hi : cInv N C q t (cTr x (cFR x C l)) := h.inv
  obtain ⟨u1, u2, u3, u4⟩ := cStl_fl hi hl
  have hi2 := iStl hi hl
  obtain ⟨⟨-, h10, h12, hrk⟩, ⟨m0, m1, m2, m3, m4⟩, hc, hg, hq, ho⟩ := h
  unfold cMg0
  generalize cStl (cTr x (cFR x C l)) l q.length = X at u1 u2 u3 u4 hi2
  have e0 : X.2 0 = x.2 0 := u4 0 (by decide) (by decide)
  have e1 : X.2 1 = x.2 1 := u4 1 (by decide) (by decide)
  have e2 : X.2 2 = x.2 2 := u4 2 (by decide) (by decide)
  have e3 : X.2 3 = x.2 3 := u4 3 (by decide) (by decide)
  have e4 : X.2 4 = x.2 4 := u4 4 (by decide) (by decide)
  have e5 : X.2 5 = x.2 5 := u4 5 (by decide) (by decide)
  have e6 : X.2 6 = x.2 6 := u4 6 (by decide) (by decide)
  have e7 : X.2 7 = x.2 7 := u4 7 (by decide) (by decide)
  have e8 : X.2 8 = x.2 8 := u4 8 (by decide) (by decide)
  have e9 : X.2 9 = x.2 9 := u4 9 (by decide) (by decide)
  have x0 : X.1 0 = x.1 0 := by rw [u1]; rfl
  have x3 : X.1 3 = x.1 3 := by rw [u1]; rfl
  have x8 : X.1 8 = (cFR x C l).2.2 := by rw [u1]; rfl
  refine ⟨⟨hi2, h10, h12, fun k => ?_⟩, ⟨by rw [z4 0 (by decide) (by decide)]; exact m0, by rw [z4 1 (by decide) (by decide)]; exact m1, by rw [z42, List.length_drop], ?_, fun j h1 h3 => ?_⟩, fun k hk => ?_, fun c hc => ?_, zq, ?_⟩
  · show ∃ p, p ≤ 9 ∧ X.2 0 k = nI p
    rw [e0]; exact hrk k
  · show z 4 3 = X.1 0 + X.1 8
    rw [z43, m3, x0, x8]
  · show z 4 (3 + j) = X.2 6 j
    rw [z4 _ (by omega) (by omega), e6]; exact m4 j h1 h3
  · show z 1 (5 * k) = X.2 0 k ∧ z 1 (5 * k + 1) = X.2 1 k ∧ z 1 (5 * k + 2) = X.2 3 k ∧ z 1 (5 * k + 3) = X.2 4 k ∧ z 1 (5 * k + 4) = X.2 5 k
    rw [z1, e0, e1, e3, e4, e5]; exact hc k hk
  · obtain ⟨g0, g1, g2, g3, g4⟩ := hg c hc
    show z 2 (5 * c) = X.2 7 c ∧ z 2 (5 * c + 1) = X.2 10 c ∧ z 2 (5 * c + 2) = bI (bt (X.1 3) c) ∧ z 2 (5 * c + 3) = X.2 8 c ∧ z 2 (5 * c + 4) = X.2 9 c
    have zz := zg c 0 hc (by omega) (by omega)
    rw [Nat.add_zero] at zz
    rw [zz, zg c 2 hc (by omega) (by omega), zg c 3 hc (by omega) (by omega), zg c 4 hc (by omega) (by omega), zs c hc, e7, e8, e9, x3, u3]
    exact ⟨g0, rfl, g2, g3, g4⟩
  · show (∀ i v, od[i]? = some v → z 0 i = nI v) ∧ od.Nodup ∧ (∀ k, k ∈ od ↔ k < N) ∧ od.length = N ∧ od.Pairwise (fun a b => X.2 2 a < X.2 2 b)
    rw [z0, e2]; exact ho
set_option maxHeartbeats 16000000 in
/-- the row's changes are in or refused -/
theorem l_imSet (h : LR N C q od t x y) {l : Nat} (hl : l ≤ q.length) (hl8 : l ≤ 8) (z9 a10 a11 : Option Value) (F : Nat → Int32) {S : Int32} (hS : F 0 = S) {Pq : xR → xW → Prop} {Z0 : lY} (Z3 : Z0 3 = y 3) (Z2 : Z0 2 = y 2)
    (hP : ∀ z : lY, (∀ a, a ≠ 2 → z a = Z0 a) → (∀ c, c < 12 → z 2 (5 * c + 1) = if c ∈ q.take l then (if bt S c then nI 2 else nI 3) else x.2 10 c) → (∀ c i, c < 12 → i ≤ 4 → i ≠ 1 → z 2 (5 * c + i) = y 2 (5 * c + i)) → xAt sc k_L_isMerged 21 Pq (158, imL z9 (some (.int (nI l))) (some (.int (nI l))) a10 a11, [], wF xc z F, 4)) :
    ∀ (m j : Nat) (z : lY), j + m = l → (∀ a, a ≠ 2 → z a = Z0 a) → (∀ c, c < 12 → z 2 (5 * c + 1) = if c ∈ q.take j then (if bt S c then nI 2 else nI 3) else x.2 10 c) → (∀ c i, c < 12 → i ≤ 4 → i ≠ 1 → z 2 (5 * c + i) = y 2 (5 * c + i)) → xAt sc k_L_isMerged 21 Pq (113, imL z9 (some (.int (nI l))) (some (.int (nI j))) a10 a11, [], wF xc z F, 4)
  | 0, j, z, hj, za, zs, zg => by
    have ej : j = l := by omega
    subst ej
    refine xWp.gb rfl trivial rfl (fun _ => ?_) (fun h9 => ?_)
    · exact hP z za zs zg
    · have h9' : ¬ nI j ≤ nI j := h9
      rw [le_nI (by omega) (by omega)] at h9'; omega
  | m + 1, j, z, hj, za, zs, zg => by
    have hC := h.c
    have hj' : j < q.length := by omega
    have eq0 : q[j]? = some q[j] := List.getElem?_eq_getElem hj'
    have et : q.take (j + 1) = q.take j ++ [q[j]] := List.take_succ_eq_append_getElem hj'
    have hd := h.inv.lt (List.getElem_mem hj')
    have ez0 := h.qu eq0
    generalize q[j] = d at eq0 et hd ez0
    have ez : z 3 (nI j).toNatClampNeg = nI d := by rw [za 3 (by decide), Z3, cl_nI (by omega)]; exact ez0
    have gin : vp_in (xk 5 0 * z 3 (nI j).toNatClampNeg + xk 1 0) 60 := by rw [ez]; exact in5 (K := 12) (by omega) (by omega) (by omega)
    have gcl : (xk 5 0 * z 3 (nI j).toNatClampNeg + xk 1 0).toNatClampNeg = 5 * d + 1 := by rw [ez]; exact c5 (by omega) (by omega)
    refine xWp.gb rfl trivial rfl (fun h9 => ?_) (fun _ => ?_)
    · have h9' : nI l ≤ nI j := h9
      rw [le_nI (by omega) (by omega)] at h9'; omega
    have ih : ∀ v, v = (if bt S d then nI 2 else nI 3) → xAt sc k_L_isMerged 21 Pq (113, imL z9 (some (.int (nI l))) (some (.int (nI (j + 1)))) a10 a11, [], wF xc (yS z 2 (5 * d + 1) v) F, 4) := fun v hv => by
      refine l_imSet h hl hl8 z9 a10 a11 F hS Z3 Z2 hP m (j + 1) _ (by omega) (fun a ha => by rw [yS_a ha]; exact za a ha) (fun c hc => ?_) (fun c i hc hi h1 => by rw [yS_i (by omega)]; exact zg c i hc hi h1)
      rw [et]
      by_cases e : c = d
      · subst e; rw [yS_s, hv]; simp
      · rw [yS_i (by omega), zs c hc]; simp [e]
    unfold imL at ih
    rw [nI_s j, ← gcl] at ih
    refine xWp.gb rfl ⟨in_nI (by omega) (by omega), inx (by omega) (by omega), in_nI (by omega) (by omega), trivial⟩ rfl (fun h8 => ?_) (fun h8 => ?_)
    · have h8' : F 0 >>> (z 3 (nI j).toNatClampNeg &&& 31) &&& nI 1 = nI 1 := h8
      rw [ez, hS, sbit (by omega)] at h8'
      have hb : bt S d = true := by
        cases e : bt S d
        · rw [e] at h8'; exact absurd h8' (by decide)
        · rfl
      exact xWp.go 113 rfl ⟨gin, trivial⟩ (ih (xk 2 0) (by rw [hb]; rfl))
    · have h8' : ¬ F 0 >>> (z 3 (nI j).toNatClampNeg &&& 31) &&& nI 1 = nI 1 := h8
      rw [ez, hS, sbit (by omega)] at h8'
      have hb : bt S d = false := by
        cases e : bt S d
        · rfl
        · rw [e] at h8'; exact absurd rfl h8'
      exact xWp.go 113 rfl ⟨gin, trivial⟩ (ih (xk 3 0) (by rw [hb]; rfl))
set_option maxHeartbeats 16000000 in
/-- the queue moves up -/
theorem l_imMove (h : LR N C q od t x y) {l : Nat} (hl : l ≤ q.length) (hl8 : l ≤ 8) (z9 a10 a11 : Option Value) (F : Nat → Int32) {Pq : xR → xW → Prop} {Z0 : lY} (Z4 : Z0 4 2 = y 4 2)
    (hP : ∀ z : lY, (∀ a, a ≠ 3 → z a = Z0 a) → (∀ i v, (q.drop l)[i]? = some v → z 3 i = nI v) → xAt sc k_L_isMerged 21 Pq (190, imL z9 (some (.int (nI l))) (some (.int (nI q.length))) a10 a11, [], wF xc z F, 4)) :
    ∀ (m j : Nat) (z : lY), j + m = q.length → l ≤ j → (∀ a, a ≠ 3 → z a = Z0 a) → (∀ i v, i + l < j → (q.drop l)[i]? = some v → z 3 i = nI v) → (∀ i v, j ≤ i → q[i]? = some v → z 3 i = nI v) → xAt sc k_L_isMerged 21 Pq (162, imL z9 (some (.int (nI l))) (some (.int (nI j))) a10 a11, [], wF xc z F, 4)
  | 0, j, z, hj, hlj, za, zd, zr => by
    have hq := h.q12
    have ej : j = q.length := by omega
    refine xWp.gb rfl ⟨inx (by omega) (by omega), trivial⟩ rfl (fun _ => ?_) (fun h9 => ?_)
    · rw [ej]
      refine hP z za (fun i v hv => zd i v ?_ hv)
      have := (List.getElem?_eq_some_iff.mp hv).1
      rw [List.length_drop] at this
      omega
    · have h9' : ¬ z 4 2 ≤ nI j := h9
      rw [za 4 (by decide), Z4, h.hQ, le_nI (by omega) (by omega)] at h9'; omega
  | m + 1, j, z, hj, hlj, za, zd, zr => by
    have hq := h.q12
    have hj' : j < q.length := by omega
    have eq0 : q[j]? = some q[j] := List.getElem?_eq_getElem hj'
    refine xWp.gb rfl ⟨inx (by omega) (by omega), trivial⟩ rfl (fun h9 => ?_) (fun _ => ?_)
    · have h9' : z 4 2 ≤ nI j := h9
      rw [za 4 (by decide), Z4, h.hQ, le_nI (by omega) (by omega)] at h9'; omega
    have ei : nI j - nI l = nI (j - l) := pk_sub hlj
    have ez : z 3 (nI j).toNatClampNeg = nI q[j] := by rw [cl_nI (by omega)]; exact zr j _ (Nat.le_refl _) eq0
    have ih := l_imMove h hl hl8 z9 a10 a11 F Z4 hP m (j + 1) (yS z 3 (j - l) (nI q[j])) (by omega) (by omega) (fun a ha => by rw [yS_a ha]; exact za a ha) (fun i v hi hv => by
      by_cases e : i = j - l
      · rw [e, yS_s]
        rw [List.getElem?_drop, e, show l + (j - l) = j by omega, eq0] at hv
        rw [Option.some.inj hv]
      · rw [yS_i e]; exact zd i v (by omega) hv) (fun i v hi hv => by rw [yS_i (by omega)]; exact zr i v (by omega) hv)
    have eZ : yS z 3 (nI j - nI l).toNatClampNeg (z 3 (nI j).toNatClampNeg) = yS z 3 (j - l) (nI q[j]) := by rw [ei, cl_nI (by omega), ez]
    unfold imL at ih
    rw [nI_s j, ← eZ] at ih
    exact xWp.go 162 rfl ⟨in_nI (by omega) (by omega), by show vp_in (nI j - nI l) 12; rw [ei]; exact in_nI (by omega) (by omega), trivial⟩ ih
end LMg
