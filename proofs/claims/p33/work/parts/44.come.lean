/-! the law's own coming of a card, walked -/
section LCw
variable {sc : Option (Nat × (Nat → Int32))} {x xc : xX} {y : lY} {r : xW} {N C : Nat} {q od : List Nat} {t : Nat}
def lGone (lv : Bool) (M nm : Int32) (c : Nat) : Bool := lv && (bt M c && !(bt nm c))
def cmL (k j i : Nat) (lv : Bool) (c9 c10 c11 c12 : Option Value) : xL := [some (.ref 15), some (.ref 16), some (.ref 17), some (.ref 18), some (.ref 19), some (.int (nI k)), some (.int (nI j)), some (.int (nI i)), some (.int (bI lv)), c9, c10, c11, c12]
set_option maxHeartbeats 16000000 in
/-- the queue's loop: what is gone leaves it -/
theorem l_comeQ (n : Nat) (h : LR N C q od t x y) {k : Nat} (hk : k < 10) (j0 i0 : Nat) (lv : Bool) (nm : Int32) {P : xX → lY → xW → Prop} (hP : ∀ z : lY, z 0 = y 0 → z 1 = y 1 → (∀ i, i ≠ 2 → z 4 i = y 4 i) → z 4 2 = nI (q.filter (fun c => !(lGone lv (x.2 3 k) nm c))).length → (∀ c, c < 12 → z 2 (5 * c + 1) = if c ∈ q ∧ lGone lv (x.2 3 k) nm c = true then nI 0 else x.2 10 c) → (∀ c i, c < 12 → i ≤ 4 → i ≠ 1 → z 2 (5 * c + i) = y 2 (5 * c + i)) → (∀ i v, (q.filter (fun c => !(lGone lv (x.2 3 k) nm c)))[i]? = some v → z 3 i = nI v) → P xc z r) (c12 : Option Value) :
    xAt sc k_L_come n (lQ none P) (146, cmL k j0 i0 lv (some (.int nm)) (some (.int (nI 0))) (some (.int (nI 0))) c12, [], wY xc y r, 0) := by
  have hq12 := h.q12
  have hC := h.c
  have key : ∀ m j nj (z : lY) (c12 : Option Value), j + m = q.length → nj = ((q.take j).filter (fun c => !(lGone lv (x.2 3 k) nm c))).length → z 0 = y 0 → z 1 = y 1 → z 4 = y 4 → (∀ c, c < 12 → z 2 (5 * c + 1) = if c ∈ q.take j ∧ lGone lv (x.2 3 k) nm c = true then nI 0 else x.2 10 c) → (∀ c i, c < 12 → i ≤ 4 → i ≠ 1 → z 2 (5 * c + i) = y 2 (5 * c + i)) → (∀ i v, ((q.take j).filter (fun c => !(lGone lv (x.2 3 k) nm c)))[i]? = some v → z 3 i = nI v) → (∀ i v, j ≤ i → q[i]? = some v → z 3 i = nI v) →
      xAt sc k_L_come n (lQ none P) (146, cmL k j0 i0 lv (some (.int nm)) (some (.int (nI nj))) (some (.int (nI j))) c12, [], wY xc z r, 0) := by
    intro m
    induction m with
    | zero =>
      intro j nj z c12 hj hn z0 z1 z4 zs zg za zb
      have ej : j = q.length := by omega
      subst ej
      rw [List.take_length] at hn zs za
      have hnj : nj ≤ 12 := by rw [hn]; exact Nat.le_trans (List.length_filter_le _ _) hq12
      refine xWp.gb rfl ⟨inx (by omega) (by omega), trivial⟩ rfl (fun _ => ?_) (fun h9 => ?_)
      · refine xWp.gf rfl ⟨inx (by omega) (by omega), trivial⟩ rfl trivial (lQ.mk (y' := yS z 4 2 (nI nj)) (hP _ ?_ ?_ (fun i hi => ?_) ?_ (fun c hc => ?_) (fun c i hc hi h1 => ?_) (fun i v hv => ?_)))
        · rw [yS_a (by decide)]; exact z0
        · rw [yS_a (by decide)]; exact z1
        · rw [yS_i hi, z4]
        · rw [yS_s, hn]
        · rw [yS_a (by decide)]; exact zs c hc
        · rw [yS_a (by decide)]; exact zg c i hc hi h1
        · rw [yS_a (by decide)]; exact za i v hv
      · have h' : ¬ z 4 2 ≤ nI q.length := h9
        rw [z4, h.hQ, le_nI (by omega) (by omega)] at h'
        omega
    | succ m ih =>
      intro j nj z c12 hj hn z0 z1 z4 zs zg za zb
      have hj' : j < q.length := by omega
      have hnj : nj ≤ j := by
        have h1 := List.length_filter_le (fun c => !(lGone lv (x.2 3 k) nm c)) (q.take j)
        rw [List.length_take] at h1
        omega
      have eq0 : q[j]? = some q[j] := List.getElem?_eq_getElem hj'
      have et : q.take (j + 1) = q.take j ++ [q[j]] := List.take_succ_eq_append_getElem hj'
      have hd := h.inv.lt (List.getElem_mem hj')
      have hnt : q[j] ∉ q.take j := fun z => by
        have := (nd_take h.inv.1.2.2.1 hj').mp z
        omega
      have ez := zb j _ (Nat.le_refl _) eq0
      generalize q[j] = d at eq0 et hd ez hnt
      have ez' : z 3 (nI j).toNatClampNeg = nI d := by rw [cl_nI (by omega)]; exact ez
      have ec : z 1 (xk 5 0 * nI k + xk 2 0).toNatClampNeg = x.2 3 k := by rw [c5 (by omega) (by omega), z1, h.nam hk]
      refine xWp.gb rfl ⟨inx (by omega) (by omega), trivial⟩ rfl (fun h9 => ?_) (fun _ => ?_)
      · have h' : z 4 2 ≤ nI j := h9
        rw [z4, h.hQ, le_nI (by omega) (by omega)] at h'
        omega
      have gin : vp_in (xk 5 0 * z 3 (nI j).toNatClampNeg + xk 1 0) 60 := by rw [ez']; exact in5 (K := 12) (by omega) (by omega) (by omega)
      have gcl : (xk 5 0 * z 3 (nI j).toNatClampNeg + xk 1 0).toNatClampNeg = 5 * d + 1 := by rw [ez']; exact c5 (by omega) (by omega)
      -- gone: the state is opened and the place is used again
      have gone : lGone lv (x.2 3 k) nm d = true → xAt sc k_L_come n (lQ none P) (191, cmL k j0 i0 lv (some (.int nm)) (some (.int (nI nj))) (some (.int (nI j))) c12, [], wY xc z r, 0) := fun e => by
        have ef : (q.take (j + 1)).filter (fun c => !(lGone lv (x.2 3 k) nm c)) = (q.take j).filter (fun c => !(lGone lv (x.2 3 k) nm c)) := by rw [et, List.filter_append]; simp [e]
        have eZ : yS (yS z 2 (xk 5 0 * z 3 (nI j).toNatClampNeg + xk 1 0).toNatClampNeg (xk 0 0)) 3 (nI nj).toNatClampNeg (z 3 (nI j).toNatClampNeg) = yS (yS z 2 (5 * d + 1) (xk 0 0)) 3 nj (nI d) := by rw [gcl, cl_nI (k := nj) (by omega), ez']
        have h9 := ih (j + 1) nj (yS (yS z 2 (5 * d + 1) (xk 0 0)) 3 nj (nI d)) (some (.int (nI 1))) (by omega) (by rw [ef]; exact hn) (by rw [yS_a (by decide), yS_a (by decide)]; exact z0) (by rw [yS_a (by decide), yS_a (by decide)]; exact z1) (by rw [yS_a (by decide), yS_a (by decide)]; exact z4) (fun c hc => by
          rw [yS_a (by decide), et]
          by_cases e2 : c = d
          · subst e2; rw [yS_s]; simp [e]; rfl
          · rw [yS_i (by omega), zs c hc]
            simp [e2]) (fun c i hc hi h1 => by
          rw [yS_a (by decide), yS_i (by omega)]; exact zg c i hc hi h1) (fun i v hv => by
          rw [ef] at hv
          have hi : i < nj := by rw [hn]; exact (List.getElem?_eq_some_iff.mp hv).1
          rw [yS_i (by omega), yS_a (by decide)]
          exact za i v hv) (fun i v hi hv => by
          rw [yS_i (by omega), yS_a (by decide)]
          exact zb i v (by omega) hv)
        rw [nI_s j, ← nI_z nj, ← eZ] at h9
        refine xWp.gb rfl ⟨in_nI (by omega) (by omega), trivial⟩ rfl (fun h8 => absurd h8 (by decide)) (fun _ => ?_)
        refine xWp.gb rfl ⟨gin, in_nI (by omega) (by omega), in_nI (by omega) (by omega), trivial⟩ rfl (fun h8 => absurd h8 (by decide)) (fun _ => ?_)
        exact xWp.go 146 rfl trivial h9
      have kept : lGone lv (x.2 3 k) nm d = false → xAt sc k_L_come n (lQ none P) (195, cmL k j0 i0 lv (some (.int nm)) (some (.int (nI nj))) (some (.int (nI j))) c12, [], wY xc z r, 0) := fun e => by
        have ef : (q.take (j + 1)).filter (fun c => !(lGone lv (x.2 3 k) nm c)) = (q.take j).filter (fun c => !(lGone lv (x.2 3 k) nm c)) ++ [d] := by rw [et, List.filter_append]; simp [e]
        have eZ : yS (yS z 2 (xk 5 0 * z 3 (nI j).toNatClampNeg + xk 1 0).toNatClampNeg (z 2 (xk 5 0 * z 3 (nI j).toNatClampNeg + xk 1 0).toNatClampNeg)) 3 (nI nj).toNatClampNeg (z 3 (nI j).toNatClampNeg) = yS (yS z 2 (5 * d + 1) (z 2 (5 * d + 1))) 3 nj (nI d) := by rw [gcl, cl_nI (k := nj) (by omega), ez']
        have h9 := ih (j + 1) (nj + 1) (yS (yS z 2 (5 * d + 1) (z 2 (5 * d + 1))) 3 nj (nI d)) (some (.int (nI 0))) (by omega) (by rw [ef, List.length_append, ← hn]; rfl) (by rw [yS_a (by decide), yS_a (by decide)]; exact z0) (by rw [yS_a (by decide), yS_a (by decide)]; exact z1) (by rw [yS_a (by decide), yS_a (by decide)]; exact z4) (fun c hc => by
          rw [yS_a (by decide), et]
          by_cases e2 : c = d
          · subst e2; rw [yS_s, zs c hc]; simp [hnt, e]
          · rw [yS_i (by omega), zs c hc]
            simp [e2]) (fun c i hc hi h1 => by
          rw [yS_a (by decide), yS_i (by omega)]; exact zg c i hc hi h1) (fun i v hv => by
          rw [ef] at hv
          rcases Nat.lt_or_ge i ((q.take j).filter (fun c => !(lGone lv (x.2 3 k) nm c))).length with hi | hi
          · rw [List.getElem?_append_left hi] at hv
            rw [yS_i (by omega), yS_a (by decide)]
            exact za i v hv
          · rw [List.getElem?_append_right hi] at hv
            by_cases e9 : i = nj
            · rw [e9, ← hn, Nat.sub_self] at hv
              simp at hv
              rw [e9, yS_s, hv]
            · rw [List.getElem?_eq_none (by simp; omega)] at hv
              cases hv) (fun i v hi hv => by
          rw [yS_i (by omega), yS_a (by decide)]
          exact zb i v (by omega) hv)
        rw [nI_s j, nI_s nj, ← eZ] at h9
        refine xWp.gb rfl ⟨in_nI (by omega) (by omega), trivial⟩ rfl (fun _ => ?_) (fun h8 => absurd rfl h8)
        refine xWp.gb rfl ⟨in_nI (by omega) (by omega), gin, gin, in_nI (by omega) (by omega), in_nI (by omega) (by omega), trivial⟩ rfl (fun _ => ?_) (fun h8 => absurd rfl h8)
        exact xWp.go 146 rfl trivial h9
      refine xWp.gb rfl trivial rfl (fun h8 => ?_) (fun h8 => ?_)
      · rw [bI_0] at h8
        exact kept (by unfold lGone; rw [h8]; rfl)
      rw [bI_0, Bool.not_eq_false] at h8
      refine xWp.gb rfl ⟨in5 (K := 10) (by omega) (by omega) (by omega), in_nI (by omega) (by omega), trivial⟩ rfl (fun h7 => ?_) (fun h7 => ?_)
      · have h7' : z 1 (xk 5 0 * nI k + xk 2 0).toNatClampNeg >>> (z 3 (nI j).toNatClampNeg &&& 31) &&& nI 1 = nI 1 := h7
        rw [ec, ez', sbit (by omega)] at h7'
        have e1 : bt (x.2 3 k) d = true := by
          cases e : bt (x.2 3 k) d
          · rw [e] at h7'; exact absurd h7' (by decide)
          · rfl
        refine xWp.gb rfl ⟨in_nI (by omega) (by omega), trivial⟩ rfl (fun h6 => ?_) (fun h6 => ?_)
        · have h6' : nm >>> (z 3 (nI j).toNatClampNeg &&& 31) &&& nI 1 = 0 := h6
          rw [ez', sbit (by omega), bI_0] at h6'
          refine gone ?_
          unfold lGone
          rw [h8, e1, h6']; rfl
        · have h6' : ¬ nm >>> (z 3 (nI j).toNatClampNeg &&& 31) &&& nI 1 = 0 := h6
          rw [ez', sbit (by omega), bI_0, Bool.not_eq_false] at h6'
          refine kept ?_
          unfold lGone
          rw [h6', e1]; simp
      · have h7' : ¬ z 1 (xk 5 0 * nI k + xk 2 0).toNatClampNeg >>> (z 3 (nI j).toNatClampNeg &&& 31) &&& nI 1 = nI 1 := h7
        rw [ec, ez', sbit (by omega)] at h7'
        refine kept ?_
        unfold lGone
        cases e : bt (x.2 3 k) d
        · simp
        · rw [e] at h7'; exact absurd rfl h7'
  exact key q.length 0 0 y c12 (by omega) (by simp) rfl rfl rfl (fun c hc => by simp; exact h.sta hc) (fun c i _ _ _ => rfl) (fun i v hv => by simp at hv) (fun i v _ hv => h.qu hv)
end LCw
