/-! a card comes to a column: what that does to how the law's rows go with the class's state -/
section LCo
variable {N C : Nat} {q od : List Nat} {t : Nat} {x : xX} {y : lY}
theorem nI_ltN {a b : Nat} (hb : b ≤ 1000000) (h : a < b) : nI a < nI b := nI_lt h (by omega)
theorem rPutL {A B : List Nat} {k j : Nat} (h : LR N C q (A ++ k :: B) t x y) (hk : k < N) (hj : j ≤ 4) (ht : t < 1000000) {z : lY} (z0 : ∀ i v, (A ++ B ++ [k])[i]? = some v → z 0 i = nI v) (z1 : z 1 = upd (y 1) (5 * k + 1) (nI j)) (z2 : z 2 = y 2) (z3 : z 3 = y 3) (z4 : z 4 = y 4) : LR N C q (A ++ B ++ [k]) (t + 1) (cPut x k (nI j)) z := by
  have hi := iPut h.inv hk hj ht
  have hnd := h.ond
  have hin := h.oin
  have hl := h.ol
  have hso := h.oso
  obtain ⟨⟨hi0, h10, h12⟩, ⟨m0, m1, m2, m3, m4⟩, hc, hg, hq, ho⟩ := h
  have hperm : (A ++ B ++ [k]).Perm (A ++ k :: B) := by
    rw [List.append_assoc]
    exact List.Perm.append_left A (List.perm_append_comm (l₁ := B) (l₂ := [k]))
  have hnd2 := hperm.nodup_iff.mpr hnd
  refine ⟨⟨hi, h10, h12⟩, ⟨by rw [z4]; exact m0, by rw [z4]; exact m1, by rw [z4]; exact m2, by rw [z4]; exact m3, fun j h1 h3 => by rw [z4]; exact m4 j h1 h3⟩, fun k' hk' => ?_, fun c hc => by rw [z2]; exact hg c hc, fun i v hv => by rw [z3]; exact hq i v hv, z0, hnd2, fun k' => by rw [hperm.mem_iff]; exact hin k', by rw [hperm.length_eq]; exact hl, ?_⟩
  · obtain ⟨g0, g1, g2, g3, g4⟩ := hc k' hk'
    rw [z1]
    refine ⟨by rw [pk_un (by omega)]; exact g0, ?_, by rw [pk_un (by omega)]; exact g2, by rw [pk_un (by omega)]; exact g3, by rw [pk_un (by omega)]; exact g4⟩
    show _ = upd (x.2 1) k (nI j) k'
    by_cases e : k' = k
    · subst e; rw [pk_us, pk_us]
    · rw [pk_un (by omega), pk_un e]; exact g1
  · show (A ++ B ++ [k]).Pairwise (fun a b => upd (x.2 2) k (x.1 2) a < upd (x.2 2) k (x.1 2) b)
    have hk1 : k ∉ A ++ B := by
      rw [List.nodup_append] at hnd2
      exact fun z => hnd2.2.2 k z k (List.mem_singleton.mpr rfl) rfl
    have hne : ∀ c, c ∈ A ++ B → c ≠ k := fun c hc e => hk1 (by rw [← e]; exact hc)
    rw [List.pairwise_append]
    refine ⟨?_, List.pairwise_singleton _ _, fun a ha b hb => ?_⟩
    · have h1 : (A ++ B).Pairwise (fun a b => x.2 2 a < x.2 2 b) := List.Pairwise.sublist (List.Sublist.append_left (List.sublist_cons_self k B) A) hso
      refine List.Pairwise.imp_of_mem (fun {a b} ha hb hab => ?_) h1
      rw [pk_un (hne _ ha), pk_un (hne _ hb)]
      exact hab
    · have hb' : b = k := by simpa using hb
      subst hb'
      rw [pk_us, pk_un (hne _ ha), hi0.2.1.1]
      have haN : a < N := (hin a).mp (hperm.mem_iff.mp (List.mem_append_left _ ha))
      obtain ⟨a', h1, h2⟩ := hi0.2.1.2.2.1 a haN
      rw [h2]
      exact nI_ltN (by omega) h1
/-- the queue and the states change, and what the class holds of the rest stays -/
theorem LR.reb (h : LR N C q od t x y) {q2 : List Nat} {x2 : xX} {z : lY} (hi : cInv N C q2 t x2) (x0 : x2.1 0 = x.1 0) (x3 : x2.1 3 = x.1 3) (xr : ∀ r, r ≠ 10 → r ≠ 11 → x2.2 r = x.2 r) (z0 : z 0 = y 0) (z1 : z 1 = y 1) (z4 : ∀ i, i ≠ 2 → z 4 i = y 4 i) (z42 : z 4 2 = nI q2.length) (zs : ∀ c, c < 12 → z 2 (5 * c + 1) = x2.2 10 c) (zg : ∀ c i, c < 12 → i ≤ 4 → i ≠ 1 → z 2 (5 * c + i) = y 2 (5 * c + i)) (zq : ∀ i v, q2[i]? = some v → z 3 i = nI v) : LR N C q2 od t x2 z := by
  obtain ⟨⟨hi0, h10, h12⟩, ⟨m0, m1, m2, m3, m4⟩, hc, hg, hq, ho0, ho1, ho2, ho3, ho4⟩ := h
  have e0 := xr 0 (by decide) (by decide)
  have e1 := xr 1 (by decide) (by decide)
  have e2 := xr 2 (by decide) (by decide)
  have e3 := xr 3 (by decide) (by decide)
  have e4 := xr 4 (by decide) (by decide)
  have e5 := xr 5 (by decide) (by decide)
  have e6 := xr 6 (by decide) (by decide)
  have e7 := xr 7 (by decide) (by decide)
  have e8 := xr 8 (by decide) (by decide)
  have e9 := xr 9 (by decide) (by decide)
  refine ⟨⟨hi, h10, h12.1, by rw [e0]; exact h12.2⟩, ⟨by rw [z4 0 (by decide)]; exact m0, by rw [z4 1 (by decide)]; exact m1, z42, by rw [z4 3 (by decide), x0]; exact m3, fun j h1 h3 => by rw [z4 _ (by omega), e6]; exact m4 j h1 h3⟩, fun k hk => by rw [z1, e0, e1, e3, e4, e5]; exact hc k hk, fun c hc => ?_, zq, ?_, ho1, ho2, ho3, ?_⟩
  · obtain ⟨g0, g1, g2, g3, g4⟩ := hg c hc
    refine ⟨?_, zs c hc, ?_, ?_, ?_⟩
    · have := zg c 0 hc (by omega) (by omega)
      rw [Nat.add_zero] at this
      rw [this, e7]; exact g0
    · rw [zg c 2 hc (by omega) (by omega), x3]; exact g2
    · rw [zg c 3 hc (by omega) (by omega), e8]; exact g3
    · rw [zg c 4 hc (by omega) (by omega), e9]; exact g4
  · rw [z0]; exact ho0
  · rw [e2]; exact ho4
end LCo
