section RU
variable {I : List (List xI)} {bm : Nat} {scr : xT} {hd : List (Nat × Nat × Nat)} {cl : Nat → List Value → xW → (xR → xW → Prop) → Prop} {Q : xR → xW → Prop} {s : xS}
theorem xWp.call1 {g : Prop} {k nx u : Nat} {as st : List Value} {L : xL} {w : xW} (h : xo I bm scr s = some (.inr (.inr (.inr (.inl (g, (k, as, nx, L, st, w, u))))))) {v : Option Value} {w' : xW} (hc : cl k as w (xIs (.inl v) w')) (hg : g) (kk : xWp I bm scr hd cl Q (nx, L, v.toList ++ st, w', u)) : xWp I bm scr hd cl Q s :=
  xWp.call h hg _ hc (fun r w9 h9 => by obtain ⟨rfl, rfl⟩ := h9; exact kk)
/-- steps until a branch, a call, an end, or the place 'stop' -/
def xgo (I : List (List xI)) (bm : Nat) (scr : xT) (stop : Nat) : Nat → xS → Option (Prop × xS)
  | 0, s => some (True, s)
  | n + 1, s => match xo I bm scr s with
    | some (.inl s') => (match Nat.beq s'.1 stop with
      | true => some (True, s')
      | false => xgo I bm scr stop n s')
    | some (.inr (.inl (g, s'))) => (match Nat.beq s'.1 stop with
      | true => some (g ∧ True, s')
      | false => (match xgo I bm scr stop n s' with
        | some (g', s'') => some (g ∧ g', s'')
        | none => none))
    | _ => some (True, s)
theorem xWp.go0 (stop : Nat) : ∀ (n : Nat) {s s' : xS} {g : Prop}, xgo I bm scr stop n s = some (g, s') → g → xWp I bm scr hd cl Q s' → xWp I bm scr hd cl Q s
  | 0, s, s', g, h, _, k => by
    simp only [xgo, Option.some.injEq, Prod.mk.injEq] at h
    rw [h.2]; exact k
  | n + 1, s, s', g, h, hg, k => by
    have fin : some (True, s) = some (g, s') → xWp I bm scr hd cl Q s := fun h => by
      simp only [Option.some.injEq, Prod.mk.injEq] at h
      rw [h.2]; exact k
    unfold xgo at h
    cases ho : xo I bm scr s with
    | none => rw [ho] at h; exact fin h
    | some o9 =>
    rw [ho] at h
    rcases o9 with s1 | ⟨g1, s1⟩ | ⟨c, a, b⟩ | ⟨g2, k9, as, nx, L, st, w, u⟩ | ⟨g2, r, w⟩
    · refine xWp.mk ?_
      unfold xF xFo
      rw [ho]
      dsimp only at h ⊢
      split at h
      · simp only [Option.some.injEq, Prod.mk.injEq] at h
        rw [h.2]; exact k
      · exact xWp.go0 stop n h hg k
    · refine xWp.mk ?_
      unfold xF xFo
      rw [ho]
      dsimp only at h ⊢
      split at h
      · simp only [Option.some.injEq, Prod.mk.injEq] at h
        rw [← h.1] at hg
        rw [h.2]; exact ⟨hg.1, k⟩
      · cases e : xgo I bm scr stop n s1 with
        | none => rw [e] at h; cases h
        | some q =>
          rw [e] at h
          obtain ⟨g3, s2⟩ := q
          simp only [Option.some.injEq, Prod.mk.injEq] at h
          obtain ⟨h1, h2⟩ := h
          subst h2
          rw [← h1] at hg
          exact ⟨hg.1, xWp.go0 stop n e hg.2 k⟩
    · exact fin h
    · exact fin h
    · exact fin h
theorem xWp.go (stop : Nat) {s' : xS} {g : Prop} (h : xgo I bm scr stop 60 s = some (g, s')) (hg : g) (k : xWp I bm scr hd cl Q s') : xWp I bm scr hd cl Q s := xWp.go0 stop 60 h hg k
theorem xWp.gb {s' : xS} {g c : Prop} {a b : xS} (h : xgo I bm scr 9999 60 s = some (g, s')) (hg : g) (h2 : xo I bm scr s' = some (.inr (.inr (.inl (c, a, b))))) (ka : c → xWp I bm scr hd cl Q a) (kb : ¬ c → xWp I bm scr hd cl Q b) : xWp I bm scr hd cl Q s :=
  xWp.go 9999 h hg (xWp.br h2 ka kb)
theorem xWp.gc {s' : xS} {g g2 : Prop} {k nx u : Nat} {as st : List Value} {L : xL} {w : xW} (h : xgo I bm scr 9999 60 s = some (g, s')) (hg : g) (h2 : xo I bm scr s' = some (.inr (.inr (.inr (.inl (g2, (k, as, nx, L, st, w, u))))))) {v : Option Value} {w' : xW} (hc : cl k as w (xIs (.inl v) w')) (hg2 : g2) (kk : xWp I bm scr hd cl Q (nx, L, v.toList ++ st, w', u)) : xWp I bm scr hd cl Q s :=
  xWp.go 9999 h hg (xWp.call1 h2 hc hg2 kk)
theorem xWp.gf {s' : xS} {g g2 : Prop} {r : xR} {w : xW} (h : xgo I bm scr 9999 60 s = some (g, s')) (hg : g) (h2 : xo I bm scr s' = some (.inr (.inr (.inr (.inr (g2, (r, w))))))) (hg2 : g2) (hq : Q r w) : xWp I bm scr hd cl Q s :=
  xWp.go 9999 h hg (xWp.fin h2 hg2 hq)
/-- a loop that counts up to N -/
theorem xWp.loop (N : Nat) (st : Nat → xS) (hs : ∀ j, j < N → xWp I bm scr hd cl Q (st (j + 1)) → xWp I bm scr hd cl Q (st j)) (he : xWp I bm scr hd cl Q (st N)) : xWp I bm scr hd cl Q (st 0) := by
  have H : ∀ m j, j + m = N → xWp I bm scr hd cl Q (st j) := by
    intro m
    induction m with
    | zero => intro j hj; rw [Nat.add_zero] at hj; rw [hj]; exact he
    | succ m ih => intro j hj; exact hs j (by omega) (ih (j + 1) (by omega))
  exact H N 0 (by omega)
theorem in_nI {k N : Nat} (h : k < N) (hN : N ≤ 900) : vp_in (nI k) N := vp_in_nI h (by omega)
theorem cl_nI {k : Nat} (h : k ≤ 900) : (nI k).toNatClampNeg = k := nI_clamp (by omega)
theorem lt_nI {a b : Nat} (ha : a ≤ 900) (hb : b ≤ 900) : nI a < nI b ↔ a < b := nI_ltI (by omega) (by omega)
theorem le_nI {a b : Nat} (ha : a ≤ 900) (hb : b ≤ 900) : nI a ≤ nI b ↔ a ≤ b := nI_leI (by omega) (by omega)
theorem eq_nI {a b : Nat} (ha : a ≤ 900) (hb : b ≤ 900) : nI a = nI b ↔ a = b := nI_eq (by omega) (by omega)
theorem n0_nI {a : Nat} (ha : a ≤ 900) : ¬ nI a < 0 := by rw [← nI_0, lt_nI ha (by omega)]; omega
theorem bI_t {b : Bool} (h : b = true) : bI b = nI 1 := by rw [h]; rfl
theorem bI_f {b : Bool} (h : b = false) : bI b = nI 0 := by rw [h]; rfl
theorem bI_z {b : Bool} : xz (bI b) := by cases b; exact Or.inl rfl; exact Or.inr rfl
theorem bI_0 {b : Bool} : bI b = 0 ↔ b = false := by cases b <;> decide
theorem bI_01 {b : Bool} : bI b = nI 0 ↔ b = false := by cases b <;> decide
theorem nI_s (j : Nat) : nI (j + 1) = nI j + xk 1 0 := nI_succ j
end RU
