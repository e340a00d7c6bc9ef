section RU
variable {I : List (List xI)} {bm : Nat} {scr : Option (Nat × (Nat → Int32))} {hd : List (Nat × Nat × Nat)} {cl : Nat → List Value → xW → (xR → xW → Prop) → Prop} {Q : xR → xW → Prop} {s : xS}
theorem xWp.call1 {g : Prop} {k nx u : Nat} {as st : List Value} {L : xL} {w : xW} (h : xo I bm scr s = some (.inr (.inr (.inr (.inl (g, (k, as, nx, L, st, w, u))))))) {v : Option Value} {w' : xW} (hc : cl k as w (xIs (.inl v) w')) (hg : g) (kk : xWp I bm scr hd cl Q (nx, L, v.toList ++ st, w', u)) : xWp I bm scr hd cl Q s :=
  xWp.call h hg _ hc (fun r w9 h9 => by obtain ⟨rfl, rfl⟩ := h9; exact kk)
theorem in_nI {k N : Nat} (h : k < N) (hN : N ≤ 900) : vp_in (nI k) N := vp_in_nI h (by omega)
theorem cl_nI {k : Nat} (h : k ≤ 900) : (nI k).toNatClampNeg = k := nI_clamp (by omega)
theorem lt_nI {a b : Nat} (ha : a ≤ 900) (hb : b ≤ 900) : nI a < nI b ↔ a < b := nI_ltI (by omega) (by omega)
theorem le_nI {a b : Nat} (ha : a ≤ 900) (hb : b ≤ 900) : nI a ≤ nI b ↔ a ≤ b := nI_leI (by omega) (by omega)
theorem eq_nI {a b : Nat} (ha : a ≤ 900) (hb : b ≤ 900) : nI a = nI b ↔ a = b := nI_eq (by omega) (by omega)
theorem n0_nI {a : Nat} (ha : a ≤ 900) : ¬ nI a < 0 := by rw [← nI_0, lt_nI ha (by omega)]; omega
theorem bI_t {b : Bool} (h : b = true) : bI b = nI 1 := by rw [h]; rfl
theorem bI_f {b : Bool} (h : b = false) : bI b = nI 0 := by rw [h]; rfl
theorem bI_z {b : Bool} : xz (bI b) := by cases b; exact Or.inl rfl; exact Or.inr rfl
theorem bI_0 {b : Bool} : bI b = 0 ↔ b = false := by cases b <;> decide
theorem bI_01 {b : Bool} : bI b = nI 0 ↔ b = false := by cases b <;> decide
end RU
