/-! the law's own methods: a call of the class, what it throws told as a number -/
section LW
variable {x x0 x' y : xX} {o : Nat → Int64} {N C : Nat} {q : List Nat} {t : Nat} {w : xW}
def wQ (x' y : xX) (code : Nat) (bl : Int64) : xR → xW → Prop := fun r w => r = .inl (some (.int (nI code))) ∧ ∃ o', w = wW x' y o' ∧ (code = 0 → o' 0 = bl)
theorem xWp.gq {I : List (List xI)} {bm : Nat} {scr : Option (Nat × (Nat → Int32))} {hd : List (Nat × Nat × Nat)} {cl : Nat → List Value → xW → (xR → xW → Prop) → Prop} {Q : xR → xW → Prop} {s : xS} {s' : xS} {g g2 : Prop} {k nx u : Nat} {as st : List Value} {L : xL} {w : xW} (h : xgo I bm scr 9999 60 s = some (g, s')) (hg : g) (h2 : xo I bm scr s' = some (.inr (.inr (.inr (.inl (g2, (k, as, nx, L, st, w, u))))))) {P : xR → xW → Prop} (hc : cl k as w P) (hg2 : g2) (kk : ∀ r w', P r w' → xH hd (xWp I bm scr hd cl Q) Q nx L st u r w') : xWp I bm scr hd cl Q s :=
  xWp.go 9999 h hg (xWp.call h2 hg2 _ hc kk)
theorem xWp.gw {I : List (List xI)} {bm : Nat} {scr : Option (Nat × (Nat → Int32))} {hd : List (Nat × Nat × Nat)} {cl : Nat → List Value → xW → (xR → xW → Prop) → Prop} {Q : xR → xW → Prop} {s : xS} {s' : xS} {g g2 : Prop} {k nx u : Nat} {as st : List Value} {L : xL} {w : xW} (h : xgo I bm scr 9999 60 s = some (g, s')) (hg : g) (h2 : xo I bm scr s' = some (.inr (.inr (.inr (.inl (g2, (k, as, nx, L, st, w, u))))))) {code : Nat} {bl : Int64} (hc : cl k as w (wQ x' y code bl)) (hg2 : g2) (kk : ∀ o', (code = 0 → o' 0 = bl) → xWp I bm scr hd cl Q (nx, L, .int (nI code) :: st, wW x' y o', u)) : xWp I bm scr hd cl Q s :=
  xWp.gq h hg h2 hc hg2 (fun r w' hp => by obtain ⟨rfl, o', rfl, ho⟩ := hp; exact kk o' ho)
theorem xWp.gp {I : List (List xI)} {bm : Nat} {scr : Option (Nat × (Nat → Int32))} {hd : List (Nat × Nat × Nat)} {cl : Nat → List Value → xW → (xR → xW → Prop) → Prop} {Q : xR → xW → Prop} {s : xS} {s' : xS} {g g2 : Prop} {k nx u : Nat} {as st : List Value} {L : xL} {w : xW} (h : xgo I bm scr 9999 60 s = some (g, s')) (hg : g) (h2 : xo I bm scr s' = some (.inr (.inr (.inr (.inl (g2, (k, as, nx, L, st, w, u))))))) {T code : Nat} {b : Int32} (hc : cl k as w (opP x' T code b x0 o)) (hg2 : g2) (kk : ∀ y' b2 N' C' q' t', (code = 0 → b2 = b) → y'.1 7 = nI code → t' ≤ T → Rel N' C' q' t' x' y' → xWp I bm scr hd cl Q (nx, L, .int b2 :: st, wW x0 y' o, u)) : xWp I bm scr hd cl Q s :=
  xWp.gq h hg h2 hc hg2 (fun r w' hp => by obtain ⟨y', b2, rfl, rfl, h1, h2, N', C', q', t', h3, h4⟩ := hp; exact kk y' b2 N' C' q' t' h1 h2 h3 h4)
theorem m_thrown (n : Nat) : xCW (n + 1) k_X3_thrown [.ref 15] (wW x0 y o) (xIs (.inl (some (.int (y.1 7)))) (wW x0 y o)) := xWp.gf rfl trivial rfl (Or.inl rfl) ⟨rfl, rfl⟩
theorem out_0 (v : Int64) : vp_updL o (xk 0 0).toNatClampNeg v 0 = v := by
  have e : (xk 0 0).toNatClampNeg = 0 := by decide
  rw [e]
  exact if_pos rfl
def bL (b : Int32) : Int64 := if b = 0 then Int64.ofNat 0 else Int64.ofNat 1
set_option maxHeartbeats 4000000 in
theorem w_card {v0 b : Int32} {r : xR} {code : Nat} (hc : ∀ y0 o, xCW 20 k_X2_card [.ref 0, .int v0] (wW x y0 o) (xIs r (wW x' y0 o))) (hl : (r = .inl (some (.int b)) ∧ code = 0) ∨ ∃ e, r = .inr e ∧ esA e = code ∧ 1 ≤ code) : xCW 21 k_L_card [.ref 0, .int v0, .ref 32] (wW x y o) (wQ x' y code (b.toInt64)) := by
  rcases hl with ⟨rfl, rfl⟩ | ⟨e, rfl, he, h1⟩
  · refine xWp.gc rfl trivial rfl (hc y o) (by decide) ?_
    exact xWp.gf rfl ⟨in_nI (k := 0) (by omega) (by omega), trivial⟩ rfl (Or.inl rfl) ⟨rfl, _, rfl, fun _ => out_0 _⟩
  · match e, he with
    | 0, he =>
      have he' : 1 = code := he
      subst he'
      refine xWp.gq rfl trivial rfl (hc y o) (by decide) (fun r w9 h9 => ?_)
      obtain ⟨rfl, rfl⟩ := h9
      show xWp (m_i k_L_card) (m_b k_L_card) none (m_hd k_L_card) (xCW 20) _ (13, _, _, _, _)
      exact xWp.gf rfl trivial rfl (Or.inl rfl) ⟨rfl, o, rfl, fun z => by cases z⟩
    | 1, he =>
      have he' : 2 = code := he
      subst he'
      refine xWp.gq rfl trivial rfl (hc y o) (by decide) (fun r w9 h9 => ?_)
      obtain ⟨rfl, rfl⟩ := h9
      show xWp (m_i k_L_card) (m_b k_L_card) none (m_hd k_L_card) (xCW 20) _ (16, _, _, _, _)
      exact xWp.gf rfl trivial rfl (Or.inl rfl) ⟨rfl, o, rfl, fun z => by cases z⟩
    | 2, he =>
      have he' : 0 = code := he
      omega
    | e + 3, he =>
      have he' : 0 = code := he
      omega
set_option maxHeartbeats 4000000 in
theorem w_name {v0 v1 v2 b : Int32} {r : xR} {code : Nat} (hc : ∀ y0 o, xCW 20 k_X2_name [.ref 0, .int v0, .int v1, .int v2] (wW x y0 o) (xIs r (wW x' y0 o))) (hl : (r = .inl (some (.int b)) ∧ code = 0) ∨ ∃ e, r = .inr e ∧ esI e = code ∧ 1 ≤ code) : xCW 21 k_L_name [.ref 0, .int v0, .int v1, .int v2, .ref 32] (wW x y o) (wQ x' y code (b.toInt64)) := by
  rcases hl with ⟨rfl, rfl⟩ | ⟨e, rfl, he, h1⟩
  · refine xWp.gc rfl trivial rfl (hc y o) (by decide) ?_
    exact xWp.gf rfl ⟨in_nI (k := 0) (by omega) (by omega), trivial⟩ rfl (Or.inl rfl) ⟨rfl, _, rfl, fun _ => out_0 _⟩
  · match e, he with
    | 0, he =>
      have he' : 0 = code := he
      omega
    | 1, he =>
      have he' : 2 = code := he
      subst he'
      refine xWp.gq rfl trivial rfl (hc y o) (by decide) (fun r w9 h9 => ?_)
      obtain ⟨rfl, rfl⟩ := h9
      show xWp (m_i k_L_name) (m_b k_L_name) none (m_hd k_L_name) (xCW 20) _ (21, _, _, _, _)
      exact xWp.gf rfl trivial rfl (Or.inl rfl) ⟨rfl, o, rfl, fun z => by cases z⟩
    | 2, he =>
      have he' : 1 = code := he
      subst he'
      refine xWp.gq rfl trivial rfl (hc y o) (by decide) (fun r w9 h9 => ?_)
      obtain ⟨rfl, rfl⟩ := h9
      show xWp (m_i k_L_name) (m_b k_L_name) none (m_hd k_L_name) (xCW 20) _ (17, _, _, _, _)
      exact xWp.gf rfl trivial rfl (Or.inl rfl) ⟨rfl, o, rfl, fun z => by cases z⟩
    | e + 3, he =>
      have he' : 0 = code := he
      omega
set_option maxHeartbeats 4000000 in
theorem w_move {v0 b : Int32} {r : xR} {code : Nat} (hc : ∀ y0 o, xCW 20 k_X2_move [.ref 0, .int v0] (wW x y0 o) (xIs r (wW x' y0 o))) (hl : (r = .inl (some (.int b)) ∧ code = 0) ∨ ∃ e, r = .inr e ∧ esI e = code ∧ 1 ≤ code) : xCW 21 k_L_move [.ref 0, .int v0, .ref 32] (wW x y o) (wQ x' y code (b.toInt64)) := by
  rcases hl with ⟨rfl, rfl⟩ | ⟨e, rfl, he, h1⟩
  · refine xWp.gc rfl trivial rfl (hc y o) (by decide) ?_
    exact xWp.gf rfl ⟨in_nI (k := 0) (by omega) (by omega), trivial⟩ rfl (Or.inl rfl) ⟨rfl, _, rfl, fun _ => out_0 _⟩
  · match e, he with
    | 0, he =>
      have he' : 0 = code := he
      omega
    | 1, he =>
      have he' : 2 = code := he
      subst he'
      refine xWp.gq rfl trivial rfl (hc y o) (by decide) (fun r w9 h9 => ?_)
      obtain ⟨rfl, rfl⟩ := h9
      show xWp (m_i k_L_move) (m_b k_L_move) none (m_hd k_L_move) (xCW 20) _ (16, _, _, _, _)
      exact xWp.gf rfl trivial rfl (Or.inl rfl) ⟨rfl, o, rfl, fun z => by cases z⟩
    | 2, he =>
      have he' : 1 = code := he
      subst he'
      refine xWp.gq rfl trivial rfl (hc y o) (by decide) (fun r w9 h9 => ?_)
      obtain ⟨rfl, rfl⟩ := h9
      show xWp (m_i k_L_move) (m_b k_L_move) none (m_hd k_L_move) (xCW 20) _ (13, _, _, _, _)
      exact xWp.gf rfl trivial rfl (Or.inl rfl) ⟨rfl, o, rfl, fun z => by cases z⟩
    | e + 3, he =>
      have he' : 0 = code := he
      omega
set_option maxHeartbeats 4000000 in
theorem w_moveBack {v0 b : Int32} {r : xR} {code : Nat} (hc : ∀ y0 o, xCW 20 k_X2_moveBack [.ref 0, .int v0] (wW x y0 o) (xIs r (wW x' y0 o))) (hl : (r = .inl (some (.int b)) ∧ code = 0) ∨ ∃ e, r = .inr e ∧ esI e = code ∧ 1 ≤ code) : xCW 21 k_L_moveBack [.ref 0, .int v0, .ref 32] (wW x y o) (wQ x' y code (b.toInt64)) := by
  rcases hl with ⟨rfl, rfl⟩ | ⟨e, rfl, he, h1⟩
  · refine xWp.gc rfl trivial rfl (hc y o) (by decide) ?_
    exact xWp.gf rfl ⟨in_nI (k := 0) (by omega) (by omega), trivial⟩ rfl (Or.inl rfl) ⟨rfl, _, rfl, fun _ => out_0 _⟩
  · match e, he with
    | 0, he =>
      have he' : 0 = code := he
      omega
    | 1, he =>
      have he' : 2 = code := he
      subst he'
      refine xWp.gq rfl trivial rfl (hc y o) (by decide) (fun r w9 h9 => ?_)
      obtain ⟨rfl, rfl⟩ := h9
      show xWp (m_i k_L_moveBack) (m_b k_L_moveBack) none (m_hd k_L_moveBack) (xCW 20) _ (16, _, _, _, _)
      exact xWp.gf rfl trivial rfl (Or.inl rfl) ⟨rfl, o, rfl, fun z => by cases z⟩
    | 2, he =>
      have he' : 1 = code := he
      subst he'
      refine xWp.gq rfl trivial rfl (hc y o) (by decide) (fun r w9 h9 => ?_)
      obtain ⟨rfl, rfl⟩ := h9
      show xWp (m_i k_L_moveBack) (m_b k_L_moveBack) none (m_hd k_L_moveBack) (xCW 20) _ (13, _, _, _, _)
      exact xWp.gf rfl trivial rfl (Or.inl rfl) ⟨rfl, o, rfl, fun z => by cases z⟩
    | e + 3, he =>
      have he' : 0 = code := he
      omega
set_option maxHeartbeats 4000000 in
theorem w_setLimit {v0 v1 b : Int32} {r : xR} {code : Nat} (hc : ∀ y0 o, xCW 20 k_X2_setLimit [.ref 0, .int v0, .int v1] (wW x y0 o) (xIs r (wW x' y0 o))) (hl : (r = .inl (some (.int b)) ∧ code = 0) ∨ ∃ e, r = .inr e ∧ esL e = code ∧ 1 ≤ code) : xCW 21 k_L_setLimit [.ref 0, .int v0, .int v1, .ref 32] (wW x y o) (wQ x' y code (b.toInt64)) := by
  rcases hl with ⟨rfl, rfl⟩ | ⟨e, rfl, he, h1⟩
  · refine xWp.gc rfl trivial rfl (hc y o) (by decide) ?_
    exact xWp.gf rfl ⟨in_nI (k := 0) (by omega) (by omega), trivial⟩ rfl (Or.inl rfl) ⟨rfl, _, rfl, fun _ => out_0 _⟩
  · match e, he with
    | 0, he =>
      have he' : 2 = code := he
      subst he'
      refine xWp.gq rfl trivial rfl (hc y o) (by decide) (fun r w9 h9 => ?_)
      obtain ⟨rfl, rfl⟩ := h9
      show xWp (m_i k_L_setLimit) (m_b k_L_setLimit) none (m_hd k_L_setLimit) (xCW 20) _ (19, _, _, _, _)
      exact xWp.gf rfl trivial rfl (Or.inl rfl) ⟨rfl, o, rfl, fun z => by cases z⟩
    | 1, he =>
      have he' : 0 = code := he
      omega
    | 2, he =>
      have he' : 1 = code := he
      subst he'
      refine xWp.gq rfl trivial rfl (hc y o) (by decide) (fun r w9 h9 => ?_)
      obtain ⟨rfl, rfl⟩ := h9
      show xWp (m_i k_L_setLimit) (m_b k_L_setLimit) none (m_hd k_L_setLimit) (xCW 20) _ (15, _, _, _, _)
      exact xWp.gf rfl trivial rfl (Or.inl rfl) ⟨rfl, o, rfl, fun z => by cases z⟩
    | e + 3, he =>
      have he' : 0 = code := he
      omega
set_option maxHeartbeats 4000000 in
theorem w_change {v0 b : Int32} {r : xR} {code : Nat} (hc : ∀ y0 o, xCW 20 k_X2_change [.ref 0, .int v0] (wW x y0 o) (xIs r (wW x' y0 o))) (hl : (r = .inl (some (.int b)) ∧ code = 0) ∨ ∃ e, r = .inr e ∧ esA e = code ∧ 1 ≤ code) : xCW 21 k_L_change [.ref 0, .int v0, .ref 32] (wW x y o) (wQ x' y code (b.toInt64)) := by
  rcases hl with ⟨rfl, rfl⟩ | ⟨e, rfl, he, h1⟩
  · refine xWp.gc rfl trivial rfl (hc y o) (by decide) ?_
    exact xWp.gf rfl ⟨in_nI (k := 0) (by omega) (by omega), trivial⟩ rfl (Or.inl rfl) ⟨rfl, _, rfl, fun _ => out_0 _⟩
  · match e, he with
    | 0, he =>
      have he' : 1 = code := he
      subst he'
      refine xWp.gq rfl trivial rfl (hc y o) (by decide) (fun r w9 h9 => ?_)
      obtain ⟨rfl, rfl⟩ := h9
      show xWp (m_i k_L_change) (m_b k_L_change) none (m_hd k_L_change) (xCW 20) _ (13, _, _, _, _)
      exact xWp.gf rfl trivial rfl (Or.inl rfl) ⟨rfl, o, rfl, fun z => by cases z⟩
    | 1, he =>
      have he' : 2 = code := he
      subst he'
      refine xWp.gq rfl trivial rfl (hc y o) (by decide) (fun r w9 h9 => ?_)
      obtain ⟨rfl, rfl⟩ := h9
      show xWp (m_i k_L_change) (m_b k_L_change) none (m_hd k_L_change) (xCW 20) _ (16, _, _, _, _)
      exact xWp.gf rfl trivial rfl (Or.inl rfl) ⟨rfl, o, rfl, fun z => by cases z⟩
    | 2, he =>
      have he' : 0 = code := he
      omega
    | e + 3, he =>
      have he' : 0 = code := he
      omega
set_option maxHeartbeats 4000000 in
theorem w_need {v0 v1 b : Int32} {r : xR} {code : Nat} (hc : ∀ y0 o, xCW 20 k_X2_need [.ref 0, .int v0, .int v1] (wW x y0 o) (xIs r (wW x' y0 o))) (hl : (r = .inl (some (.int b)) ∧ code = 0) ∨ ∃ e, r = .inr e ∧ esN e = code ∧ 1 ≤ code) : xCW 21 k_L_need [.ref 0, .int v0, .int v1, .ref 32] (wW x y o) (wQ x' y code (b.toInt64)) := by
  rcases hl with ⟨rfl, rfl⟩ | ⟨e, rfl, he, h1⟩
  · refine xWp.gc rfl trivial rfl (hc y o) (by decide) ?_
    exact xWp.gf rfl ⟨in_nI (k := 0) (by omega) (by omega), trivial⟩ rfl (Or.inl rfl) ⟨rfl, _, rfl, fun _ => out_0 _⟩
  · match e, he with
    | 0, he =>
      have he' : 2 = code := he
      subst he'
      refine xWp.gq rfl trivial rfl (hc y o) (by decide) (fun r w9 h9 => ?_)
      obtain ⟨rfl, rfl⟩ := h9
      show xWp (m_i k_L_need) (m_b k_L_need) none (m_hd k_L_need) (xCW 20) _ (19, _, _, _, _)
      exact xWp.gf rfl trivial rfl (Or.inl rfl) ⟨rfl, o, rfl, fun z => by cases z⟩
    | 1, he =>
      have he' : 3 = code := he
      subst he'
      refine xWp.gq rfl trivial rfl (hc y o) (by decide) (fun r w9 h9 => ?_)
      obtain ⟨rfl, rfl⟩ := h9
      show xWp (m_i k_L_need) (m_b k_L_need) none (m_hd k_L_need) (xCW 20) _ (23, _, _, _, _)
      exact xWp.gf rfl trivial rfl (Or.inl rfl) ⟨rfl, o, rfl, fun z => by cases z⟩
    | 2, he =>
      have he' : 1 = code := he
      subst he'
      refine xWp.gq rfl trivial rfl (hc y o) (by decide) (fun r w9 h9 => ?_)
      obtain ⟨rfl, rfl⟩ := h9
      show xWp (m_i k_L_need) (m_b k_L_need) none (m_hd k_L_need) (xCW 20) _ (15, _, _, _, _)
      exact xWp.gf rfl trivial rfl (Or.inl rfl) ⟨rfl, o, rfl, fun z => by cases z⟩
    | e + 3, he =>
      have he' : 0 = code := he
      omega
set_option maxHeartbeats 4000000 in
theorem w_setBroken {v0 v1 b : Int32} {r : xR} {code : Nat} (hc : ∀ y0 o, xCW 20 k_X2_setBroken [.ref 0, .int v0, .int v1] (wW x y0 o) (xIs r (wW x' y0 o))) (hl : (r = .inl (some (.int b)) ∧ code = 0) ∨ ∃ e, r = .inr e ∧ esI e = code ∧ 1 ≤ code) : xCW 21 k_L_setBroken [.ref 0, .int v0, .int v1, .ref 32] (wW x y o) (wQ x' y code (bL b)) := by
  rcases hl with ⟨rfl, rfl⟩ | ⟨e, rfl, he, h1⟩
  · refine xWp.gc rfl trivial rfl (hc y o) (by decide) ?_
    refine xWp.gb rfl trivial rfl (fun hb => ?_) (fun hb => ?_)
    · exact xWp.gf rfl ⟨in_nI (k := 0) (by omega) (by omega), trivial⟩ rfl (Or.inl rfl) ⟨rfl, _, rfl, fun _ => (out_0 _).trans (if_pos hb).symm⟩
    · exact xWp.gf rfl ⟨in_nI (k := 0) (by omega) (by omega), trivial⟩ rfl (Or.inl rfl) ⟨rfl, _, rfl, fun _ => (out_0 _).trans (if_neg hb).symm⟩
  · match e, he with
    | 0, he =>
      have he' : 0 = code := he
      omega
    | 1, he =>
      have he' : 2 = code := he
      subst he'
      refine xWp.gq rfl trivial rfl (hc y o) (by decide) (fun r w9 h9 => ?_)
      obtain ⟨rfl, rfl⟩ := h9
      show xWp (m_i k_L_setBroken) (m_b k_L_setBroken) none (m_hd k_L_setBroken) (xCW 20) _ (26, _, _, _, _)
      exact xWp.gf rfl trivial rfl (Or.inl rfl) ⟨rfl, o, rfl, fun z => by cases z⟩
    | 2, he =>
      have he' : 1 = code := he
      subst he'
      refine xWp.gq rfl trivial rfl (hc y o) (by decide) (fun r w9 h9 => ?_)
      obtain ⟨rfl, rfl⟩ := h9
      show xWp (m_i k_L_setBroken) (m_b k_L_setBroken) none (m_hd k_L_setBroken) (xCW 20) _ (22, _, _, _, _)
      exact xWp.gf rfl trivial rfl (Or.inl rfl) ⟨rfl, o, rfl, fun z => by cases z⟩
    | e + 3, he =>
      have he' : 0 = code := he
      omega
set_option maxHeartbeats 4000000 in
theorem w_setClash {v0 v1 v2 b : Int32} {r : xR} {code : Nat} (hc : ∀ y0 o, xCW 20 k_X2_setClash [.ref 0, .int v0, .int v1, .int v2] (wW x y0 o) (xIs r (wW x' y0 o))) (hl : (r = .inl (some (.int b)) ∧ code = 0) ∨ ∃ e, r = .inr e ∧ esN e = code ∧ 1 ≤ code) : xCW 21 k_L_setClash [.ref 0, .int v0, .int v1, .int v2, .ref 32] (wW x y o) (wQ x' y code (bL b)) := by
  rcases hl with ⟨rfl, rfl⟩ | ⟨e, rfl, he, h1⟩
  · refine xWp.gc rfl trivial rfl (hc y o) (by decide) ?_
    refine xWp.gb rfl trivial rfl (fun hb => ?_) (fun hb => ?_)
    · exact xWp.gf rfl ⟨in_nI (k := 0) (by omega) (by omega), trivial⟩ rfl (Or.inl rfl) ⟨rfl, _, rfl, fun _ => (out_0 _).trans (if_pos hb).symm⟩
    · exact xWp.gf rfl ⟨in_nI (k := 0) (by omega) (by omega), trivial⟩ rfl (Or.inl rfl) ⟨rfl, _, rfl, fun _ => (out_0 _).trans (if_neg hb).symm⟩
  · match e, he with
    | 0, he =>
      have he' : 2 = code := he
      subst he'
      refine xWp.gq rfl trivial rfl (hc y o) (by decide) (fun r w9 h9 => ?_)
      obtain ⟨rfl, rfl⟩ := h9
      show xWp (m_i k_L_setClash) (m_b k_L_setClash) none (m_hd k_L_setClash) (xCW 20) _ (28, _, _, _, _)
      exact xWp.gf rfl trivial rfl (Or.inl rfl) ⟨rfl, o, rfl, fun z => by cases z⟩
    | 1, he =>
      have he' : 3 = code := he
      subst he'
      refine xWp.gq rfl trivial rfl (hc y o) (by decide) (fun r w9 h9 => ?_)
      obtain ⟨rfl, rfl⟩ := h9
      show xWp (m_i k_L_setClash) (m_b k_L_setClash) none (m_hd k_L_setClash) (xCW 20) _ (32, _, _, _, _)
      exact xWp.gf rfl trivial rfl (Or.inl rfl) ⟨rfl, o, rfl, fun z => by cases z⟩
    | 2, he =>
      have he' : 1 = code := he
      subst he'
      refine xWp.gq rfl trivial rfl (hc y o) (by decide) (fun r w9 h9 => ?_)
      obtain ⟨rfl, rfl⟩ := h9
      show xWp (m_i k_L_setClash) (m_b k_L_setClash) none (m_hd k_L_setClash) (xCW 20) _ (24, _, _, _, _)
      exact xWp.gf rfl trivial rfl (Or.inl rfl) ⟨rfl, o, rfl, fun z => by cases z⟩
    | e + 3, he =>
      have he' : 0 = code := he
      omega
set_option maxHeartbeats 4000000 in
theorem w_mend {v0 b : Int32} {r : xR} {code : Nat} (hc : ∀ y0 o, xCW 20 k_X2_mend [.ref 0, .int v0] (wW x y0 o) (xIs r (wW x' y0 o))) (hl : (r = .inl (some (.int b)) ∧ code = 0) ∨ ∃ e, r = .inr e ∧ esI e = code ∧ 1 ≤ code) : xCW 21 k_L_mend [.ref 0, .int v0, .ref 32] (wW x y o) (wQ x' y code (b.toInt64)) := by
  rcases hl with ⟨rfl, rfl⟩ | ⟨e, rfl, he, h1⟩
  · refine xWp.gc rfl trivial rfl (hc y o) (by decide) ?_
    exact xWp.gf rfl ⟨in_nI (k := 0) (by omega) (by omega), trivial⟩ rfl (Or.inl rfl) ⟨rfl, _, rfl, fun _ => out_0 _⟩
  · match e, he with
    | 0, he =>
      have he' : 0 = code := he
      omega
    | 1, he =>
      have he' : 2 = code := he
      subst he'
      refine xWp.gq rfl trivial rfl (hc y o) (by decide) (fun r w9 h9 => ?_)
      obtain ⟨rfl, rfl⟩ := h9
      show xWp (m_i k_L_mend) (m_b k_L_mend) none (m_hd k_L_mend) (xCW 20) _ (16, _, _, _, _)
      exact xWp.gf rfl trivial rfl (Or.inl rfl) ⟨rfl, o, rfl, fun z => by cases z⟩
    | 2, he =>
      have he' : 1 = code := he
      subst he'
      refine xWp.gq rfl trivial rfl (hc y o) (by decide) (fun r w9 h9 => ?_)
      obtain ⟨rfl, rfl⟩ := h9
      show xWp (m_i k_L_mend) (m_b k_L_mend) none (m_hd k_L_mend) (xCW 20) _ (13, _, _, _, _)
      exact xWp.gf rfl trivial rfl (Or.inl rfl) ⟨rfl, o, rfl, fun z => by cases z⟩
    | e + 3, he =>
      have he' : 0 = code := he
      omega
set_option maxHeartbeats 4000000 in
theorem w_takeOut {v0 b : Int32} {r : xR} {code : Nat} (hc : ∀ y0 o, xCW 20 k_X2_takeOut [.ref 0, .int v0] (wW x y0 o) (xIs r (wW x' y0 o))) (hl : (r = .inl (some (.int b)) ∧ code = 0) ∨ ∃ e, r = .inr e ∧ esI e = code ∧ 1 ≤ code) : xCW 21 k_L_takeOut [.ref 0, .int v0, .ref 32] (wW x y o) (wQ x' y code (b.toInt64)) := by
  rcases hl with ⟨rfl, rfl⟩ | ⟨e, rfl, he, h1⟩
  · refine xWp.gc rfl trivial rfl (hc y o) (by decide) ?_
    exact xWp.gf rfl ⟨in_nI (k := 0) (by omega) (by omega), trivial⟩ rfl (Or.inl rfl) ⟨rfl, _, rfl, fun _ => out_0 _⟩
  · match e, he with
    | 0, he =>
      have he' : 0 = code := he
      omega
    | 1, he =>
      have he' : 2 = code := he
      subst he'
      refine xWp.gq rfl trivial rfl (hc y o) (by decide) (fun r w9 h9 => ?_)
      obtain ⟨rfl, rfl⟩ := h9
      show xWp (m_i k_L_takeOut) (m_b k_L_takeOut) none (m_hd k_L_takeOut) (xCW 20) _ (16, _, _, _, _)
      exact xWp.gf rfl trivial rfl (Or.inl rfl) ⟨rfl, o, rfl, fun z => by cases z⟩
    | 2, he =>
      have he' : 1 = code := he
      subst he'
      refine xWp.gq rfl trivial rfl (hc y o) (by decide) (fun r w9 h9 => ?_)
      obtain ⟨rfl, rfl⟩ := h9
      show xWp (m_i k_L_takeOut) (m_b k_L_takeOut) none (m_hd k_L_takeOut) (xCW 20) _ (13, _, _, _, _)
      exact xWp.gf rfl trivial rfl (Or.inl rfl) ⟨rfl, o, rfl, fun z => by cases z⟩
    | e + 3, he =>
      have he' : 0 = code := he
      omega
set_option maxHeartbeats 4000000 in
theorem w_merge {v0 b : Int32} {r : xR} {code : Nat} (hc : ∀ y0 o, xCW 20 k_X2_merge [.ref 0, .int v0] (wW x y0 o) (xIs r (wW x' y0 o))) (hl : (r = .inl (some (.int b)) ∧ code = 0) ∨ ∃ e, r = .inr e ∧ esA e = code ∧ 1 ≤ code) : xCW 21 k_L_merge [.ref 0, .int v0, .ref 32] (wW x y o) (wQ x' y code (b.toInt64)) := by
  rcases hl with ⟨rfl, rfl⟩ | ⟨e, rfl, he, h1⟩
  · refine xWp.gc rfl trivial rfl (hc y o) (by decide) ?_
    exact xWp.gf rfl ⟨in_nI (k := 0) (by omega) (by omega), trivial⟩ rfl (Or.inl rfl) ⟨rfl, _, rfl, fun _ => out_0 _⟩
  · match e, he with
    | 0, he =>
      have he' : 1 = code := he
      subst he'
      refine xWp.gq rfl trivial rfl (hc y o) (by decide) (fun r w9 h9 => ?_)
      obtain ⟨rfl, rfl⟩ := h9
      show xWp (m_i k_L_merge) (m_b k_L_merge) none (m_hd k_L_merge) (xCW 20) _ (13, _, _, _, _)
      exact xWp.gf rfl trivial rfl (Or.inl rfl) ⟨rfl, o, rfl, fun z => by cases z⟩
    | 1, he =>
      have he' : 2 = code := he
      subst he'
      refine xWp.gq rfl trivial rfl (hc y o) (by decide) (fun r w9 h9 => ?_)
      obtain ⟨rfl, rfl⟩ := h9
      show xWp (m_i k_L_merge) (m_b k_L_merge) none (m_hd k_L_merge) (xCW 20) _ (16, _, _, _, _)
      exact xWp.gf rfl trivial rfl (Or.inl rfl) ⟨rfl, o, rfl, fun z => by cases z⟩
    | 2, he =>
      have he' : 0 = code := he
      omega
    | e + 3, he =>
      have he' : 0 = code := he
      omega
set_option maxHeartbeats 4000000 in
theorem w_queuedAt {v0 b : Int32} {r : xR} {code : Nat} (hc : ∀ y0 o, xCW 20 k_X2_queuedAt [.ref 0, .int v0] (wW x y0 o) (xIs r (wW x' y0 o))) (hl : (r = .inl (some (.int b)) ∧ code = 0) ∨ ∃ e, r = .inr e ∧ esO e = code ∧ 1 ≤ code) : xCW 21 k_L_queuedAt [.ref 0, .int v0, .ref 32] (wW x y o) (wQ x' y code (b.toInt64)) := by
  rcases hl with ⟨rfl, rfl⟩ | ⟨e, rfl, he, h1⟩
  · refine xWp.gc rfl trivial rfl (hc y o) (by decide) ?_
    exact xWp.gf rfl ⟨in_nI (k := 0) (by omega) (by omega), trivial⟩ rfl (Or.inl rfl) ⟨rfl, _, rfl, fun _ => out_0 _⟩
  · match e, he with
    | 0, he =>
      have he' : 0 = code := he
      omega
    | 1, he =>
      have he' : 0 = code := he
      omega
    | 2, he =>
      have he' : 1 = code := he
      subst he'
      refine xWp.gq rfl trivial rfl (hc y o) (by decide) (fun r w9 h9 => ?_)
      obtain ⟨rfl, rfl⟩ := h9
      show xWp (m_i k_L_queuedAt) (m_b k_L_queuedAt) none (m_hd k_L_queuedAt) (xCW 20) _ (13, _, _, _, _)
      exact xWp.gf rfl trivial rfl (Or.inl rfl) ⟨rfl, o, rfl, fun z => by cases z⟩
    | e + 3, he =>
      have he' : 0 = code := he
      omega
set_option maxHeartbeats 4000000 in
theorem w_wouldPass {v0 b : Int32} {r : xR} {code : Nat} (hc : ∀ y0 o, xCW 20 k_X2_wouldPass [.ref 0, .int v0] (wW x y0 o) (xIs r (wW x' y0 o))) (hl : (r = .inl (some (.int b)) ∧ code = 0) ∨ ∃ e, r = .inr e ∧ esA e = code ∧ 1 ≤ code) : xCW 21 k_L_wouldPass [.ref 0, .int v0, .ref 32] (wW x y o) (wQ x' y code (b.toInt64)) := by
  rcases hl with ⟨rfl, rfl⟩ | ⟨e, rfl, he, h1⟩
  · refine xWp.gc rfl trivial rfl (hc y o) (by decide) ?_
    exact xWp.gf rfl ⟨in_nI (k := 0) (by omega) (by omega), trivial⟩ rfl (Or.inl rfl) ⟨rfl, _, rfl, fun _ => out_0 _⟩
  · match e, he with
    | 0, he =>
      have he' : 1 = code := he
      subst he'
      refine xWp.gq rfl trivial rfl (hc y o) (by decide) (fun r w9 h9 => ?_)
      obtain ⟨rfl, rfl⟩ := h9
      show xWp (m_i k_L_wouldPass) (m_b k_L_wouldPass) none (m_hd k_L_wouldPass) (xCW 20) _ (13, _, _, _, _)
      exact xWp.gf rfl trivial rfl (Or.inl rfl) ⟨rfl, o, rfl, fun z => by cases z⟩
    | 1, he =>
      have he' : 2 = code := he
      subst he'
      refine xWp.gq rfl trivial rfl (hc y o) (by decide) (fun r w9 h9 => ?_)
      obtain ⟨rfl, rfl⟩ := h9
      show xWp (m_i k_L_wouldPass) (m_b k_L_wouldPass) none (m_hd k_L_wouldPass) (xCW 20) _ (16, _, _, _, _)
      exact xWp.gf rfl trivial rfl (Or.inl rfl) ⟨rfl, o, rfl, fun z => by cases z⟩
    | 2, he =>
      have he' : 0 = code := he
      omega
    | e + 3, he =>
      have he' : 0 = code := he
      omega
set_option maxHeartbeats 4000000 in
theorem w_wouldPassOneByOne {v0 b : Int32} {r : xR} {code : Nat} (hc : ∀ y0 o, xCW 20 k_X2_wouldPassOneByOne [.ref 0, .int v0] (wW x y0 o) (xIs r (wW x' y0 o))) (hl : (r = .inl (some (.int b)) ∧ code = 0) ∨ ∃ e, r = .inr e ∧ esA e = code ∧ 1 ≤ code) : xCW 21 k_L_wouldPassOneByOne [.ref 0, .int v0, .ref 32] (wW x y o) (wQ x' y code (b.toInt64)) := by
  rcases hl with ⟨rfl, rfl⟩ | ⟨e, rfl, he, h1⟩
  · refine xWp.gc rfl trivial rfl (hc y o) (by decide) ?_
    exact xWp.gf rfl ⟨in_nI (k := 0) (by omega) (by omega), trivial⟩ rfl (Or.inl rfl) ⟨rfl, _, rfl, fun _ => out_0 _⟩
  · match e, he with
    | 0, he =>
      have he' : 1 = code := he
      subst he'
      refine xWp.gq rfl trivial rfl (hc y o) (by decide) (fun r w9 h9 => ?_)
      obtain ⟨rfl, rfl⟩ := h9
      show xWp (m_i k_L_wouldPassOneByOne) (m_b k_L_wouldPassOneByOne) none (m_hd k_L_wouldPassOneByOne) (xCW 20) _ (13, _, _, _, _)
      exact xWp.gf rfl trivial rfl (Or.inl rfl) ⟨rfl, o, rfl, fun z => by cases z⟩
    | 1, he =>
      have he' : 2 = code := he
      subst he'
      refine xWp.gq rfl trivial rfl (hc y o) (by decide) (fun r w9 h9 => ?_)
      obtain ⟨rfl, rfl⟩ := h9
      show xWp (m_i k_L_wouldPassOneByOne) (m_b k_L_wouldPassOneByOne) none (m_hd k_L_wouldPassOneByOne) (xCW 20) _ (16, _, _, _, _)
      exact xWp.gf rfl trivial rfl (Or.inl rfl) ⟨rfl, o, rfl, fun z => by cases z⟩
    | 2, he =>
      have he' : 0 = code := he
      omega
    | e + 3, he =>
      have he' : 0 = code := he
      omega
set_option maxHeartbeats 4000000 in
theorem w_wouldTake {v0 v1 b : Int32} {r : xR} {code : Nat} (hc : ∀ y0 o, xCW 20 k_X2_wouldTake [.ref 0, .int v0, .int v1] (wW x y0 o) (xIs r (wW x' y0 o))) (hl : (r = .inl (some (.int b)) ∧ code = 0) ∨ ∃ e, r = .inr e ∧ esA e = code ∧ 1 ≤ code) : xCW 21 k_L_wouldTake [.ref 0, .int v0, .int v1, .ref 32] (wW x y o) (wQ x' y code (b.toInt64)) := by
  rcases hl with ⟨rfl, rfl⟩ | ⟨e, rfl, he, h1⟩
  · refine xWp.gc rfl trivial rfl (hc y o) (by decide) ?_
    exact xWp.gf rfl ⟨in_nI (k := 0) (by omega) (by omega), trivial⟩ rfl (Or.inl rfl) ⟨rfl, _, rfl, fun _ => out_0 _⟩
  · match e, he with
    | 0, he =>
      have he' : 1 = code := he
      subst he'
      refine xWp.gq rfl trivial rfl (hc y o) (by decide) (fun r w9 h9 => ?_)
      obtain ⟨rfl, rfl⟩ := h9
      show xWp (m_i k_L_wouldTake) (m_b k_L_wouldTake) none (m_hd k_L_wouldTake) (xCW 20) _ (15, _, _, _, _)
      exact xWp.gf rfl trivial rfl (Or.inl rfl) ⟨rfl, o, rfl, fun z => by cases z⟩
    | 1, he =>
      have he' : 2 = code := he
      subst he'
      refine xWp.gq rfl trivial rfl (hc y o) (by decide) (fun r w9 h9 => ?_)
      obtain ⟨rfl, rfl⟩ := h9
      show xWp (m_i k_L_wouldTake) (m_b k_L_wouldTake) none (m_hd k_L_wouldTake) (xCW 20) _ (19, _, _, _, _)
      exact xWp.gf rfl trivial rfl (Or.inl rfl) ⟨rfl, o, rfl, fun z => by cases z⟩
    | 2, he =>
      have he' : 0 = code := he
      omega
    | e + 3, he =>
      have he' : 0 = code := he
      omega
set_option maxHeartbeats 4000000 in
theorem w_columnOf {v0 b : Int32} {r : xR} {code : Nat} (hc : ∀ y0 o, xCW 20 k_X2_columnOf [.ref 0, .int v0] (wW x y0 o) (xIs r (wW x' y0 o))) (hl : (r = .inl (some (.int b)) ∧ code = 0) ∨ ∃ e, r = .inr e ∧ esO e = code ∧ 1 ≤ code) : xCW 21 k_L_columnOf [.ref 0, .int v0, .ref 32] (wW x y o) (wQ x' y code (b.toInt64)) := by
  rcases hl with ⟨rfl, rfl⟩ | ⟨e, rfl, he, h1⟩
  · refine xWp.gc rfl trivial rfl (hc y o) (by decide) ?_
    exact xWp.gf rfl ⟨in_nI (k := 0) (by omega) (by omega), trivial⟩ rfl (Or.inl rfl) ⟨rfl, _, rfl, fun _ => out_0 _⟩
  · match e, he with
    | 0, he =>
      have he' : 0 = code := he
      omega
    | 1, he =>
      have he' : 0 = code := he
      omega
    | 2, he =>
      have he' : 1 = code := he
      subst he'
      refine xWp.gq rfl trivial rfl (hc y o) (by decide) (fun r w9 h9 => ?_)
      obtain ⟨rfl, rfl⟩ := h9
      show xWp (m_i k_L_columnOf) (m_b k_L_columnOf) none (m_hd k_L_columnOf) (xCW 20) _ (13, _, _, _, _)
      exact xWp.gf rfl trivial rfl (Or.inl rfl) ⟨rfl, o, rfl, fun z => by cases z⟩
    | e + 3, he =>
      have he' : 0 = code := he
      omega
set_option maxHeartbeats 4000000 in
theorem w_cardsIn {v0 b : Int32} {r : xR} {code : Nat} (hc : ∀ y0 o, xCW 20 k_X2_cardsIn [.ref 0, .int v0] (wW x y0 o) (xIs r (wW x' y0 o))) (hl : (r = .inl (some (.int b)) ∧ code = 0) ∨ ∃ e, r = .inr e ∧ esO e = code ∧ 1 ≤ code) : xCW 21 k_L_cardsIn [.ref 0, .int v0, .ref 32] (wW x y o) (wQ x' y code (b.toInt64)) := by
  rcases hl with ⟨rfl, rfl⟩ | ⟨e, rfl, he, h1⟩
  · refine xWp.gc rfl trivial rfl (hc y o) (by decide) ?_
    exact xWp.gf rfl ⟨in_nI (k := 0) (by omega) (by omega), trivial⟩ rfl (Or.inl rfl) ⟨rfl, _, rfl, fun _ => out_0 _⟩
  · match e, he with
    | 0, he =>
      have he' : 0 = code := he
      omega
    | 1, he =>
      have he' : 0 = code := he
      omega
    | 2, he =>
      have he' : 1 = code := he
      subst he'
      refine xWp.gq rfl trivial rfl (hc y o) (by decide) (fun r w9 h9 => ?_)
      obtain ⟨rfl, rfl⟩ := h9
      show xWp (m_i k_L_cardsIn) (m_b k_L_cardsIn) none (m_hd k_L_cardsIn) (xCW 20) _ (13, _, _, _, _)
      exact xWp.gf rfl trivial rfl (Or.inl rfl) ⟨rfl, o, rfl, fun z => by cases z⟩
    | e + 3, he =>
      have he' : 0 = code := he
      omega
set_option maxHeartbeats 4000000 in
theorem w_cardAt {v0 v1 b : Int32} {r : xR} {code : Nat} (hc : ∀ y0 o, xCW 20 k_X2_cardAt [.ref 0, .int v0, .int v1] (wW x y0 o) (xIs r (wW x' y0 o))) (hl : (r = .inl (some (.int b)) ∧ code = 0) ∨ ∃ e, r = .inr e ∧ esO e = code ∧ 1 ≤ code) : xCW 21 k_L_cardAt [.ref 0, .int v0, .int v1, .ref 32] (wW x y o) (wQ x' y code (b.toInt64)) := by
  rcases hl with ⟨rfl, rfl⟩ | ⟨e, rfl, he, h1⟩
  · refine xWp.gc rfl trivial rfl (hc y o) (by decide) ?_
    exact xWp.gf rfl ⟨in_nI (k := 0) (by omega) (by omega), trivial⟩ rfl (Or.inl rfl) ⟨rfl, _, rfl, fun _ => out_0 _⟩
  · match e, he with
    | 0, he =>
      have he' : 0 = code := he
      omega
    | 1, he =>
      have he' : 0 = code := he
      omega
    | 2, he =>
      have he' : 1 = code := he
      subst he'
      refine xWp.gq rfl trivial rfl (hc y o) (by decide) (fun r w9 h9 => ?_)
      obtain ⟨rfl, rfl⟩ := h9
      show xWp (m_i k_L_cardAt) (m_b k_L_cardAt) none (m_hd k_L_cardAt) (xCW 20) _ (15, _, _, _, _)
      exact xWp.gf rfl trivial rfl (Or.inl rfl) ⟨rfl, o, rfl, fun z => by cases z⟩
    | e + 3, he =>
      have he' : 0 = code := he
      omega
set_option maxHeartbeats 4000000 in
theorem w_canMove {v0 b : Int32} {r : xR} {code : Nat} (hc : ∀ y0 o, xCW 20 k_X2_canMove [.ref 0, .int v0] (wW x y0 o) (xIs r (wW x' y0 o))) (hl : (r = .inl (some (.int b)) ∧ code = 0) ∨ ∃ e, r = .inr e ∧ esO e = code ∧ 1 ≤ code) : xCW 21 k_L_canMove [.ref 0, .int v0, .ref 32] (wW x y o) (wQ x' y code (bL b)) := by
  rcases hl with ⟨rfl, rfl⟩ | ⟨e, rfl, he, h1⟩
  · refine xWp.gc rfl trivial rfl (hc y o) (by decide) ?_
    refine xWp.gb rfl trivial rfl (fun hb => ?_) (fun hb => ?_)
    · exact xWp.gf rfl ⟨in_nI (k := 0) (by omega) (by omega), trivial⟩ rfl (Or.inl rfl) ⟨rfl, _, rfl, fun _ => (out_0 _).trans (if_pos hb).symm⟩
    · exact xWp.gf rfl ⟨in_nI (k := 0) (by omega) (by omega), trivial⟩ rfl (Or.inl rfl) ⟨rfl, _, rfl, fun _ => (out_0 _).trans (if_neg hb).symm⟩
  · match e, he with
    | 0, he =>
      have he' : 0 = code := he
      omega
    | 1, he =>
      have he' : 0 = code := he
      omega
    | 2, he =>
      have he' : 1 = code := he
      subst he'
      refine xWp.gq rfl trivial rfl (hc y o) (by decide) (fun r w9 h9 => ?_)
      obtain ⟨rfl, rfl⟩ := h9
      show xWp (m_i k_L_canMove) (m_b k_L_canMove) none (m_hd k_L_canMove) (xCW 20) _ (20, _, _, _, _)
      exact xWp.gf rfl trivial rfl (Or.inl rfl) ⟨rfl, o, rfl, fun z => by cases z⟩
    | e + 3, he =>
      have he' : 0 = code := he
      omega
set_option maxHeartbeats 4000000 in
theorem w_lacks {v0 b : Int32} {r : xR} {code : Nat} (hc : ∀ y0 o, xCW 20 k_X2_lacks [.ref 0, .int v0] (wW x y0 o) (xIs r (wW x' y0 o))) (hl : (r = .inl (some (.int b)) ∧ code = 0) ∨ ∃ e, r = .inr e ∧ esO e = code ∧ 1 ≤ code) : xCW 21 k_L_lacks [.ref 0, .int v0, .ref 32] (wW x y o) (wQ x' y code (b.toInt64)) := by
  rcases hl with ⟨rfl, rfl⟩ | ⟨e, rfl, he, h1⟩
  · refine xWp.gc rfl trivial rfl (hc y o) (by decide) ?_
    exact xWp.gf rfl ⟨in_nI (k := 0) (by omega) (by omega), trivial⟩ rfl (Or.inl rfl) ⟨rfl, _, rfl, fun _ => out_0 _⟩
  · match e, he with
    | 0, he =>
      have he' : 0 = code := he
      omega
    | 1, he =>
      have he' : 0 = code := he
      omega
    | 2, he =>
      have he' : 1 = code := he
      subst he'
      refine xWp.gq rfl trivial rfl (hc y o) (by decide) (fun r w9 h9 => ?_)
      obtain ⟨rfl, rfl⟩ := h9
      show xWp (m_i k_L_lacks) (m_b k_L_lacks) none (m_hd k_L_lacks) (xCW 20) _ (13, _, _, _, _)
      exact xWp.gf rfl trivial rfl (Or.inl rfl) ⟨rfl, o, rfl, fun z => by cases z⟩
    | e + 3, he =>
      have he' : 0 = code := he
      omega
set_option maxHeartbeats 4000000 in
theorem w_falls {v0 b : Int32} {r : xR} {code : Nat} (hc : ∀ y0 o, xCW 20 k_X2_falls [.ref 0, .int v0] (wW x y0 o) (xIs r (wW x' y0 o))) (hl : (r = .inl (some (.int b)) ∧ code = 0) ∨ ∃ e, r = .inr e ∧ esO e = code ∧ 1 ≤ code) : xCW 21 k_L_falls [.ref 0, .int v0, .ref 32] (wW x y o) (wQ x' y code (b.toInt64)) := by
  rcases hl with ⟨rfl, rfl⟩ | ⟨e, rfl, he, h1⟩
  · refine xWp.gc rfl trivial rfl (hc y o) (by decide) ?_
    exact xWp.gf rfl ⟨in_nI (k := 0) (by omega) (by omega), trivial⟩ rfl (Or.inl rfl) ⟨rfl, _, rfl, fun _ => out_0 _⟩
  · match e, he with
    | 0, he =>
      have he' : 0 = code := he
      omega
    | 1, he =>
      have he' : 0 = code := he
      omega
    | 2, he =>
      have he' : 1 = code := he
      subst he'
      refine xWp.gq rfl trivial rfl (hc y o) (by decide) (fun r w9 h9 => ?_)
      obtain ⟨rfl, rfl⟩ := h9
      show xWp (m_i k_L_falls) (m_b k_L_falls) none (m_hd k_L_falls) (xCW 20) _ (13, _, _, _, _)
      exact xWp.gf rfl trivial rfl (Or.inl rfl) ⟨rfl, o, rfl, fun z => by cases z⟩
    | e + 3, he =>
      have he' : 0 = code := he
      omega
set_option maxHeartbeats 4000000 in
theorem w_pushes {v0 b : Int32} {r : xR} {code : Nat} (hc : ∀ y0 o, xCW 20 k_X2_pushes [.ref 0, .int v0] (wW x y0 o) (xIs r (wW x' y0 o))) (hl : (r = .inl (some (.int b)) ∧ code = 0) ∨ ∃ e, r = .inr e ∧ esO e = code ∧ 1 ≤ code) : xCW 21 k_L_pushes [.ref 0, .int v0, .ref 32] (wW x y o) (wQ x' y code (b.toInt64)) := by
  rcases hl with ⟨rfl, rfl⟩ | ⟨e, rfl, he, h1⟩
  · refine xWp.gc rfl trivial rfl (hc y o) (by decide) ?_
    exact xWp.gf rfl ⟨in_nI (k := 0) (by omega) (by omega), trivial⟩ rfl (Or.inl rfl) ⟨rfl, _, rfl, fun _ => out_0 _⟩
  · match e, he with
    | 0, he =>
      have he' : 0 = code := he
      omega
    | 1, he =>
      have he' : 0 = code := he
      omega
    | 2, he =>
      have he' : 1 = code := he
      subst he'
      refine xWp.gq rfl trivial rfl (hc y o) (by decide) (fun r w9 h9 => ?_)
      obtain ⟨rfl, rfl⟩ := h9
      show xWp (m_i k_L_pushes) (m_b k_L_pushes) none (m_hd k_L_pushes) (xCW 20) _ (13, _, _, _, _)
      exact xWp.gf rfl trivial rfl (Or.inl rfl) ⟨rfl, o, rfl, fun z => by cases z⟩
    | e + 3, he =>
      have he' : 0 = code := he
      omega
set_option maxHeartbeats 4000000 in
theorem w_state {v0 b : Int32} {r : xR} {code : Nat} (hc : ∀ y0 o, xCW 20 k_X2_state [.ref 0, .int v0] (wW x y0 o) (xIs r (wW x' y0 o))) (hl : (r = .inl (some (.int b)) ∧ code = 0) ∨ ∃ e, r = .inr e ∧ esO e = code ∧ 1 ≤ code) : xCW 21 k_L_state [.ref 0, .int v0, .ref 32] (wW x y o) (wQ x' y code (b.toInt64)) := by
  rcases hl with ⟨rfl, rfl⟩ | ⟨e, rfl, he, h1⟩
  · refine xWp.gc rfl trivial rfl (hc y o) (by decide) ?_
    exact xWp.gf rfl ⟨in_nI (k := 0) (by omega) (by omega), trivial⟩ rfl (Or.inl rfl) ⟨rfl, _, rfl, fun _ => out_0 _⟩
  · match e, he with
    | 0, he =>
      have he' : 0 = code := he
      omega
    | 1, he =>
      have he' : 0 = code := he
      omega
    | 2, he =>
      have he' : 1 = code := he
      subst he'
      refine xWp.gq rfl trivial rfl (hc y o) (by decide) (fun r w9 h9 => ?_)
      obtain ⟨rfl, rfl⟩ := h9
      show xWp (m_i k_L_state) (m_b k_L_state) none (m_hd k_L_state) (xCW 20) _ (13, _, _, _, _)
      exact xWp.gf rfl trivial rfl (Or.inl rfl) ⟨rfl, o, rfl, fun z => by cases z⟩
    | e + 3, he =>
      have he' : 0 = code := he
      omega
set_option maxHeartbeats 4000000 in
theorem w_namedBy {v0 b : Int32} {r : xR} {code : Nat} (hc : ∀ y0 o, xCW 20 k_X2_namedBy [.ref 0, .int v0] (wW x y0 o) (xIs r (wW x' y0 o))) (hl : (r = .inl (some (.int b)) ∧ code = 0) ∨ ∃ e, r = .inr e ∧ esO e = code ∧ 1 ≤ code) : xCW 21 k_L_namedBy [.ref 0, .int v0, .ref 32] (wW x y o) (wQ x' y code (b.toInt64)) := by
  rcases hl with ⟨rfl, rfl⟩ | ⟨e, rfl, he, h1⟩
  · refine xWp.gc rfl trivial rfl (hc y o) (by decide) ?_
    exact xWp.gf rfl ⟨in_nI (k := 0) (by omega) (by omega), trivial⟩ rfl (Or.inl rfl) ⟨rfl, _, rfl, fun _ => out_0 _⟩
  · match e, he with
    | 0, he =>
      have he' : 0 = code := he
      omega
    | 1, he =>
      have he' : 0 = code := he
      omega
    | 2, he =>
      have he' : 1 = code := he
      subst he'
      refine xWp.gq rfl trivial rfl (hc y o) (by decide) (fun r w9 h9 => ?_)
      obtain ⟨rfl, rfl⟩ := h9
      show xWp (m_i k_L_namedBy) (m_b k_L_namedBy) none (m_hd k_L_namedBy) (xCW 20) _ (13, _, _, _, _)
      exact xWp.gf rfl trivial rfl (Or.inl rfl) ⟨rfl, o, rfl, fun z => by cases z⟩
    | e + 3, he =>
      have he' : 0 = code := he
      omega
end LW
