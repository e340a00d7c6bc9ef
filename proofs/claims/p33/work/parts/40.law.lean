/-! the law's own rows: the world, how they go with the class's state; numbers of places -/
section LW
abbrev lY : Type := Nat → Nat → Int32
def wL (y : lY) : xW := [.inl (0, 10, .inl (y 0)), .inl (0, 50, .inl (y 1)), .inl (0, 60, .inl (y 2)), .inl (0, 12, .inl (y 3)), .inl (0, 7, .inl (y 4))]
abbrev wY (x : xX) (y : lY) (r : xW) : xW := wW x (wL y ++ r)
def yS (y : lY) (a i : Nat) (v : Int32) : lY := va_up y a (upd (y a) i v)
theorem yS_s {y : lY} {a i : Nat} {v : Int32} : yS y a i v a i = v := by unfold yS va_up; rw [if_pos rfl]; exact pk_us
theorem yS_i {y : lY} {a i j : Nat} {v : Int32} (h : j ≠ i) : yS y a i v a j = y a j := by unfold yS va_up; rw [if_pos rfl]; exact pk_un h
theorem yS_a {y : lY} {a b i : Nat} {v : Int32} (h : b ≠ a) : yS y a i v b = y b := by unfold yS va_up; exact if_neg h
theorem nI_mul (a b : Nat) : nI a * nI b = nI (a * b) := (Int32.ofNat_mul a b).symm
theorem ix5 (k i : Nat) : xk 5 0 * nI k + xk i 0 = nI (5 * k + i) := by
  show nI 5 * nI k + nI i = nI (5 * k + i)
  rw [nI_mul, nI_add]
theorem ix50 (k : Nat) : xk 5 0 * nI k = nI (5 * k) := by
  show nI 5 * nI k = nI (5 * k)
  rw [nI_mul]
theorem c5 {k i : Nat} (hk : k ≤ 100) (hi : i ≤ 4) : (xk 5 0 * nI k + xk i 0).toNatClampNeg = 5 * k + i := by rw [ix5]; exact cl_nI (by omega)
theorem c50 {k : Nat} (hk : k ≤ 100) : (xk 5 0 * nI k).toNatClampNeg = 5 * k := by rw [ix50]; exact cl_nI (by omega)
theorem in5 {k i K : Nat} (hk : k < K) (hi : i ≤ 4) (hK : K ≤ 100) : vp_in (xk 5 0 * nI k + xk i 0) (5 * K) := by rw [ix5]; exact in_nI (by omega) (by omega)
theorem in50 {k K : Nat} (hk : k < K) (hK : K ≤ 100) : vp_in (xk 5 0 * nI k) (5 * K) := by rw [ix50]; exact in_nI (by omega) (by omega)
theorem inx {i K : Nat} (h : i < K) (hK : K ≤ 900) : vp_in (xk i 0) K := in_nI h hK
theorem nI_xk (n i : Nat) : nI n + xk i 0 = nI (n + i) := by
  show nI n + nI i = nI (n + i)
  rw [nI_add]
theorem xk_nI (n i : Nat) : xk i 0 + nI n = nI (i + n) := by
  show nI i + nI n = nI (i + n)
  rw [nI_add]
theorem inA {i n K : Nat} (h : i + n < K) (hK : K ≤ 900) : vp_in (xk i 0 + nI n) K := by rw [xk_nI]; exact in_nI h hK
theorem inP {i n K : Nat} (h : n + i < K) (hK : K ≤ 900) : vp_in (nI n + xk i 0) K := by rw [nI_xk]; exact in_nI h hK
theorem nI_z (n : Nat) : nI n + xk 0 0 = nI n := Int32.add_zero _
theorem i32_or0 (v : Int32) : v ||| xk 0 0 = v := b_ext (fun i _ => by rw [b_or]; show (bt v i || bt 0 i) = bt v i; rw [b_0, Bool.or_false])
/-- it returns v, and class, rows and the rest have P -/
def lQ (v : Option Value) (P : xX → lY → xW → Prop) : xR → xW → Prop := fun rr w => ∃ x' y' r', rr = .inl v ∧ w = wY x' y' r' ∧ P x' y' r'
theorem lQ.mk {v : Option Value} {P : xX → lY → xW → Prop} {x' : xX} {y' : lY} {r' : xW} (h : P x' y' r') : lQ v P (.inl v) (wY x' y' r') := ⟨x', y', r', rfl, rfl, h⟩
theorem xWp.gm {I : List (List xI)} {bm : Nat} {scr : xT} {hd : List (Nat × Nat × Nat)} {cl : Nat → List Value → xW → (xR → xW → Prop) → Prop} {Q : xR → xW → Prop} {s : xS} {s' : xS} {g g2 : Prop} {k nx u : Nat} {as st : List Value} {L : xL} {w : xW} (h : xgo I bm scr 9999 60 s = some (g, s')) (hg : g) (h2 : xo I bm scr s' = some (.inr (.inr (.inr (.inl (g2, (k, as, nx, L, st, w, u))))))) {v : Option Value} {P : xX → lY → xW → Prop} (hc : cl k as w (lQ v P)) (hg2 : g2) (kk : ∀ x' y' r', P x' y' r' → xWp I bm scr hd cl Q (nx, L, v.toList ++ st, wY x' y' r', u)) : xWp I bm scr hd cl Q s :=
  xWp.go 9999 h hg (xWp.call h2 hg2 _ hc (fun r w9 h9 => by obtain ⟨x', y', r', rfl, rfl, hP⟩ := h9; exact kk x' y' r' hP))
/-- numbers of cards and changes, the queue, the cards in the order in which they came; the law's rows are the class's -/
def LR (N C : Nat) (q od : List Nat) (t : Nat) (x : xX) (y : lY) : Prop :=
  (cInv N C q t x ∧ N ≤ 10 ∧ C ≤ 12 ∧ ∀ k, ∃ p, p ≤ 9 ∧ x.2 0 k = nI p) ∧
  (y 4 0 = nI N ∧ y 4 1 = nI C ∧ y 4 2 = nI q.length ∧ y 4 3 = x.1 0 ∧ ∀ j, 1 ≤ j → j ≤ 3 → y 4 (3 + j) = x.2 6 j) ∧
  (∀ k, k < 10 → y 1 (5 * k) = x.2 0 k ∧ y 1 (5 * k + 1) = x.2 1 k ∧ y 1 (5 * k + 2) = x.2 3 k ∧ y 1 (5 * k + 3) = x.2 4 k ∧ y 1 (5 * k + 4) = x.2 5 k) ∧
  (∀ c, c < 12 → y 2 (5 * c) = x.2 7 c ∧ y 2 (5 * c + 1) = x.2 10 c ∧ y 2 (5 * c + 2) = bI (bt (x.1 3) c) ∧ y 2 (5 * c + 3) = x.2 8 c ∧ y 2 (5 * c + 4) = x.2 9 c) ∧
  (∀ i v, q[i]? = some v → y 3 i = nI v) ∧
  ((∀ i v, od[i]? = some v → y 0 i = nI v) ∧ od.Nodup ∧ (∀ k, k ∈ od ↔ k < N) ∧ od.length = N ∧ od.Pairwise (fun a b => x.2 2 a < x.2 2 b))
section LR
variable {N C : Nat} {q od : List Nat} {t : Nat} {x : xX} {y : lY}
theorem LR.inv (h : LR N C q od t x y) : cInv N C q t x := h.1.1
theorem LR.n (h : LR N C q od t x y) : N ≤ 10 := h.1.2.1
theorem LR.c (h : LR N C q od t x y) : C ≤ 12 := h.1.2.2.1
theorem LR.rk (h : LR N C q od t x y) (k : Nat) : ∃ p, p ≤ 9 ∧ x.2 0 k = nI p := h.1.2.2.2 k
theorem LR.hN (h : LR N C q od t x y) : y 4 0 = nI N := h.2.1.1
theorem LR.hC (h : LR N C q od t x y) : y 4 1 = nI C := h.2.1.2.1
theorem LR.hQ (h : LR N C q od t x y) : y 4 2 = nI q.length := h.2.1.2.2.1
theorem LR.hH (h : LR N C q od t x y) : y 4 3 = x.1 0 := h.2.1.2.2.2.1
theorem LR.lim (h : LR N C q od t x y) {j : Nat} (h1 : 1 ≤ j) (h3 : j ≤ 3) : y 4 (3 + j) = x.2 6 j := h.2.1.2.2.2.2 j h1 h3
theorem LR.rank (h : LR N C q od t x y) {k : Nat} (hk : k < 10) : y 1 (5 * k) = x.2 0 k := (h.2.2.1 k hk).1
theorem LR.col (h : LR N C q od t x y) {k : Nat} (hk : k < 10) : y 1 (5 * k + 1) = x.2 1 k := (h.2.2.1 k hk).2.1
theorem LR.nam (h : LR N C q od t x y) {k : Nat} (hk : k < 10) : y 1 (5 * k + 2) = x.2 3 k := (h.2.2.1 k hk).2.2.1
theorem LR.fal (h : LR N C q od t x y) {k : Nat} (hk : k < 10) : y 1 (5 * k + 3) = x.2 4 k := (h.2.2.1 k hk).2.2.2.1
theorem LR.pus (h : LR N C q od t x y) {k : Nat} (hk : k < 10) : y 1 (5 * k + 4) = x.2 5 k := (h.2.2.1 k hk).2.2.2.2
theorem LR.wei (h : LR N C q od t x y) {c : Nat} (hc : c < 12) : y 2 (5 * c) = x.2 7 c := (h.2.2.2.1 c hc).1
theorem LR.sta (h : LR N C q od t x y) {c : Nat} (hc : c < 12) : y 2 (5 * c + 1) = x.2 10 c := (h.2.2.2.1 c hc).2.1
theorem LR.bro (h : LR N C q od t x y) {c : Nat} (hc : c < 12) : y 2 (5 * c + 2) = bI (bt (x.1 3) c) := (h.2.2.2.1 c hc).2.2.1
theorem LR.nee (h : LR N C q od t x y) {c : Nat} (hc : c < 12) : y 2 (5 * c + 3) = x.2 8 c := (h.2.2.2.1 c hc).2.2.2.1
theorem LR.cla (h : LR N C q od t x y) {c : Nat} (hc : c < 12) : y 2 (5 * c + 4) = x.2 9 c := (h.2.2.2.1 c hc).2.2.2.2
theorem LR.qu (h : LR N C q od t x y) {i v : Nat} (hi : q[i]? = some v) : y 3 i = nI v := h.2.2.2.2.1 i v hi
theorem LR.oi (h : LR N C q od t x y) {i v : Nat} (hi : od[i]? = some v) : y 0 i = nI v := h.2.2.2.2.2.1 i v hi
theorem LR.ond (h : LR N C q od t x y) : od.Nodup := h.2.2.2.2.2.2.1
theorem LR.oin (h : LR N C q od t x y) (k : Nat) : k ∈ od ↔ k < N := h.2.2.2.2.2.2.2.1 k
theorem LR.ol (h : LR N C q od t x y) : od.length = N := h.2.2.2.2.2.2.2.2.1
theorem LR.oso (h : LR N C q od t x y) : od.Pairwise (fun a b => x.2 2 a < x.2 2 b) := h.2.2.2.2.2.2.2.2.2
theorem LR.q12 (h : LR N C q od t x y) : q.length ≤ 12 := by
  have h1 := nd_len h.inv.1.2.2.1 (fun c hc => h.inv.lt hc)
  have h2 := h.c
  omega
theorem LR.col4 (h : LR N C q od t x y) (k : Nat) : ∃ j, j ≤ 4 ∧ x.2 1 k = nI j := h.inv.col k
end LR
end LW
