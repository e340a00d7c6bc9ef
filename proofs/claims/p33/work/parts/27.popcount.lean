/-! Integer.bitCount counts the bits -/
section PC
theorem and_nib {A d M e : Nat} (hd : d < 16) (he : e < 16) : (16 * A + d) &&& (16 * M + e) = 16 * (A &&& M) + (d &&& e) := by
  have hde : d &&& e < 16 := Nat.lt_of_le_of_lt Nat.and_le_left hd
  apply Nat.eq_of_testBit_eq
  intro i
  have h1 := Nat.testBit_two_pow_mul_add (i := 4) A (b := d) hd i
  have h2 := Nat.testBit_two_pow_mul_add (i := 4) M (b := e) he i
  have h3 := Nat.testBit_two_pow_mul_add (i := 4) (A &&& M) (b := d &&& e) hde i
  rw [show (2 : Nat) ^ 4 = 16 from rfl] at h1 h2 h3
  rw [Nat.testBit_and, h1, h2, h3]
  split
  · rw [Nat.testBit_and]
  · rw [Nat.testBit_and]
def p4 (d : Nat) : Nat := d % 2 + d / 2 % 2 + d / 4 % 2 + d / 8 % 2
def rep (e : Nat) : Nat → Nat
  | 0 => 0
  | k + 1 => 16 * rep e k + e
def pf1 (k n : Nat) : Nat := n - (n / 2 &&& rep 5 k)
def pf2 (k a : Nat) : Nat := (a &&& rep 3 k) + (a / 4 &&& rep 3 k)
def pdg : Nat → Nat → Nat
  | 0, _ => 0
  | k + 1, n => 16 * pdg k (n / 16) + p4 (n % 16)
theorem d1 : ∀ b, b < 2 → ∀ d, d < 16 → (8 * b + d / 2) &&& 5 = (d / 2 &&& 5) ∧ (d / 2 &&& 5) ≤ d := by decide +kernel
theorem d2 : ∀ b, b < 4 → ∀ d, d < 16 → (4 * b + d / 4) &&& 3 = (d / 4 &&& 3) := by decide +kernel
theorem d3 : ∀ d, d < 16 → ((d - (d / 2 &&& 5)) &&& 3) + ((d - (d / 2 &&& 5)) / 4 &&& 3) = p4 d ∧ d - (d / 2 &&& 5) < 16 ∧ p4 d ≤ 4 := by decide +kernel
theorem pf1_s (k A d : Nat) (hd : d < 16) : pf1 (k + 1) (16 * A + d) = 16 * pf1 k A + (d - (d / 2 &&& 5)) := by
  unfold pf1
  rw [rep]
  have e : (16 * A + d) / 2 = 16 * (A / 2) + (8 * (A % 2) + d / 2) := by omega
  rw [e, and_nib (by omega) (by omega)]
  obtain ⟨h1, h2⟩ := d1 (A % 2) (by omega) d hd
  rw [h1]
  have h3 : A / 2 &&& rep 5 k ≤ A := Nat.le_trans Nat.and_le_left (by omega)
  omega
theorem pf2_s (k A d : Nat) (hd : d < 16) : pf2 (k + 1) (16 * A + d) = 16 * pf2 k A + ((d &&& 3) + (d / 4 &&& 3)) := by
  unfold pf2
  rw [rep]
  have e : (16 * A + d) / 4 = 16 * (A / 4) + (4 * (A % 4) + d / 4) := by omega
  rw [e, and_nib (by omega) (by omega), and_nib (by omega) (by omega), d2 (A % 4) (by omega) d hd]
  omega
theorem pf12 : ∀ k n, n < 16 ^ k → pf2 k (pf1 k n) = pdg k n
  | 0, n, h => by
    have : n = 0 := by simpa using h
    subst this; rfl
  | k + 1, n, h => by
    have e : n = 16 * (n / 16) + n % 16 := by omega
    have hd : n % 16 < 16 := by omega
    have hk : n / 16 < 16 ^ k := by rw [Nat.pow_succ] at h; omega
    obtain ⟨h1, h2, h3⟩ := d3 _ hd
    rw [pdg]
    generalize n / 16 = A at *
    generalize n % 16 = d at *
    subst e
    rw [pf1_s k A d hd, pf2_s k _ _ h2, h1, pf12 k A hk]
theorem p4_ct : ∀ d, d < 16 → fb_ct (fun i => d.testBit i) 4 = p4 d := by decide +kernel
theorem ct_tb : ∀ k n, fb_ct (fun i => n.testBit i) (4 * k) = fb_sm (fun j => p4 (n / 16 ^ j % 16)) k
  | 0, n => rfl
  | k + 1, n => by
    have ih := ct_tb k n
    rw [show 4 * (k + 1) = 4 * k + 4 by omega, fb_ct_split, ih, fb_sm_succ]
    congr 1
    have e : ∀ i, i < 4 → n.testBit (4 * k + i) = (n / 16 ^ k % 16).testBit i := by
      intro i hi
      rw [show (16 : Nat) = 2 ^ 4 from rfl, ← Nat.pow_mul, Nat.testBit_mod_two_pow, Nat.testBit_div_two_pow]
      simp [hi, Nat.add_comm]
    rw [fb_ct_cong e]
    exact p4_ct _ (Nat.mod_lt _ (by omega))
def popN (n : Nat) : Nat :=
  let a := n - (n / 2 &&& 1431655765)
  let b := (a &&& 858993459) + (a / 4 &&& 858993459)
  let c := (b + b / 16) &&& 252645135
  let d := c + c / 256
  let e := d + d / 65536
  e &&& 63
theorem nib_f {A d M : Nat} (hd : d < 16) : (16 * A + d) &&& (16 * M + 15) = 16 * (A &&& M) + d := by
  rw [and_nib hd (by omega)]
  have : ∀ d, d < 16 → d &&& 15 = d := by decide +kernel
  rw [this d hd]
theorem nib_0 {A d M : Nat} (hd : d < 16) : (16 * A + d) &&& (16 * M) = 16 * (A &&& M) := by
  have := and_nib (A := A) (d := d) (M := M) (e := 0) hd (by omega)
  simpa using this
theorem rep5 : rep 5 8 = 1431655765 := by decide +kernel
theorem rep3 : rep 3 8 = 858993459 := by decide +kernel
theorem dv2 (n : Nat) : n / 16 ^ 2 = n / 16 / 16 := by simp only [Nat.div_div_eq_div_mul]
theorem dv3 (n : Nat) : n / 16 ^ 3 = n / 16 / 16 / 16 := by simp only [Nat.div_div_eq_div_mul]
theorem dv4 (n : Nat) : n / 16 ^ 4 = n / 16 / 16 / 16 / 16 := by simp only [Nat.div_div_eq_div_mul]
theorem dv5 (n : Nat) : n / 16 ^ 5 = n / 16 / 16 / 16 / 16 / 16 := by simp only [Nat.div_div_eq_div_mul]
theorem dv6 (n : Nat) : n / 16 ^ 6 = n / 16 / 16 / 16 / 16 / 16 / 16 := by simp only [Nat.div_div_eq_div_mul]
theorem dv7 (n : Nat) : n / 16 ^ 7 = n / 16 / 16 / 16 / 16 / 16 / 16 / 16 := by simp only [Nat.div_div_eq_div_mul]
theorem pc_end {s0 s1 s2 s3 r : Nat} (h0 : s0 ≤ 8) (h1 : s1 ≤ 8) (h2 : s2 ≤ 8) (h3 : s3 ≤ 8) (hr : s3 + s2 + s1 + s0 = r) : (16 * (16 * (16 * (16 * (16 * (16 * (16 * 0 + s3)) + s2)) + s1)) + s0 + (16 * (16 * (16 * (16 * (16 * (16 * (16 * 0 + s3)) + s2)) + s1)) + s0) / 256 + (16 * (16 * (16 * (16 * (16 * (16 * (16 * 0 + s3)) + s2)) + s1)) + s0 + (16 * (16 * (16 * (16 * (16 * (16 * (16 * 0 + s3)) + s2)) + s1)) + s0) / 256) / 65536) % 2 ^ 6 = r := by
  have e1 : (16 * (16 * (16 * (16 * (16 * (16 * (16 * 0 + s3)) + s2)) + s1)) + s0) / 256 = s1 + 256 * (s2 + 256 * s3) := by omega
  rw [e1]
  have e2 : (16 * (16 * (16 * (16 * (16 * (16 * (16 * 0 + s3)) + s2)) + s1)) + s0 + (s1 + 256 * (s2 + 256 * s3))) / 65536 = (s2 + s3) + 256 * s3 := by omega
  rw [e2]
  omega
theorem popN_eq {n : Nat} (h : n < 2 ^ 32) : popN n = fb_ct (fun i => n.testBit i) 32 := by
  have hb : ((n - (n / 2 &&& 1431655765)) &&& 858993459) + ((n - (n / 2 &&& 1431655765)) / 4 &&& 858993459) = pdg 8 n := by
    have := pf12 8 n h
    unfold pf2 pf1 at this
    rw [rep5, rep3] at this
    exact this
  have hc : fb_ct (fun i => n.testBit i) 32 = fb_sm (fun j => p4 (n / 16 ^ j % 16)) 8 := ct_tb 8 n
  rw [hc]
  unfold popN
  simp only [hb]
  simp only [pdg, fb_sm]
  have l : ∀ m, p4 (m % 16) ≤ 4 := fun m => (d3 _ (Nat.mod_lt m (by omega))).2.2
  have q0 := l n
  have q1 := l (n / 16)
  have q2 := l (n / 16 / 16)
  have q3 := l (n / 16 / 16 / 16)
  have q4 := l (n / 16 / 16 / 16 / 16)
  have q5 := l (n / 16 / 16 / 16 / 16 / 16)
  have q6 := l (n / 16 / 16 / 16 / 16 / 16 / 16)
  have q7 := l (n / 16 / 16 / 16 / 16 / 16 / 16 / 16)
  simp only [show n / 16 ^ 0 = n by simp, show n / 16 ^ 1 = n / 16 by simp, dv2 n, dv3 n, dv4 n, dv5 n, dv6 n, dv7 n]
  generalize p4 (n % 16) = p0 at *
  generalize p4 (n / 16 % 16) = p1 at *
  generalize p4 (n / 16 / 16 % 16) = p2 at *
  generalize p4 (n / 16 / 16 / 16 % 16) = p3 at *
  generalize p4 (n / 16 / 16 / 16 / 16 % 16) = p4' at *
  generalize p4 (n / 16 / 16 / 16 / 16 / 16 % 16) = p5 at *
  generalize p4 (n / 16 / 16 / 16 / 16 / 16 / 16 % 16) = p6 at *
  generalize p4 (n / 16 / 16 / 16 / 16 / 16 / 16 / 16 % 16) = p7 at *
  have hdv : ∀ X d : Nat, d < 16 → (16 * X + d) / 16 = X := fun X d h => by omega
  have e1 : 16 * (16 * (16 * (16 * (16 * (16 * (16 * (16 * 0 + p7) + p6) + p5) + p4') + p3) + p2) + p1) + p0 + (16 * (16 * (16 * (16 * (16 * (16 * (16 * (16 * 0 + p7) + p6) + p5) + p4') + p3) + p2) + p1) + p0) / 16 = 16 * (16 * (16 * (16 * (16 * (16 * (16 * p7 + (p6 + p7)) + (p5 + p6)) + (p4' + p5)) + (p3 + p4')) + (p2 + p3)) + (p1 + p2)) + (p0 + p1) := by
    rw [hdv _ p0 (by omega)]
    clear q0 q1 q2 q3 q4 q5 q6 q7 hdv l h hc hb
    omega
  rw [e1]
  have e2 : (252645135 : Nat) = 16 * (16 * (16 * (16 * (16 * (16 * (16 * 0 + 15)) + 15)) + 15)) + 15 := by decide
  rw [e2, nib_f (by omega), nib_0 (by omega), nib_f (by omega), nib_0 (by omega), nib_f (by omega), nib_0 (by omega), nib_f (by omega), Nat.and_zero]
  rw [show (63 : Nat) = 2 ^ 6 - 1 from rfl, Nat.and_two_pow_sub_one_eq_mod]
  exact pc_end (by omega) (by omega) (by omega) (by omega) (by omega)
def popJ (i : Int32) : Int32 :=
  let a := i - ((i.toUInt32 >>> ((nI 1).toUInt32 &&& Int32.toUInt32 31)).toInt32 &&& nI 1431655765)
  let b := (a &&& nI 858993459) + ((a.toUInt32 >>> ((nI 2).toUInt32 &&& Int32.toUInt32 31)).toInt32 &&& nI 858993459)
  let c := (b + (b.toUInt32 >>> ((nI 4).toUInt32 &&& Int32.toUInt32 31)).toInt32) &&& nI 252645135
  let d := c + (c.toUInt32 >>> ((nI 8).toUInt32 &&& Int32.toUInt32 31)).toInt32
  let e := d + (d.toUInt32 >>> ((nI 16).toUInt32 &&& Int32.toUInt32 31)).toInt32
  e &&& nI 63
theorem bt_nI {n : Nat} (h : n < 2 ^ 32) (i : Nat) : bt (nI n) i = n.testBit i := by
  unfold bt
  rw [BitVec.getLsbD, pk_tn h]
theorem popJ_eq (x : Int32) : popJ x = nI (fb_ct (bt x) 32) := by
  obtain ⟨n, hn, rfl⟩ := wb_of32 x
  have e9 : fb_ct (bt (nI n)) 32 = popN n := by
    rw [popN_eq hn]
    exact fb_ct_cong (fun i _ => bt_nI hn i)
  rw [e9]
  unfold popJ popN
  dsimp only
  have ha : n / 2 &&& 1431655765 ≤ n := Nat.le_trans Nat.and_le_left (by omega)
  rw [pk_ushrN hn (nI 1) 1 (by decide), nx_and, pk_sub ha]
  generalize hA : n - (n / 2 ^ 1 &&& 1431655765) = a
  have ha2 : a < 2 ^ 32 := by omega
  rw [pk_ushrN ha2 (nI 2) 2 (by decide), nx_and, nx_and, nI_add]
  have hb1 : a &&& 858993459 ≤ 858993459 := Nat.and_le_right
  have hb2 : a / 2 ^ 2 &&& 858993459 ≤ 858993459 := Nat.and_le_right
  have hA' : n - (n / 2 &&& 1431655765) = a := hA
  try rw [hA']
  have e4 : (a / 4 &&& 858993459) = (a / 2 ^ 2 &&& 858993459) := rfl
  try rw [e4]
  generalize hB : (a &&& 858993459) + (a / 2 ^ 2 &&& 858993459) = b
  have hb3 : b < 2 ^ 32 := by omega
  rw [pk_ushrN hb3 (nI 4) 4 (by decide), nI_add, nx_and]
  have hc1 : b + b / 2 ^ 4 &&& 252645135 ≤ 252645135 := Nat.and_le_right
  have e5 : (b + b / 16 &&& 252645135) = (b + b / 2 ^ 4 &&& 252645135) := rfl
  try rw [e5]
  generalize hC : b + b / 2 ^ 4 &&& 252645135 = c
  have hc2 : c < 2 ^ 32 := by omega
  rw [pk_ushrN hc2 (nI 8) 8 (by decide), nI_add]
  have e6 : c + c / 256 = c + c / 2 ^ 8 := rfl
  try rw [e6]
  generalize hD : c + c / 2 ^ 8 = d
  have hd2 : d < 2 ^ 32 := by omega
  rw [pk_ushrN hd2 (nI 16) 16 (by decide), nI_add, nx_and]
  all_goals rfl
set_option maxHeartbeats 4000000 in
theorem s_bitCount {sc : Option (Nat × (Nat → Int32))} (n : Nat) (w : xW) (v : Int32) : xCW sc (n + 1) k_J6_bitCount_0f7a4 [.int v] w (xIs (.inl (some (.int (nI (fb_ct (bt v) 32))))) w) := by
  refine xWp.gf rfl trivial rfl (Or.inl rfl) ⟨?_, rfl⟩
  have h : (Sum.inl (some (Value.int (popJ v))) : xR) = Sum.inl (some (Value.int (nI (fb_ct (bt v) 32)))) := by rw [popJ_eq]
  exact Eq.trans rfl h
end PC
