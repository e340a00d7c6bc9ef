/-! the law's loop -/
section LHo
variable {x : xX} {y : lY} {N C : Nat} {q od : List Nat} {t L : Nat} {xs : Nat → Int32}
abbrev hA (L : Nat) (xs : Nat → Int32) (pc : Nat) (Lo : xL) (st : List Value) (x : xX) (y : lY) (u : Nat) : Prop := xAt (some (L, xs)) k_L_holds 23 (fun r _ => r = .inl (some (.int (nI 1)))) (pc, Lo, st, wY x y [], u)
def hL (is : Int32) (i : Nat) (z9 : Option Value) : xL := [some (.ref 77), some (.ref 0), some (.ref 15), some (.ref 16), some (.ref 17), some (.ref 18), some (.ref 19), some (.int is), some (.int (nI i)), z9]
set_option maxHeartbeats 16000000 in
theorem l_hEnd (h : LR N C q od t x y) {u i : Nat} (hu : u ≤ 50000) (z9 : Option Value) : hA L xs 192 (hL (nI 1) i z9) [] x y u := by
  refine xWp.gb rfl trivial rfl (fun h9 => absurd h9 (by decide)) (fun _ => ?_)
  refine xWp.gc rfl trivial rfl (xCW.up2 (l_areCards h (zz := 3) (by omega))) (show u + 110 ≤ 60000 by omega) ?_
  refine xWp.gb rfl trivial rfl (fun h9 => absurd h9 (by decide)) (fun _ => ?_)
  refine xWp.gm rfl trivial rfl (xCW.up2 (l_isQueue h)) (show u + 110 + 140 ≤ 60000 by omega) (fun x1 y1 r1 h1 => ?_)
  refine xWp.gb rfl trivial rfl (fun h9 => absurd h9 (by decide)) (fun _ => ?_)
  exact xWp.gf rfl trivial rfl (Or.inr (Or.inr rfl)) rfl
set_option maxHeartbeats 16000000 in
set_option maxRecDepth 100000 in
theorem l_hLoop (hL2 : L ≤ 260) : ∀ (m i u : Nat) (x : xX) (y : lY) (N C : Nat) (q od : List Nat) (t : Nat) (z9 : Option Value), i + m = 130 → u ≤ 100 + 311 * i → LR N C q od t x y → t ≤ 100 * i → hA L xs 58 (hL (nI 1) i z9) [] x y u
  | 0, i, u, x, y, N, C, q, od, t, z9, hi, hu, h, ht => by
    refine xWp.gb rfl trivial rfl (fun _ => l_hEnd h (by omega) z9) (fun h9 => ?_)
    have h9' : ¬ nI 130 ≤ nI i := h9
    rw [le_nI (by omega) (by omega)] at h9'; omega
  | m + 1, i, u, x, y, N, C, q, od, t, z9, hi, hu, h, ht => by
    have n9 : ¬ xk 9 0 = 0 := by decide
    have n3 : ¬ xk 3 0 = 0 := by decide
    have fr : ∀ (a b : Int32) (k B : Nat), a = nI k → k ≤ 1000 → b = nI B → 0 < B → B < 2 ^ 31 → xCW (some (L, xs)) 23 k_L_from [.ref 77, .int a, .int b] (wY x y []) (lFr B (wY x y [])) := fun a b k B ea hk eb hB hB2 => by
      rw [ea, eb]; exact l_from 22 hL2 hk hB hB2
    refine xWp.gb rfl trivial rfl (fun h9 => ?_) (fun _ => ?_)
    · have h9' : nI 130 ≤ nI i := h9
      rw [le_nI (by omega) (by omega)] at h9'; omega
    refine xWp.gb rfl trivial rfl (fun h9 => absurd h9 (by decide)) (fun _ => ?_)
    have e2 : xk 2 0 * nI i = nI (2 * i) := nI_mul 2 i
    have e2' : xk 2 0 * nI i + xk 1 0 = nI (2 * i + 1) := by rw [e2, nI_xk]
    refine xWp.gq rfl trivial rfl (fr (xk 2 0 * nI i + xk 1 0) (xk 10000000 0) (2 * i + 1) 10000000 e2' (by omega) rfl (by omega) (by omega)) (show u + 0 ≤ 60000 by omega) (fun r w9 hr => ?_)
    obtain ⟨v, hv, rfl, rfl⟩ := hr
    show hA L xs 83 _ _ x y _
    -- behind the last check
    have k179 : ∀ (u1 : Nat) (x1 : xX) (y1 : lY) (N1 C1 : Nat) (q1 od1 : List Nat) (t1 : Nat) (is : Int32), u1 ≤ 100 + 311 * (i + 1) → LR N1 C1 q1 od1 t1 x1 y1 → t1 ≤ 100 * (i + 1) → hA L xs 179 (hL is i (some (.int (nI v)))) [] x1 y1 u1 := fun u1 x1 y1 N1 C1 q1 od1 t1 is hu1 h1 ht1 => by
      have ih := l_hLoop hL2 m (i + 1) u1 x1 y1 N1 C1 q1 od1 t1 (some (.int (nI v))) (by omega) hu1 h1 ht1
      unfold hA hL at ih
      rw [nI_s i] at ih
      exact xWp.go 58 rfl trivial ih
    have k156 : ∀ (u1 : Nat) (x1 : xX) (y1 : lY) (N1 C1 : Nat) (q1 od1 : List Nat) (t1 : Nat), u1 + 140 ≤ 100 + 311 * (i + 1) → LR N1 C1 q1 od1 t1 x1 y1 → t1 ≤ 100 * (i + 1) → hA L xs 156 (hL (nI 1) i (some (.int (nI v)))) [] x1 y1 u1 := fun u1 x1 y1 N1 C1 q1 od1 t1 hu1 h1 ht1 => by
      refine xWp.gb rfl ⟨n9, trivial⟩ rfl (fun _ => ?_) (fun _ => ?_)
      · exact k179 u1 x1 y1 N1 C1 q1 od1 t1 (nI 1) (by omega) h1 ht1
      · refine xWp.gm rfl trivial rfl (xCW.up2 (l_isQueue h1)) (show u1 + 140 ≤ 60000 by omega) (fun x2 y2 r2 h2 => ?_)
        obtain ⟨⟨s, e1⟩, e3, e4⟩ := h2
        rw [e1, e3, e4]
        refine xWp.gb rfl trivial rfl (fun h9 => absurd h9 (by decide)) (fun _ => ?_)
        exact k179 (u1 + 140) (cTr x1 s) y1 N1 C1 q1 od1 t1 (nI 1) hu1 (h1.tr s) ht1
    have k130 : ∀ (u1 : Nat) (x1 : xX) (y1 : lY) (N1 C1 : Nat) (q1 od1 : List Nat) (t1 : Nat), u1 + 250 ≤ 100 + 311 * (i + 1) → LR N1 C1 q1 od1 t1 x1 y1 → t1 ≤ 100 * (i + 1) → hA L xs 133 (hL (nI 1) i (some (.int (nI v)))) [] x1 y1 u1 := fun u1 x1 y1 N1 C1 q1 od1 t1 hu1 h1 ht1 => by
      refine xWp.gb rfl ⟨n3, trivial⟩ rfl (fun _ => ?_) (fun _ => ?_)
      · exact k156 u1 x1 y1 N1 C1 q1 od1 t1 (by omega) h1 ht1
      · refine xWp.gc rfl trivial rfl (xCW.up2 (l_areCards h1 (zz := v) (by omega))) (show u1 + 110 ≤ 60000 by omega) ?_
        refine xWp.gb rfl trivial rfl (fun h9 => absurd h9 (by decide)) (fun _ => ?_)
        exact k156 (u1 + 110) x1 y1 N1 C1 q1 od1 t1 (by omega) h1 ht1
    have k125 : ∀ (w u1 : Nat), w < 28 → u1 = u → hA L xs 125 (hL (nI 1) i (some (.int (nI v)))) [.int (nI w), .ref 19, .ref 18, .ref 17, .ref 16, .ref 15, .ref 0] x y u1 := fun w u1 hw e => by
      subst e
      refine xWp.gm rfl trivial rfl (l_acts h (T := 100 * (i + 1)) (by omega) (by omega) hw (zz := v) (by omega)) (show u1 + 61 ≤ 60000 by omega) (fun x1 y1 r1 h1 => ?_)
      obtain ⟨e1, N1, C1, q1, od1, t1, ht1, h2⟩ := h1
      rw [e1]
      refine xWp.gb rfl trivial rfl (fun h9 => absurd h9 (by decide)) (fun _ => ?_)
      exact k130 (u1 + 61) x1 y1 N1 C1 q1 od1 t1 (by omega) h2 ht1
    refine xWp.gb rfl trivial rfl (fun _ => ?_) (fun _ => ?_)
    · refine xWp.gb rfl trivial rfl (fun _ => ?_) (fun _ => ?_)
      · refine xWp.gq rfl trivial rfl (fr (xk 2 0 * nI i) (xk 28 0) (2 * i) 28 e2 (by omega) rfl (by omega) (by omega)) (show u + 0 + 0 ≤ 60000 by omega) (fun r w9 hr => ?_)
        obtain ⟨v2, hv2, rfl, rfl⟩ := hr
        show hA L xs 125 _ _ x y _
        exact k125 v2 _ hv2 rfl
      · refine xWp.go 125 rfl trivial ?_
        exact k125 1 _ (by omega) rfl
    · refine xWp.go 125 rfl trivial ?_
      exact k125 0 _ (by omega) rfl
end LHo
