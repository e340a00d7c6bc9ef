/-! a machine of places: the world is a list of cells, a reference is a place; one step; the least set of states from which Q is come to -/
section AM
abbrev xC : Type := (Nat × vp_A) ⊕ (Nat × List Value)
abbrev xW : Type := List xC
abbrev xL : Type := List (Option Value)
abbrev xS : Type := Nat × xL × List Value × xW × Nat
abbrev xR : Type := Option Value ⊕ Nat
abbrev xJ : Type := Nat × List Value × Nat × xL × List Value × xW × Nat
abbrev xT : Type := Option (Nat × (Nat → Int32)) × Option Nat
abbrev xO : Type := xS ⊕ ((Prop × xS) ⊕ ((Prop × xS × xS) ⊕ ((Prop × xJ) ⊕ (Prop × xR × xW))))
def xat (I : List (List xI)) (pc : Nat) : Option xI := match I[pc / 16]? with
  | some b => b.find? (fun e => Nat.beq e.1 pc)
  | none => none
def xk (r1 r2 : Nat) : Int32 := match r2 with
  | 0 => nI r1
  | _ => -(nI r1)
def xz (x : Int32) : Prop := x = nI 0 ∨ x = nI 1
def xargs : Nat → List Value → List Value → Option (List Value × List Value)
  | 0, acc, st => some (acc, st)
  | n + 1, acc, .int x :: st => xargs n (.int x :: acc) st
  | n + 1, acc, .ref x :: st => xargs n (.ref x :: acc) st
  | _ + 1, _, _ => none
def xsw (pc : Nat) (d lo hi : Int) (offs : Array Int) (x : Int32) : Nat := if x.toInt < lo ∨ hi < x.toInt then (pc + d).toNat else match offs[(x.toInt - lo).toNat]? with
  | some o => (pc + o).toNat
  | none => 0
def xldi (L : xL) (k : Nat) (nx : Nat) (stk : List Value) (w : xW) (u : Nat) : Option xO := match L[k]? with
  | some (some (.int x)) => some (.inl (nx, L, .int x :: stk, w, u))
  | _ => none
def xlda (L : xL) (k : Nat) (nx : Nat) (stk : List Value) (w : xW) (u : Nat) : Option xO := match L[k]? with
  | some (some (.ref x)) => some (.inl (nx, L, .ref x :: stk, w, u))
  | _ => none
def xsti (L : xL) (k : Nat) (nx : Nat) (stk : List Value) (w : xW) (u : Nat) : Option xO := match stk with
  | .int x :: st => some (.inl (nx, L.set k (some (.int x)), st, w, u))
  | _ => none
def xsta (L : xL) (k : Nat) (nx : Nat) (stk : List Value) (w : xW) (u : Nat) : Option xO := match stk with
  | .ref x :: st => some (.inl (nx, L.set k (some (.ref x)), st, w, u))
  | _ => none
def xbin (f : Int32 → Int32 → Int32) (L : xL) (nx : Nat) (stk : List Value) (w : xW) (u : Nat) : Option xO := match stk with
  | .int y :: .int x :: st => some (.inl (nx, L, .int (f x y) :: st, w, u))
  | _ => none
def xco (cd : Jvm.ClassFile.Cond) (x y : Int32) : Prop × Bool := match cd with
  | .eq => (x = y, true)
  | .ne => (x = y, false)
  | .lt => (x < y, true)
  | .ge => (y ≤ x, true)
  | .gt => (y < x, true)
  | .le => (x ≤ y, true)
def xbr (q : Prop × Bool) (a b : xS) : Option xO := match q with
  | (c, true) => some (.inr (.inr (.inl (c, a, b))))
  | (c, false) => some (.inr (.inr (.inl (c, b, a))))
/-- what may lie on the stack below a static call -/
def xdp (st : List Value) : Bool := Nat.ble st.length 4 || (Nat.ble st.length 8 && st.all (fun v => Nat.ble v.category 1))
def xnr (N : Nat) (v : Value) : Bool := match v with
  | .ref i => !(Nat.beq i N)
  | _ => true
def xnrC (N : Nat) (c : xC) : Bool := match c with
  | .inl _ => true
  | .inr (_, fs) => fs.all (xnr N)
/-- place N is named nowhere -/
def xfree (N : Nat) (L : xL) (st : List Value) (w : xW) : Bool := L.all (fun o => match o with | some v => xnr N v | none => true) && (st.all (xnr N) && w.all (xnrC N))
def xlw (n : Nat) (v : Value) : Bool := match v with
  | .ref i => Nat.blt i n
  | _ => true
def xlow (n : Nat) (c : xC) : Bool := match c with
  | .inl _ => true
  | .inr (_, fs) => fs.all (xlw n)
/-- the end: what was made here is forgotten -/
def xend (tn : Option Nat) (g : Prop) (r : xR) (w : xW) : Option xO := match tn with
  | none => some (.inr (.inr (.inr (.inr (g, (r, w))))))
  | some n => match (w.take n).all (xlow n) with
    | true => some (.inr (.inr (.inr (.inr (g, (r, w.take n))))))
    | false => none
def xo (I : List (List xI)) (bm : Nat) (scr : xT) : xS → Option xO := fun s => match s with
  | (pc, L, stk, w, u) => match xat I pc with
    | none => none
    | some (_, ins, nx, r1, r2, r3, r4) => match ins with
      | .iconst _ => some (.inl (nx, L, .int (xk r1 r2) :: stk, w, u))
      | .bipush _ => some (.inl (nx, L, .int (xk r1 r2) :: stk, w, u))
      | .sipush _ => some (.inl (nx, L, .int (xk r1 r2) :: stk, w, u))
      | .ldc _ => (match r4 with
        | 0 => some (.inl (nx, L, .int (xk r1 r2) :: stk, w, u))
        | _ + 1 => none)
      | .ldc_w _ => (match r4 with
        | 0 => some (.inl (nx, L, .int (xk r1 r2) :: stk, w, u))
        | _ + 1 => none)
      | .lconst n => some (.inl (nx, L, .long (Int64.ofNat (n : Nat)) :: stk, w, u))
      | .iload_n k => xldi L k nx stk w u
      | .iload k => xldi L k nx stk w u
      | .aload_n k => xlda L k nx stk w u
      | .aload k => xlda L k nx stk w u
      | .istore_n k => xsti L k nx stk w u
      | .istore k => xsti L k nx stk w u
      | .astore_n k => xsta L k nx stk w u
      | .astore k => xsta L k nx stk w u
      | .iinc k _ => (match L[k]? with
        | some (some (.int x)) => some (.inl (nx, L.set k (some (.int (x + xk r1 r2))), stk, w, u))
        | _ => none)
      | .iadd => xbin (fun x y => x + y) L nx stk w u
      | .isub => xbin (fun x y => x - y) L nx stk w u
      | .imul => xbin (fun x y => x * y) L nx stk w u
      | .iand => xbin (fun x y => x &&& y) L nx stk w u
      | .ior => xbin (fun x y => x ||| y) L nx stk w u
      | .ixor => xbin (fun x y => x ^^^ y) L nx stk w u
      | .ishl => xbin (fun x y => x <<< (y &&& 31)) L nx stk w u
      | .iushr => xbin (fun x y => (x.toUInt32 >>> (y.toUInt32 &&& Int32.toUInt32 31)).toInt32) L nx stk w u
      | .idiv => (match stk with
        | .int y :: .int x :: st => some (.inr (.inl (¬ y = 0, (nx, L, .int (x / y) :: st, w, u))))
        | _ => none)
      | .irem => (match stk with
        | .int y :: .int x :: st => some (.inr (.inl (¬ y = 0, (nx, L, .int (x - x / y * y) :: st, w, u))))
        | _ => none)
      | .ishr => xbin (fun x y => x >>> (y &&& 31)) L nx stk w u
      | .newarray .int => (match stk with
        | .int x :: st => (match scr.2, xfree r2 L st w && (Nat.beq w.length r2 && Nat.ble r2 60) with
          | some n0, true => (match Nat.ble n0 r2 with
            | true => some (.inr (.inl ((x = nI r1 ∧ u + r4 ≤ bm), (nx, L, .ref r2 :: st, w ++ [.inl (0, r1, .inl (fun _ => 0))], u + r4))))
            | false => none)
          | _, _ => none)
        | _ => none)
      | .i2l => (match stk with
        | .int x :: st => some (.inl (nx, L, .long x.toInt64 :: st, w, u))
        | _ => none)
      | .lcmp => (match stk with
        | .long y :: .long x :: st => some (.inl (nx, L, .int (lg_cmp x y) :: st, w, u))
        | _ => none)
      | .dup => (match stk with
        | .int x :: st => some (.inl (nx, L, .int x :: .int x :: st, w, u))
        | .ref x :: st => some (.inl (nx, L, .ref x :: .ref x :: st, w, u))
        | _ => none)
      | .dup2 => (match stk with
        | .int x :: .ref y :: st => some (.inl (nx, L, .int x :: .ref y :: .int x :: .ref y :: st, w, u))
        | _ => none)
      | .pop => (match stk with
        | .int _ :: st => some (.inl (nx, L, st, w, u))
        | _ => none)
      | .goto _ => some (.inl (r1, L, stk, w, u))
      | .ifCond cd _ => (match stk with
        | .int x :: st => xbr (xco cd x 0) (r1, L, st, w, u) (nx, L, st, w, u)
        | _ => none)
      | .if_icmp cd _ => (match stk with
        | .int y :: .int x :: st => xbr (xco cd x y) (r1, L, st, w, u) (nx, L, st, w, u)
        | _ => none)
      | .tableswitch d lo hi offs => (match stk with
        | .int x :: st => some (.inl (xsw pc d lo hi offs x, L, st, w, u))
        | _ => none)
      | .getfield _ => (match stk with
        | .ref a :: st => (match w[a]? with
          | some (.inr (ci, fs)) => (match Nat.beq ci r1, fs[r2]? with
            | true, some v => some (.inl (nx, L, v :: st, w, u))
            | _, _ => none)
          | _ => none)
        | _ => none)
      | .putfield _ => (match stk with
        | .int x :: .ref a :: st => (match w[a]? with
          | some (.inr (ci, fs)) => (match Nat.beq ci r1, fs[r2]? with
            | true, some _ => some (.inl (nx, L, st, w.set a (.inr (ci, fs.set r2 (.int x))), u))
            | _, _ => none)
          | _ => none)
        | _ => none)
      | .iaload => (match stk with
        | .int i :: .ref a :: st => (match w[a]? with
          | some (.inl (0, n, .inl f)) => some (.inr (.inl (vp_in i n, (nx, L, .int (f i.toNatClampNeg) :: st, w, u))))
          | some _ => none
          | none => (match scr.1, Nat.beq a 77 with
            | some (n, xs), true => some (.inr (.inl (vp_in i n, (nx, L, .int (xs i.toNatClampNeg) :: st, w, u))))
            | _, _ => none))
        | _ => none)
      | .baload => (match stk with
        | .int i :: .ref a :: st => (match w[a]? with
          | some (.inl (1, n, .inl f)) => some (.inr (.inl (vp_in i n, (nx, L, .int (f i.toNatClampNeg) :: st, w, u))))
          | _ => none)
        | _ => none)
      | .laload => (match stk with
        | .int i :: .ref a :: st => (match w[a]? with
          | some (.inl (2, n, .inr (.inl f))) => some (.inr (.inl (vp_in i n, (nx, L, .long (f i.toNatClampNeg) :: st, w, u))))
          | _ => none)
        | _ => none)
      | .iastore => (match stk with
        | .int x :: .int i :: .ref a :: st => (match w[a]? with
          | some (.inl (0, n, .inl f)) => some (.inr (.inl (vp_in i n, (nx, L, st, w.set a (.inl (0, n, .inl (upd f i.toNatClampNeg x))), u))))
          | _ => none)
        | _ => none)
      | .bastore => (match stk with
        | .int x :: .int i :: .ref a :: st => (match w[a]? with
          | some (.inl (1, n, .inl f)) => some (.inr (.inl (vp_in i n ∧ xz x, (nx, L, st, w.set a (.inl (1, n, .inl (upd f i.toNatClampNeg x))), u))))
          | _ => none)
        | _ => none)
      | .lastore => (match stk with
        | .long x :: .int i :: .ref a :: st => (match w[a]? with
          | some (.inl (2, n, .inr (.inl f))) => some (.inr (.inl (vp_in i n, (nx, L, st, w.set a (.inl (2, n, .inr (.inl (vp_updL f i.toNatClampNeg x)))), u))))
          | _ => none)
        | _ => none)
      | .arraylength => (match stk with
        | .ref a :: st => (match w[a]? with
          | some (.inl (0, n, _)) => some (.inl (nx, L, .int (Int32.ofNat n) :: st, w, u))
          | some _ => none
          | none => (match scr.1, Nat.beq a 77 with
            | some (n, _), true => some (.inl (nx, L, .int (Int32.ofNat n) :: st, w, u))
            | _, _ => none))
        | _ => none)
      | .invokevirtual _ => (match xargs r2 [] stk with
        | some (.ref b :: as, st) => (match w[b]? with
          | some (.inr (ci, _)) => (match Nat.beq ci r3, Nat.ble st.length 4 with
            | true, true => some (.inr (.inr (.inr (.inl (u + r4 ≤ bm, (r1, .ref b :: as, nx, L, st, w, u + r4))))))
            | _, _ => none)
          | _ => none)
        | _ => none)
      | .invokestatic _ => (match xargs r2 [] stk with
        | some (as, st) => (match xdp st with
          | true => some (.inr (.inr (.inr (.inl (u + r4 ≤ bm, (r1, as, nx, L, st, w, u + r4))))))
          | false => none)
        | none => none)
      | .new _ => (match stk, Nat.ble r4 1, scr.2 with
        | [], true, none => some (.inr (.inr (.inr (.inr (u + 1 ≤ bm, ((Sum.inr r1 : xR), w))))))
        | _, _, _ => none)
      | .ireturn => (match stk with
        | [.int x] => xend scr.2 (r1 = 0 ∨ xz x) (Sum.inl (some (.int x)) : xR) w
        | _ => none)
      | .return_ => (match stk with
        | [] => xend scr.2 True (Sum.inl none : xR) w
        | _ => none)
      | _ => none
/-- what is behind a call: it returned, or it threw and this method catches it (the reference to the exception is never read), or not -/
def xH (tn : Option Nat) (hd : List (Nat × Nat × Nat)) (K : xS → Prop) (Q : xR → xW → Prop) (nx : Nat) (L : xL) (st : List Value) (u : Nat) (r : xR) (w : xW) : Prop := match r with
  | .inl v => K (nx, L, v.toList ++ st, w, u)
  | .inr e => match hd.find? (fun q => Nat.beq q.1 e) with
    | none => hd = [] ∧ tn = none ∧ Q (.inr e) w
    | some (_, hp, k) => K (hp, L.set k none, [], w, u)
def xFo (tn : Option Nat) (hd : List (Nat × Nat × Nat)) (call : Nat → List Value → xW → (xR → xW → Prop) → Prop) (Q : xR → xW → Prop) (K : xS → Prop) (o : Option xO) : Prop := match o with
  | none => False
  | some (.inl s') => K s'
  | some (.inr (.inl (g, s'))) => g ∧ K s'
  | some (.inr (.inr (.inl (c, a, b)))) => (c → K a) ∧ (¬ c → K b)
  | some (.inr (.inr (.inr (.inl (g, (k, as, nx, L, st, w, u)))))) => g ∧ ∃ P : xR → xW → Prop, call k as w P ∧ ∀ r w', P r w' → xH tn hd K Q nx L st u r w'
  | some (.inr (.inr (.inr (.inr (g, (r, w)))))) => g ∧ Q r w
def xF (I : List (List xI)) (bm : Nat) (scr : xT) (hd : List (Nat × Nat × Nat)) (call : Nat → List Value → xW → (xR → xW → Prop) → Prop) (Q : xR → xW → Prop) (K : xS → Prop) (s : xS) : Prop := xFo scr.2 hd call Q K (xo I bm scr s)
theorem xH_mono {tn : Option Nat} {hd : List (Nat × Nat × Nat)} {K K' : xS → Prop} {Q Q' : xR → xW → Prop} (hK : ∀ s, K s → K' s) (hQ : ∀ r w, Q r w → Q' r w) {nx : Nat} {L : xL} {st : List Value} {u : Nat} {r : xR} {w : xW} (h : xH tn hd K Q nx L st u r w) : xH tn hd K' Q' nx L st u r w := by
  unfold xH at h ⊢
  split
  · exact hK _ h
  · split
    · rename_i hf
      simp only [hf] at h
      exact ⟨h.1, h.2.1, hQ _ _ h.2.2⟩
    · rename_i hf
      simp only [hf] at h
      exact hK _ h
theorem xF_mono {I : List (List xI)} {bm : Nat} {scr : xT} {hd : List (Nat × Nat × Nat)} {call call' : Nat → List Value → xW → (xR → xW → Prop) → Prop} {Q Q' : xR → xW → Prop} {K K' : xS → Prop}
    (hc : ∀ k as w P, call k as w P → call' k as w P) (hK : ∀ s, K s → K' s) (hQ : ∀ r w, Q r w → Q' r w) {s : xS} (h : xF I bm scr hd call Q K s) : xF I bm scr hd call' Q' K' s := by
  unfold xF xFo at h ⊢
  generalize xo I bm scr s = o at h ⊢
  rcases o with _ | s' | ⟨g, s'⟩ | ⟨c, a, b⟩ | ⟨g, k, as, nx, L, st, w, u⟩ | ⟨g, r, w⟩
  · exact h
  · exact hK _ h
  · exact ⟨h.1, hK _ h.2⟩
  · exact ⟨fun x => hK _ (h.1 x), fun x => hK _ (h.2 x)⟩
  · exact ⟨h.1, h.2.elim fun P hP => ⟨P, hc _ _ _ _ hP.1, fun r w' hr => xH_mono hK hQ (hP.2 r w' hr)⟩⟩
  · exact ⟨h.1, hQ _ _ h.2⟩
/-- from this state the method comes to its end with Q -/
def xWp (I : List (List xI)) (bm : Nat) (scr : xT) (hd : List (Nat × Nat × Nat)) (call : Nat → List Value → xW → (xR → xW → Prop) → Prop) (Q : xR → xW → Prop) (s : xS) : Prop :=
  ∀ K : xS → Prop, (∀ s', xF I bm scr hd call Q K s' → K s') → K s
def xini (n : Nat) (as : List Value) : xL := as.map some ++ List.replicate (n - as.length) none
/-- method k, called with as in the world w, comes to its end with Q, at most n calls deep -/
def xCW (sc : Option (Nat × (Nat → Int32))) : Nat → Nat → List Value → xW → (xR → xW → Prop) → Prop
  | 0 => fun _ _ _ _ => False
  | n + 1 => fun k as w Q => xWp (m_i k) (m_b k) (sc, m_t k) (m_hd k) (xCW sc n) Q (0, xini (m_L k) as, [], w, 0)
section Rules
variable {I : List (List xI)} {bm : Nat} {scr : xT} {hd : List (Nat × Nat × Nat)} {cl : Nat → List Value → xW → (xR → xW → Prop) → Prop} {Q : xR → xW → Prop} {s : xS}
theorem xWp.mk (h : xF I bm scr hd cl Q (xWp I bm scr hd cl Q) s) : xWp I bm scr hd cl Q s := fun K hK => hK s (xF_mono (fun _ _ _ _ h => h) (fun s' h' => h' K hK) (fun _ _ h => h) h)
theorem xWp.mono {Q' : xR → xW → Prop} {cl' : Nat → List Value → xW → (xR → xW → Prop) → Prop} (h : xWp I bm scr hd cl Q s) (hc : ∀ k as w P, cl k as w P → cl' k as w P) (hQ : ∀ r w, Q r w → Q' r w) : xWp I bm scr hd cl' Q' s :=
  fun K hK => h K (fun s' h' => hK s' (xF_mono hc (fun _ h => h) hQ h'))
theorem xCW.mono {sc : Option (Nat × (Nat → Int32))} : ∀ {n k : Nat} {as : List Value} {w : xW} {Q Q' : xR → xW → Prop}, xCW sc n k as w Q → (∀ r w, Q r w → Q' r w) → xCW sc n k as w Q'
  | 0, _, _, _, _, _, h, _ => h
  | _ + 1, _, _, _, _, _, h, hQ => xWp.mono h (fun _ _ _ _ h => h) hQ
theorem xCW.up {sc : Option (Nat × (Nat → Int32))} : ∀ {n k : Nat} {as : List Value} {w : xW} {Q : xR → xW → Prop}, xCW sc n k as w Q → xCW sc (n + 1) k as w Q
  | 0, _, _, _, _, h => h.elim
  | _ + 1, _, _, _, _, h => xWp.mono h (fun _ _ _ _ h => xCW.up h) (fun _ _ h => h)
/-- several steps at once, without a branch or a call among them -/
def xr (I : List (List xI)) (bm : Nat) (scr : xT) : Nat → xS → Option (Prop × xS)
  | 0, s => some (True, s)
  | n + 1, s => match xo I bm scr s with
    | some (.inl s') => xr I bm scr n s'
    | some (.inr (.inl (g, s'))) => (match xr I bm scr n s' with
      | some (g', s'') => some (g ∧ g', s'')
      | none => none)
    | _ => none
theorem xWp.run : ∀ (n : Nat) {s s' : xS} {g : Prop}, xr I bm scr n s = some (g, s') → g → xWp I bm scr hd cl Q s' → xWp I bm scr hd cl Q s
  | 0, s, s', g, h, _, k => by
    simp only [xr, Option.some.injEq, Prod.mk.injEq] at h
    rw [h.2]; exact k
  | n + 1, s, s', g, h, hg, k => by
    unfold xr at h
    refine xWp.mk ?_
    unfold xF xFo
    generalize xo I bm scr s = o at h ⊢
    rcases o with _ | s1 | ⟨g1, s1⟩ | ⟨c, a, b⟩ | ⟨g, k, as, nx, L, st, w, u⟩ | ⟨g, r, w⟩
    · cases h
    · exact xWp.run n h hg k
    · dsimp only at h ⊢
      cases e : xr I bm scr n s1 with
      | none => rw [e] at h; cases h
      | some q =>
        rw [e] at h
        obtain ⟨g2, s2⟩ := q
        simp only [Option.some.injEq, Prod.mk.injEq] at h
        obtain ⟨h1, h2⟩ := h
        subst h2
        rw [← h1] at hg
        exact ⟨hg.1, xWp.run n e hg.2 k⟩
    · cases h
    · cases h
    · cases h
theorem xWp.br {c : Prop} {a b : xS} (h : xo I bm scr s = some (.inr (.inr (.inl (c, a, b))))) (ka : c → xWp I bm scr hd cl Q a) (kb : ¬ c → xWp I bm scr hd cl Q b) : xWp I bm scr hd cl Q s := by
  refine xWp.mk ?_
  unfold xF xFo
  rw [h]
  exact ⟨ka, kb⟩
theorem xWp.call {g : Prop} {k nx u : Nat} {as st : List Value} {L : xL} {w : xW} (h : xo I bm scr s = some (.inr (.inr (.inr (.inl (g, (k, as, nx, L, st, w, u))))))) (hg : g) (P : xR → xW → Prop) (hc : cl k as w P) (kk : ∀ r w', P r w' → xH scr.2 hd (xWp I bm scr hd cl Q) Q nx L st u r w') : xWp I bm scr hd cl Q s := by
  refine xWp.mk ?_
  unfold xF xFo
  rw [h]
  exact ⟨hg, P, hc, kk⟩
theorem xWp.fin {g : Prop} {r : xR} {w : xW} (h : xo I bm scr s = some (.inr (.inr (.inr (.inr (g, (r, w))))))) (hg : g) (hq : Q r w) : xWp I bm scr hd cl Q s := by
  refine xWp.mk ?_
  unfold xF xFo
  rw [h]
  exact ⟨hg, hq⟩
end Rules
end AM
