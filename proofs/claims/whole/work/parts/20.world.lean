/-! the world: the class's cells (places 0 to 14), the reference's (15 to 31), the law's long[1] (32); a side's state is its numbers and its rows -/
section WD
abbrev xX : Type := (Nat → Int32) × (Nat → Nat → Int32)
def wC (x : xX) : xW := [
  .inr (0, [.ref 1, .ref 9, .int (x.1 0)]),
  .inr (1, [.ref 2, .ref 3, .ref 4, .ref 5, .ref 6, .ref 7, .ref 8, .int (x.1 1), .int (x.1 2)]),
  .inl (0, 20, .inl (x.2 0)), .inl (0, 20, .inl (x.2 1)), .inl (0, 20, .inl (x.2 2)), .inl (0, 20, .inl (x.2 3)), .inl (0, 20, .inl (x.2 4)), .inl (0, 20, .inl (x.2 5)), .inl (0, 5, .inl (x.2 6)),
  .inr (2, [.ref 10, .ref 11, .ref 12, .ref 13, .ref 14, .int (x.1 3), .int (x.1 4), .int (x.1 5), .int (x.1 6), .int (x.1 7), .int (x.1 8)]),
  .inl (0, 30, .inl (x.2 7)), .inl (0, 30, .inl (x.2 8)), .inl (0, 30, .inl (x.2 9)), .inl (0, 30, .inl (x.2 10)), .inl (0, 30, .inl (x.2 11))]
def wM (y : xX) (o : Nat → Int64) : xW := [
  .inr (3, [.ref 16, .ref 17, .ref 18, .ref 19, .ref 20, .ref 21, .int (y.1 0), .int (y.1 1), .ref 22, .ref 23, .ref 24, .ref 25, .ref 26, .ref 27, .int (y.1 2), .ref 28, .int (y.1 3), .int (y.1 4), .ref 29, .ref 30, .ref 31, .int (y.1 5), .int (y.1 6), .int (y.1 7)]),
  .inl (0, 20, .inl (y.2 0)), .inl (0, 20, .inl (y.2 1)), .inl (0, 20, .inl (y.2 2)), .inl (0, 20, .inl (y.2 3)), .inl (0, 20, .inl (y.2 4)),
  .inl (1, 600, .inl (y.2 5)), .inl (0, 4, .inl (y.2 6)), .inl (0, 30, .inl (y.2 7)), .inl (0, 30, .inl (y.2 8)), .inl (1, 30, .inl (y.2 9)), .inl (1, 900, .inl (y.2 10)), .inl (1, 900, .inl (y.2 11)),
  .inl (0, 30, .inl (y.2 12)), .inl (1, 30, .inl (y.2 13)), .inl (0, 20, .inl (y.2 14)), .inl (0, 20, .inl (y.2 15)), .inl (2, 1, .inr (.inl o))]
def wW (x y : xX) (o : Nat → Int64) : xW := wC x ++ wM y o
def xIs (r : xR) (w : xW) : xR → xW → Prop := fun r' w' => r' = r ∧ w' = w
def bI (b : Bool) : Int32 := match b with
  | true => nI 1
  | false => nI 0
end WD
