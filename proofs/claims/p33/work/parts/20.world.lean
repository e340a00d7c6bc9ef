/-! the world: the class's cells (places 0 to 14), and what lies behind them; the class's state is its numbers and its rows -/
section WD
abbrev xX : Type := (Nat → Int32) × (Nat → Nat → Int32)
def wC (x : xX) : xW := [
  .inr (0, [.ref 1, .ref 9, .int (x.1 0)]),
  .inr (1, [.ref 2, .ref 3, .ref 4, .ref 5, .ref 6, .ref 7, .ref 8, .int (x.1 1), .int (x.1 2)]),
  .inl (0, 20, .inl (x.2 0)), .inl (0, 20, .inl (x.2 1)), .inl (0, 20, .inl (x.2 2)), .inl (0, 20, .inl (x.2 3)), .inl (0, 20, .inl (x.2 4)), .inl (0, 20, .inl (x.2 5)), .inl (0, 5, .inl (x.2 6)),
  .inr (2, [.ref 10, .ref 11, .ref 12, .ref 13, .ref 14, .int (x.1 3), .int (x.1 4), .int (x.1 5), .int (x.1 6), .int (x.1 7), .int (x.1 8)]),
  .inl (0, 30, .inl (x.2 7)), .inl (0, 30, .inl (x.2 8)), .inl (0, 30, .inl (x.2 9)), .inl (0, 30, .inl (x.2 10)), .inl (0, 30, .inl (x.2 11))]
def wW (x : xX) (y : xW) : xW := wC x ++ y
def xIs (r : xR) (w : xW) : xR → xW → Prop := fun r' w' => r' = r ∧ w' = w
def bI (b : Bool) : Int32 := match b with
  | true => nI 1
  | false => nI 0
end WD
