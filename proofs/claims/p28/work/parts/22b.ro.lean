def mRow (l : List Int32) : Nat × (Nat → Int32) := (l.length, fun i => l.getD i 0)
/-- the rows that are read alone: the script, and the class's constants -/
def mRo (L : Nat) (xs : Nat → Int32) (k : Nat) : Nat × (Nat → Int32) := match k with
  | 0 => (L, xs)
  | 1 => mRow [1, 1, 0, -1, -1, -1, 0, 1]
  | 2 => mRow [0, 1, 1, 1, 0, -1, -1, -1]
  | 3 => mRow [1, 2, 1, 2, 1, 2, -1, -1]
  | 4 => mRow [0, 0, 0, 0, 2, 1, -1, -1]
  | _ => mRow [1, 2, 2, 1, 1, 2, -1, -1]
