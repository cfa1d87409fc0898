/-! a loop's find -/
def fnd (f : Nat → Int32) (v : Int32) : Nat → Nat → Int32
  | _, 0 => -1
  | j, r + 1 => if f j = v then nI j else fnd f v (j + 1) r
