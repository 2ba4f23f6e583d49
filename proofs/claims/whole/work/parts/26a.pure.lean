/-! the model's order -/
def facN : Nat → Nat
  | 0 => 1
  | k + 1 => facN k * (k + 1)
/-- a row gone through: where the number is, what has been slid -/
def slR (ro wo : Nat → Int32) (n : Nat) (g row : Nat → Int32) (num : Int32) : Nat → Int32 × Int32
  | 0 => (num, 0)
  | k + 1 => ((slR ro wo n g row num k).1 + g (ix (row k)), (slR ro wo n g row num k).2 + slF ro wo (slR ro wo n g row num k).1 ((slR ro wo n g row num k).1 + g (ix (row k))) n)
