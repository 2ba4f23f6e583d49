/-! a day: pushed, slid, carried -/
abbrev DS : Type := (Nat → Int32) × Int32 × Int32
def dSum (n : Nat) (mo : Int32) (ro wo : Nat → Int32) (v : Int32) (x : DS) : Option DS :=
  if canP n mo (numF x.1 wo n) v then some (fil (fun w => figF (wo w) (ro w) (numF x.1 wo n + v)) x.1 n, x.2.1 + slF ro wo (numF x.1 wo n) (numF x.1 wo n + v) n, x.2.2 + cyF ro wo (numF x.1 wo n) v n) else none
def dTak (n : Nat) (ro wo : Nat → Int32) (v : Int32) (x : DS) : Option DS :=
  if takP n (numF x.1 wo n) v then some (fil (fun w => figF (wo w) (ro w) (numF x.1 wo n - v)) x.1 n, x.2.1 + slF ro wo (numF x.1 wo n) (numF x.1 wo n - v) n, x.2.2 + cyF ro wo (numF x.1 wo n - v) v n) else none
def dPsh (n : Nat) (ro : Nat → Int32) (f v : Int32) (x : DS) : Option DS :=
  if hasP n f ∧ v ≤ ro (ix f) then some (upd x.1 (ix f) v, x.2.1 + absI (v - x.1 (ix f)), x.2.2) else none
def dStep (n : Nat) (mo : Int32) (ro wo : Nat → Int32) (f g : Int32) (x : DS) : Option DS :=
  if g = 0 then dSum n mo ro wo f x else if g = 1 then dTak n ro wo f x else dPsh n ro f (g - 10) x
abbrev RS : Type := Int32 × DS × Int32
def dNext (n : Nat) (mo : Int32) (ro wo : Nat → Int32) (k : Nat) (f g : Int32) (x : RS) : RS :=
  if x.1 = -9 then (match dStep n mo ro wo f g x.2.1 with
    | some d => (-9, d, if x.2.2 < numF d.1 wo n then numF d.1 wo n else x.2.2)
    | none => (nI k, x.2)) else x
def dRun (n : Nat) (mo : Int32) (ro wo ce : Nat → Int32) (i : Nat) (pu : Nat → Int32) : Nat → RS
  | 0 => (-9, (pu, 0, 0), numF pu wo n)
  | k + 1 => dNext n mo ro wo k (ce (i + 2 * k)) (ce (i + 2 * k + 1)) (dRun n mo ro wo ce i pu k)
theorem dNext_some {n : Nat} {mo : Int32} {ro wo : Nat → Int32} {k : Nat} {f g : Int32} {x : RS} {d : DS} (h : x.1 = -9) (e : dStep n mo ro wo f g x.2.1 = some d) : dNext n mo ro wo k f g x = (x.1, d, if x.2.2 < numF d.1 wo n then numF d.1 wo n else x.2.2) := by
  simp only [dNext]; rw [if_pos h, e, h]
theorem dNext_none {n : Nat} {mo : Int32} {ro wo : Nat → Int32} {k : Nat} {f g : Int32} {x : RS} (h : x.1 = -9) (e : dStep n mo ro wo f g x.2.1 = none) : dNext n mo ro wo k f g x = (nI k, x.2) := by
  simp only [dNext]; rw [if_pos h, e]
theorem dNext_stop {n : Nat} {mo : Int32} {ro wo : Nat → Int32} {k : Nat} {f g : Int32} {x : RS} (h : ¬ x.1 = -9) : dNext n mo ro wo k f g x = x := if_neg h
theorem dRun_stop {n : Nat} {mo : Int32} {ro wo ce : Nat → Int32} {i : Nat} {pu : Nat → Int32} {k : Nat} (h : ¬ (dRun n mo ro wo ce i pu k).1 = -9) : ∀ m, k ≤ m → dRun n mo ro wo ce i pu m = dRun n mo ro wo ce i pu k := by
  intro m hm
  induction m with
  | zero => rw [show k = 0 by omega]
  | succ m ih =>
    rcases Nat.lt_or_ge k (m + 1) with q | q
    · have e := ih (by omega)
      rw [dRun, e, dNext_stop h]
    · rw [show k = m + 1 by omega]
theorem isSome_none {α : Type} {x : Option α} (h : ¬ x.isSome = true) : x = none := by cases x <;> simp_all
