/-! sheets and readings: what their rows are -/
def cutF (la v : Int32) : Int32 := if la = 0 then v.toInt8.toInt32 else if la = 1 then v.toInt16.toInt32 else v
abbrev reachP (ln : Nat) (i n : Int32) : Prop := ¬ i < 0 ∧ ¬ nI ln < i ∧ ¬ n < 0 ∧ ¬ nI ln - i < n
abbrev allP (ce : Nat → Int32) (i n : Nat) (g : Int32) : Prop := ∀ q, q < n → ¬ ce (i + q) < 0 ∧ ce (i + q) ≤ g
abbrev ix (x : Int32) : Nat := x.toNatClampNeg
theorem ix_nI {j : Nat} (h : j < 2 ^ 31) : ix (nI j) = j := nI_clamp h
/-- all readings are so -/
abbrev soP (n : Nat) (mo num : Int32) (ro wo rs rw rf : Nat → Int32) (rc : Nat) : Prop := ∀ r, r < rc → canP n mo num (rs r) ∧ figF (wo (ix (rw r))) (ro (ix (rw r))) (num + rs r) = rf r
abbrev rwP (n : Nat) (rw : Nat → Int32) (rc : Nat) : Prop := ∀ r, r < rc → ix (rw r) < n ∧ rw r = nI (ix (rw r))
theorem upd_far (f : Nat → Int32) {k n : Nat} (x : Int32) (h : n ≤ k) : ∀ j, j < n → f j = upd f k x j := fun j hj => (pk_un (by omega)).symm
