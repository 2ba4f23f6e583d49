/-! the model's rows by their number -/
/-- the place where the skipping ends -/
def skN (used : Nat) : Nat → Nat → Nat → Option Nat
  | 0, _, _ => none
  | f + 1, sk, q => if used.testBit q then skN used f sk (q + 1) else if sk = 0 then some q else skN used f (sk - 1) (q + 1)
def unQ (x : Nat × Nat × Nat) : Nat := (skN x.2.2 6 (x.1 / x.2.1) 0).getD 0
def unX (nn k : Nat) (x : Nat × Nat × Nat) : Nat × Nat × Nat := (x.1 % x.2.1, if 1 < nn - k - 1 then x.2.1 / (nn - k - 1) else 1, x.2.2 ||| 2 ^ unQ x)
def unS (nn num : Nat) : Nat → Nat × Nat × Nat
  | 0 => (num, facN (nn - 1), 0)
  | k + 1 => unX nn k (unS nn num k)
def unR (nn num k : Nat) : Nat := unQ (unS nn num k)
def unA (nn num : Nat) : Nat → Int32 := fun k => nI (unR nn num k)
def unG (x : Nat × Nat × Nat) : Bool := Nat.ble x.1 999 && (Nat.ble 1 x.2.1 && (Nat.ble x.2.1 999 && (Nat.ble x.2.2 63 && (skN x.2.2 6 (x.1 / x.2.1) 0).isSome)))
set_option maxRecDepth 100000 in
theorem un_dec : ∀ nn, nn < 7 → ∀ num, num < facN nn → ∀ k, k < nn → (unG (unS nn num k) && Nat.blt (unR nn num k) nn) = true := by decide +kernel
theorem un_ok {nn num k : Nat} (h6 : nn ≤ 6) (hn : num < facN nn) (hk : k < nn) : (unS nn num k).1 ≤ 999 ∧ 1 ≤ (unS nn num k).2.1 ∧ (unS nn num k).2.1 ≤ 999 ∧ (unS nn num k).2.2 < 64 ∧ skN (unS nn num k).2.2 6 ((unS nn num k).1 / (unS nn num k).2.1) 0 = some (unR nn num k) ∧ unR nn num k < nn := by
  have h := un_dec nn (by omega) num hn k hk
  rw [Bool.and_eq_true] at h
  obtain ⟨h, hr⟩ := h
  unfold unG at h
  rw [Bool.and_eq_true, Bool.and_eq_true, Bool.and_eq_true, Bool.and_eq_true] at h
  obtain ⟨h1, h2, h3, h4, h5⟩ := h
  refine ⟨Nat.le_of_ble_eq_true h1, Nat.le_of_ble_eq_true h2, Nat.le_of_ble_eq_true h3, Nat.lt_succ_of_le (Nat.le_of_ble_eq_true h4), ?_, Nat.le_of_ble_eq_true hr⟩
  unfold unR unQ
  cases e : skN (unS nn num k).2.2 6 ((unS nn num k).1 / (unS nn num k).2.1) 0 with
  | none => rw [e] at h5; cases h5
  | some q => rfl
theorem facN_le : ∀ n, n < 7 → 1 ≤ facN n ∧ facN n ≤ 720 := by decide +kernel
theorem unS_s {nn num k : Nat} : unS nn num (k + 1) = ((unS nn num k).1 % (unS nn num k).2.1, (if 1 < nn - k - 1 then (unS nn num k).2.1 / (nn - k - 1) else 1), (unS nn num k).2.2 ||| 2 ^ unR nn num k) := rfl
