/-! the model's fewest and added -/
theorem adL_can {mo num : Int32} {k : Nat} (h1 : k ≤ 999) (h2 : ¬ mo - num < nI k) : ¬ adL mo num < nI k := by
  unfold adL
  split
  · exact h2
  · exact nI_nlt (a := 999) (by omega) (by omega)
theorem adL_n1 {mo num : Int32} {k : Nat} (h1 : 999 < k) (hk : k ≤ 1000) : adL mo num < nI k :=
  Int32.lt_of_le_of_lt (adL_le mo num) (nI_lt (a := 999) h1 (by omega))
theorem adL_n2 {mo num : Int32} {k : Nat} (h1 : k ≤ 999) (h2 : ¬ ¬ mo - num < nI k) : adL mo num < nI k := by
  have h := Decidable.not_not.mp h2
  unfold adL
  split
  · exact h
  · rename_i c
    have g1 := Int32.lt_iff_toInt_lt.mp h
    have g2 := Int32.le_iff_toInt_le.mp (Int32.not_lt.mp c)
    have e1 : (999 : Int32).toInt = 999 := rfl
    rw [nI_toInt (by omega)] at g1
    rw [e1] at g2
    omega
