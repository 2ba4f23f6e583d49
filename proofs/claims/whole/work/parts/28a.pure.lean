/-! the model's order: the first least of all rows -/
theorem slR_congr {ro wo : Nat → Int32} {n : Nat} {g row row' : Nat → Int32} {num : Int32} : ∀ {k : Nat}, (∀ q, q < k → row q = row' q) → slR ro wo n g row num k = slR ro wo n g row' num k
  | 0, _ => rfl
  | k + 1, h => by
    rw [slR, slR, slR_congr (k := k) (fun q hq => h q (by omega)), h k (by omega)]
def oI (co : Nat → Int32) : Nat → Int32 × Int32
  | 0 => (-9, 0)
  | m + 1 => if (oI co m).1 = -9 ∨ co m < (oI co m).2 then (nI m, co m) else oI co m
theorem oI_b (co : Nat → Int32) : ∀ m, 0 < m → ∃ b, b < m ∧ (oI co m).1 = nI b
  | 0, h => by omega
  | m + 1, _ => by
    by_cases q : (oI co m).1 = -9 ∨ co m < (oI co m).2
    · exact ⟨m, by omega, by rw [oI, if_pos q]⟩
    · rcases Nat.eq_zero_or_pos m with z | z
      · subst z; exact absurd (Or.inl rfl) q
      · obtain ⟨b, h1, h2⟩ := oI_b co m z
        exact ⟨b, by omega, by rw [oI, if_neg q]; exact h2⟩
def orC (n : Nat) (kd mn pu g : Nat → Int32) (nn : Nat) : Nat → Int32 := fun num => (slR (rmF kd mn) (woF kd mn) n g (unA nn num) (numF pu (woF kd mn) n) nn).2
def orO (nn : Nat) (co : Nat → Int32) (k : Int32) : Int32 := if k = -1 then (oI co (facN nn)).2 else if k < nI nn then unA nn (ix (oI co (facN nn)).1) (ix k) else -9
theorem orO_k {nn b y : Nat} {co : Nat → Int32} (h6 : nn ≤ 6) (hb : b < 2 ^ 31) (e : (oI co (facN nn)).1 = nI b) (hy : y < nn) : orO nn co (nI y) = unA nn b y := by
  unfold orO
  rw [if_neg (fun h => nI_pos (show y < 2 ^ 31 by omega) (by rw [h]; decide)), if_pos (nI_lt hy (by omega)), e, ix_nI hb, ix_nI (by omega)]
def orM (sheet lane i n k th la : Int32) (ln : Nat) (ce : Nat → Int32) (nw : Nat) (kd mn pu : Nat → Int32) : Int32 :=
  if ¬ rtK sheet lane i n (if orT n k then 1 else 0) th la ln = 0 then rtK sheet lane i n (if orT n k then 1 else 0) th la ln
  else if nw = 0 then -3 else if ¬ allP ce (ix i) (ix n) 99999 then -2
  else if ¬ canP nw (woF kd mn nw - 1) (numF pu (woF kd mn) nw) (sumF (fun q => ce (ix i + q)) (ix n)) then -9
  else orO (ix n) (orC nw kd mn pu (fun q => ce (ix i + q)) (ix n)) k
theorem k_nat {k : Int32} {nn : Nat} (h6 : nn ≤ 6) (h1 : ¬ k < -1) (h2 : ¬ k = -1) (h3 : ¬ nI nn ≤ k) : ∃ y, y < nn ∧ k = nI y := by
  have h0 : ¬ k < 0 := by
    intro q
    have a1 := Int32.le_iff_toInt_le.mp (Int32.not_lt.mp h1)
    have a2 := Int32.lt_iff_toInt_lt.mp q
    have e1 : (-1 : Int32).toInt = -1 := rfl
    rw [e1] at a1
    rw [Int32.toInt_zero] at a2
    exact h2 (Int32.toInt_inj.mp (by rw [e1]; omega))
  obtain ⟨j, a1, a2, -⟩ := pk_mu h0 h3 (by omega)
  exact ⟨j, a1, a2⟩
