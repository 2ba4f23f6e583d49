/-! the sheets' calls -/
abbrev shOk (k lane n : Int32) : Prop := shP k ∧ laP lane ∧ n ≤ 60 ∧ ¬ n < 0
def spSheet (k lane n : Int32) : Int32 := if ¬ shP k then -1 else if ¬ laP lane then -2 else if ¬ n ≤ 60 then -2 else if n < 0 then -14 else 1
def spLose (k th : Int32) : Int32 := if ¬ shP k then -1 else if th = 0 then 0 else 1
def spPut (k i th : Int32) (ln : Nat) : Int32 := if ¬ shP k then -1 else if th = 0 then -11 else if ¬ reachP ln i 1 then -13 else 1
abbrev puOk (k i th : Int32) (ln : Nat) : Prop := shP k ∧ ¬ th = 0 ∧ reachP ln i 1
def spCell (k i lane th la : Int32) (ln : Nat) (ce : Nat → Int32) : Int64 := if rtK k lane i 1 1 th la ln = 0 then (ce (ix i)).toInt64 else -9223372036854775808
def spCopy (k i o j n tha laa thb lab : Int32) (lna lnb : Nat) : Int32 := if ¬ shP k then -1 else if ¬ shP o then -1 else if tha = 0 then -11 else if thb = 0 then -11 else if ¬ laa = lab then -12 else if ¬ reachP lna i n then -13 else if ¬ reachP lnb j n then -13 else n
abbrev cpOk (k i o j n tha laa thb lab : Int32) (lna lnb : Nat) : Prop := shP k ∧ shP o ∧ ¬ tha = 0 ∧ ¬ thb = 0 ∧ laa = lab ∧ reachP lna i n ∧ reachP lnb j n
theorem reach1 {ln : Nat} {i : Int32} (h : reachP ln i 1) (hl : ln ≤ 60) : ∃ a : Nat, i = nI a ∧ a < ln := by
  obtain ⟨a, b, h1, h2, h3⟩ := reach_nat h hl
  have hb : b = 1 := by
    have hr := h.2.2.1
    rcases Nat.lt_or_ge b (2 ^ 31) with q | q
    · exact ((nI_eq (a := 1) (b := b) (by decide) q).mp h2).symm
    · omega
  exact ⟨a, h1, by omega⟩
theorem reach2 {ln b : Nat} {i : Int32} (h : reachP ln i (nI b)) (hl : ln ≤ 60) (hb : b < 2 ^ 31) : ∃ a : Nat, i = nI a ∧ a + b ≤ ln := by
  obtain ⟨a, b', h1, h2, h3⟩ := reach_nat h hl
  have : b = b' := (nI_eq hb (by omega)).mp h2
  exact ⟨a, h1, by omega⟩
theorem le_nat {x : Int32} {n : Nat} {M : Int32} (hM : M.toInt = n) (h : ¬ x < 0) (h5 : x ≤ M) : ∃ j : Nat, j ≤ n ∧ x = nI j := nI_of2 hM h h5
theorem flt_nI {b : Nat} (h : b < 2 ^ 31) : fltF (nI b) = 0 := by
  have hb : ∀ x : Int32, x < 0 → ¬ nI b = x := fun x hx e => nI_pos h (e ▸ hx)
  unfold fltF
  rw [if_neg (hb _ (by decide)), if_neg (hb _ (by decide)), if_neg (hb _ (by decide)), if_neg (hb _ (by decide))]
