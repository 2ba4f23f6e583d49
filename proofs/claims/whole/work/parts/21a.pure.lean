/-! the model's smaller calls and sheets -/
theorem tuF_zero (pu : Nat → Int32) : ∀ m, tuF pu 0 m = none
  | 0 => rfl
  | m + 1 => tuF_miss (tuF_zero pu m) (by rw [Int32.xor_zero]; exact Int32.lt_irrefl)
theorem upd_twice (f : Nat → Int32) (i : Nat) (x y : Int32) : upd (upd f i x) i y = upd f i y := by
  funext k
  unfold upd
  split <;> rfl
theorem two_x (x : Int32) : 2 * x + 100 = x + 100 + x := by
  rw [show (2 : Int32) = 1 + 1 from rfl, Int32.add_mul, Int32.one_mul, Int32.add_assoc, Int32.add_assoc, Int32.add_comm x 100]
theorem wi_no3 {α : Type} {v : Int32} {x y : α} (h : ¬ wiP v 0 2) : (if v < 0 then x else if ¬ v < 3 then x else y) = x := by
  by_cases h0 : v < 0
  · rw [if_pos h0]
  · rw [if_neg h0, if_pos]
    intro q
    exact h ⟨h0, fun z => absurd ((lt_succ_I (k := v) (a := 2) (b := 3) (by decide)).mp z) (Int32.not_le.mpr q)⟩
theorem wi_yes3 {v : Int32} (h : wiP v 0 2) : ¬ v < 0 ∧ v < 3 := ⟨h.1, Int32.not_le.mp (fun q => h.2 ((lt_succ_I (k := v) (a := 2) (b := 3) (by decide)).mpr q))⟩
def zerK (cc : Nat → Int32) (j k : Nat) : Nat → Int32 := fun q => if 60 * j ≤ q ∧ q < 60 * j + k then 0 else cc q
theorem zerK_0 (cc : Nat → Int32) (j : Nat) : zerK cc j 0 = cc := by
  funext q; unfold zerK; rw [if_neg (by omega)]
theorem zerK_s (cc : Nat → Int32) (j k : Nat) : upd (zerK cc j k) (60 * j + k) 0 = zerK cc j (k + 1) := by
  funext q
  unfold upd zerK
  by_cases h : q = 60 * j + k
  · rw [if_pos h, if_pos (by omega)]
  · rw [if_neg h]
    by_cases h2 : 60 * j ≤ q ∧ q < 60 * j + k
    · rw [if_pos h2, if_pos (by omega)]
    · rw [if_neg h2, if_neg (by omega)]
theorem wi_reach {ln : Nat} {i : Int32} (hl : ln ≤ 60) : wiP i 0 (nI ln - 1) ↔ reachP ln i 1 := by
  have e0 : (nI ln).toInt = (ln : Int) := nI_toInt (by omega)
  have e2 : (1 : Int32).toInt = 1 := rfl
  have e1 : (nI ln - 1).toInt = (ln : Int) - 1 := by
    rw [fb_subI (by rw [e0, e2]; omega) (by rw [e0, e2]; omega), e0, e2]
  obtain ⟨r1, r2⟩ := fb_rng i
  constructor
  · rintro ⟨h1, h2⟩
    have g1 := Int32.le_iff_toInt_le.mp (Int32.not_lt.mp h1)
    have g2 := Int32.le_iff_toInt_le.mp (Int32.not_lt.mp h2)
    rw [Int32.toInt_zero] at g1
    rw [e1] at g2
    have e3 : (nI ln - i).toInt = (ln : Int) - i.toInt := by rw [fb_subI (by rw [e0]; omega) (by rw [e0]; omega), e0]
    refine ⟨h1, ?_, by decide, ?_⟩
    · rw [Int32.lt_iff_toInt_lt, e0]; omega
    · rw [Int32.lt_iff_toInt_lt, e3, e2]; omega
  · rintro ⟨h1, h2, -, h4⟩
    have g1 := Int32.le_iff_toInt_le.mp (Int32.not_lt.mp h1)
    have g2 := Int32.le_iff_toInt_le.mp (Int32.not_lt.mp h2)
    rw [Int32.toInt_zero] at g1
    rw [e0] at g2
    have e3 : (nI ln - i).toInt = (ln : Int) - i.toInt := by rw [fb_subI (by rw [e0]; omega) (by rw [e0]; omega), e0]
    have g4 := Int32.le_iff_toInt_le.mp (Int32.not_lt.mp h4)
    rw [e3, e2] at g4
    refine ⟨h1, ?_⟩
    rw [Int32.lt_iff_toInt_lt, e1]; omega
/-- the copied cells: from the lowest up, or from the greatest down -/
def cfw (cc : Nat → Int32) (s d q : Nat) : Nat → Int32 := fun p => if d ≤ p ∧ p < d + q then cc (s + (p - d)) else cc p
def cbw (cc : Nat → Int32) (s d n q : Nat) : Nat → Int32 := fun p => if d + (n - q) ≤ p ∧ p < d + n then cc (s + (p - d)) else cc p
theorem cfw_0 (cc : Nat → Int32) (s d : Nat) : cfw cc s d 0 = cc := by
  funext p; unfold cfw; rw [if_neg (by omega)]
theorem cbw_0 (cc : Nat → Int32) (s d n : Nat) : cbw cc s d n 0 = cc := by
  funext p; unfold cbw; rw [if_neg (by omega)]
theorem cfw_rd {cc : Nat → Int32} {s d q : Nat} (h : ¬ (d ≤ s + q ∧ s + q < d + q)) : cfw cc s d q (s + q) = cc (s + q) := if_neg h
theorem cbw_rd {cc : Nat → Int32} {s d n q c : Nat} (h : ¬ (d + (n - q) ≤ s + c ∧ s + c < d + n)) : cbw cc s d n q (s + c) = cc (s + c) := if_neg h
theorem cfw_s (cc : Nat → Int32) (s d q : Nat) : upd (cfw cc s d q) (d + q) (cc (s + q)) = cfw cc s d (q + 1) := by
  funext p
  unfold upd cfw
  by_cases h : p = d + q
  · subst h; rw [if_pos rfl, if_pos (by omega), show d + q - d = q by omega]
  · rw [if_neg h]
    by_cases h2 : d ≤ p ∧ p < d + q
    · rw [if_pos h2, if_pos (by omega)]
    · rw [if_neg h2, if_neg (by omega)]
theorem cbw_s {cc : Nat → Int32} {s d n q : Nat} (hq : q < n) : upd (cbw cc s d n q) (d + (n - 1 - q)) (cc (s + (n - 1 - q))) = cbw cc s d n (q + 1) := by
  funext p
  unfold upd cbw
  by_cases h : p = d + (n - 1 - q)
  · subst h; rw [if_pos rfl, if_pos (by omega), show d + (n - 1 - q) - d = n - 1 - q by omega]
  · rw [if_neg h]
    by_cases h2 : d + (n - q) ≤ p ∧ p < d + n
    · rw [if_pos h2, if_pos (by omega)]
    · rw [if_neg h2, if_neg (by omega)]
theorem cfw_n (cc : Nat → Int32) (s d n : Nat) : cfw cc s d n = va_cpy cc cc s d n := rfl
theorem cbw_n (cc : Nat → Int32) (s d n : Nat) : cbw cc s d n n = va_cpy cc cc s d n := by
  funext p; unfold cbw va_cpy; rw [Nat.sub_self, Nat.add_zero]
