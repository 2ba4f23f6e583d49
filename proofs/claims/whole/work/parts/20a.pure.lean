/-! figures are small: how far two of them are apart -/
theorem fb_rng (x : Int32) : -2147483648 ≤ x.toInt ∧ x.toInt < 2147483648 := by
  have h1 := Int32.le_toInt x
  have h2 := Int32.toInt_lt x
  omega
theorem fb_bmod {z : Int} (h1 : -2147483648 ≤ z) (h2 : z < 2147483648) : z.bmod (2 ^ 32) = z := by
  rw [Int.bmod_eq_of_le (by omega) (by omega)]
theorem fb_addI {x y : Int32} (h1 : -2147483648 ≤ x.toInt + y.toInt) (h2 : x.toInt + y.toInt < 2147483648) : (x + y).toInt = x.toInt + y.toInt := by
  rw [Int32.toInt_add, fb_bmod h1 h2]
theorem fb_subI {x y : Int32} (h1 : -2147483648 ≤ x.toInt - y.toInt) (h2 : x.toInt - y.toInt < 2147483648) : (x - y).toInt = x.toInt - y.toInt := by
  rw [Int32.toInt_sub, fb_bmod h1 h2]
theorem fb_mulI {x y : Int32} (h1 : -2147483648 ≤ x.toInt * y.toInt) (h2 : x.toInt * y.toInt < 2147483648) : (x * y).toInt = x.toInt * y.toInt := by
  rw [Int32.toInt_mul, fb_bmod h1 h2]
theorem rem_bd (q : Int32) {r : Nat} (hr : r ≤ 18) : -18 ≤ (q - q / (nI r + 1) * (nI r + 1)).toInt ∧ (q - q / (nI r + 1) * (nI r + 1)).toInt ≤ 18 := by
  rw [nI_1]
  have hd : (nI (r + 1)).toInt = ((r + 1 : Nat) : Int) := nI_toInt (by omega)
  obtain ⟨a1, a2⟩ := fb_rng q
  have e0 := Int.mul_tdiv_add_tmod q.toInt ((r + 1 : Nat) : Int)
  have t1 : (q.toInt.tmod ((r + 1 : Nat) : Int)).natAbs < r + 1 := by
    rw [Int.natAbs_tmod]
    exact Nat.mod_lt _ (by simp; omega)
  have hb : (q.toInt.tdiv ((r + 1 : Nat) : Int)).natAbs ≤ q.toInt.natAbs := by
    rw [Int.natAbs_tdiv]
    exact Nat.div_le_self _ _
  have h1 : q.toInt.tdiv ((r + 1 : Nat) : Int) < 2147483648 := by
    by_cases h : q.toInt.tdiv ((r + 1 : Nat) : Int) = 2147483648
    · rw [h] at hb e0
      have : (q.toInt.tmod ((r + 1 : Nat) : Int)).natAbs < 19 := by omega
      have h5 : ((r + 1 : Nat) : Int) ≥ 1 := by omega
      have h6 : ((r + 1 : Nat) : Int) * 2147483648 ≥ 2147483648 := by omega
      omega
    · omega
  have e1 : (q / nI (r + 1)).toInt = q.toInt.tdiv ((r + 1 : Nat) : Int) := by
    rw [Int32.toInt_div, hd, fb_bmod (by omega) h1]
  have hm : ((r + 1 : Nat) : Int) * q.toInt.tdiv ((r + 1 : Nat) : Int) = q.toInt - q.toInt.tmod ((r + 1 : Nat) : Int) := by omega
  have hs : (q.toInt.tmod ((r + 1 : Nat) : Int)).natAbs ≤ q.toInt.natAbs := by
    rw [Int.natAbs_tmod]
    exact Nat.mod_le _ _
  have hsg : (0 ≤ q.toInt → 0 ≤ q.toInt.tmod ((r + 1 : Nat) : Int)) ∧ (q.toInt ≤ 0 → q.toInt.tmod ((r + 1 : Nat) : Int) ≤ 0) := by
    refine ⟨fun h => Int.tmod_nonneg _ h, fun h => ?_⟩
    have := Int.tmod_nonneg ((r + 1 : Nat) : Int) (show 0 ≤ -q.toInt by omega)
    rw [Int.neg_tmod] at this
    omega
  have e2 : (q / nI (r + 1) * nI (r + 1)).toInt = q.toInt - q.toInt.tmod ((r + 1 : Nat) : Int) := by
    rw [fb_mulI]
    · rw [e1, hd, Int.mul_comm]; exact hm
    · rw [e1, hd, Int.mul_comm, hm]; omega
    · rw [e1, hd, Int.mul_comm, hm]; omega
  rw [fb_subI, e2]
  · omega
  · rw [e2]; omega
  · rw [e2]; omega
theorem FR.fig {n : Nat} {kd mn : Nat → Int32} (h : FR n kd mn) {w : Nat} (hw : w < n) (wo v : Int32) : -18 ≤ (figF wo (rmF kd mn w) v).toInt ∧ (figF wo (rmF kd mn w) v).toInt ≤ 18 := by
  obtain ⟨r, h1, h2, e⟩ := h.room hw
  show -18 ≤ (figF wo (roomF (kd w) (mn w)) v).toInt ∧ _
  rw [show rmF kd mn w = roomF (kd w) (mn w) from rfl, e]
  exact rem_bd _ h2
def apF (a b : Int32) : Int32 := if b ≤ a then a - b else b - a
theorem apF_abs {x y : Int32} (hx : -18 ≤ x.toInt ∧ x.toInt ≤ 18) (hy : -18 ≤ y.toInt ∧ y.toInt ≤ 18) : apF x y = absI (y - x) := by
  have e : (y - x).toInt = y.toInt - x.toInt := fb_subI (by omega) (by omega)
  unfold apF absI
  by_cases h : y ≤ x
  · rw [if_pos h]
    have h' := Int32.le_iff_toInt_le.mp h
    by_cases h2 : 0 ≤ y - x
    · rw [if_pos h2]
      have h3 := Int32.le_iff_toInt_le.mp h2
      rw [e, Int32.toInt_zero] at h3
      have : x = y := Int32.toInt_inj.mp (by omega)
      rw [this]
    · rw [if_neg h2]
      apply Int32.toInt_inj.mp
      have e3 : (x - y).toInt = x.toInt - y.toInt := fb_subI (by omega) (by omega)
      have e4 : (0 - (y - x)).toInt = 0 - (y.toInt - x.toInt) := by
        rw [fb_subI (by rw [e, Int32.toInt_zero]; omega) (by rw [e, Int32.toInt_zero]; omega), e, Int32.toInt_zero]
      rw [e3, e4]
      omega
  · rw [if_neg h]
    have h' : x.toInt < y.toInt := Int32.lt_iff_toInt_lt.mp (Int32.not_le.mp h)
    rw [if_pos]
    rw [Int32.le_iff_toInt_le, e, Int32.toInt_zero]
    omega
abbrev wiP (v a b : Int32) : Prop := ¬ v < a ∧ ¬ b < v
theorem ififf {P Q : Prop} [Decidable P] [Decidable Q] (h : P ↔ Q) : (if P then (1 : Int32) else 0) = if Q then 1 else 0 := by
  by_cases p : P
  · rw [if_pos p, if_pos (h.mp p)]
  · rw [if_neg p, if_neg (fun q => p (h.mpr q))]
theorem lt_succ_I {k : Int32} {a b : Int32} (ha : a.toInt + 1 = b.toInt) : a < k ↔ b ≤ k := by
  rw [Int32.lt_iff_toInt_lt, Int32.le_iff_toInt_le]; omega
theorem wi_sh (k : Int32) : wiP k 0 3 ↔ shP k := by
  have := lt_succ_I (k := k) (a := 3) (b := 4) (by decide)
  constructor
  · exact fun h => ⟨h.1, fun q => h.2 (this.mpr q)⟩
  · exact fun h => ⟨h.1, fun q => h.2 (this.mp q)⟩
theorem wi_la (k : Int32) : wiP k 0 2 ↔ laP k := by
  have := lt_succ_I (k := k) (a := 2) (b := 3) (by decide)
  constructor
  · exact fun h => ⟨h.1, fun q => h.2 (this.mpr q)⟩
  · exact fun h => ⟨h.1, fun q => h.2 (this.mp q)⟩
def thM (x : Int32) : Int32 := if x = -9 then 0 else 1
/-- what the machine has against taking cells -/
def agF (so lane i cells : Int32) (ln : Nat) : Int32 := if so = -9 then 1 else if ¬ so = lane then 2 else if cells < 0 then 4 else if reachP ln i cells then 0 else 3
theorem ag_rt {sheet lane i cells so : Int32} {ln : Nat} (h1 : shP sheet) (h2 : laP lane) : rtK sheet lane i cells 1 (thM so) so ln = if agF so lane i cells ln = 0 then 0 else -10 - agF so lane i cells ln := by
  unfold rtK agF thM
  rw [if_neg (not_not_intro h1), if_neg (fun h => h.elim (fun q => q h2) (by decide))]
  by_cases a : so = -9
  · rw [if_pos a, if_pos a, if_pos rfl]; rfl
  · rw [if_neg a, if_neg a, if_neg (by decide)]
    by_cases b : so = lane
    · rw [if_neg (not_not_intro b), if_neg (not_not_intro b)]
      by_cases c : cells < 0
      · rw [if_pos c, if_pos c]; rfl
      · rw [if_neg c, if_neg c]
        by_cases d : reachP ln i cells
        · rw [if_pos d, if_pos d]; rfl
        · rw [if_neg d, if_neg d]; rfl
    · rw [if_pos b, if_pos b]; rfl
theorem wi_no {α : Type} {v a b : Int32} {x y : α} (h : ¬ wiP v a b) : (if v < a then x else if ¬ v ≤ b then x else y) = x := by
  by_cases h0 : v < a
  · rw [if_pos h0]
  · rw [if_neg h0, if_pos (fun q => h ⟨h0, Int32.not_lt.mpr q⟩)]
