/-! odds, in numbers -/
def wnS (f : Nat → Nat) (m : Nat) : Nat → Nat
  | 0 => 0
  | h + 1 => wnS f m h + f (m - h)
def wN (r : Nat → Nat) : Nat → Nat → Nat
  | 0 => fun m => if m = 0 then 1 else 0
  | w + 1 => fun m => wnS (wN r w) m (min (r w) m + 1)
def rN (kd mn : Nat → Int32) (w : Nat) : Nat := ix (roomF (kd w) (mn w))
def wP (r : Nat → Nat) : Nat → Nat
  | 0 => 1
  | w + 1 => wP r w * (r w + 1)
theorem wnS_le {f : Nat → Nat} {m M : Nat} (h : ∀ q, f q ≤ M) : ∀ k, wnS f m k ≤ k * M
  | 0 => by simp [wnS]
  | k + 1 => by rw [wnS, Nat.succ_mul]; exact Nat.add_le_add (wnS_le h k) (h _)
theorem wN_le {r : Nat → Nat} {n : Nat} (h : ∀ w, w < n → r w ≤ 18) : ∀ w, w ≤ n → ∀ m, wN r w m ≤ 19 ^ w
  | 0, _ => fun m => by show (if m = 0 then 1 else 0) ≤ 1; split <;> omega
  | w + 1, hw => fun m => by
    have h1 := wnS_le (m := m) (wN_le h w (by omega)) (min (r w) m + 1)
    have h2 := h w (by omega)
    refine Nat.le_trans h1 ?_
    rw [Nat.pow_succ, Nat.mul_comm]
    exact Nat.mul_le_mul_left _ (by omega)
theorem rN_of {n : Nat} {kd mn : Nat → Int32} (h : FR n kd mn) {w : Nat} (hw : w < n) : 1 ≤ rN kd mn w ∧ rN kd mn w ≤ 18 ∧ roomF (kd w) (mn w) = nI (rN kd mn w) := by
  obtain ⟨r, h1, h2, e⟩ := h.room hw
  have e2 : rN kd mn w = r := by unfold rN; rw [e]; exact ix_nI (by omega)
  rw [e2]
  exact ⟨h1, h2, e⟩
theorem wP_of {n : Nat} {kd mn : Nat → Int32} (h : FR n kd mn) : ∀ w, w ≤ n → 1 ≤ wP (rN kd mn) w ∧ wP (rN kd mn) w ≤ 19 ^ w ∧ woF kd mn w = nI (wP (rN kd mn) w)
  | 0, _ => ⟨Nat.le_refl 1, Nat.le_refl 1, rfl⟩
  | w + 1, hw => by
    obtain ⟨h1, h2, e⟩ := wP_of h w (by omega)
    obtain ⟨g1, g2, e2⟩ := rN_of h (w := w) (by omega)
    refine ⟨Nat.mul_pos (by omega) (by omega), ?_, ?_⟩
    · rw [Nat.pow_succ]; exact Nat.mul_le_mul h2 (by omega)
    · rw [woF, e, e2, nI_1, pk_mul]; rfl
def wA (f : Nat → Nat) : Nat → Int32 := fun q => nI (f q)
def wm (f g : Nat → Nat) (m : Nat) : Nat → Nat := fun q => if q < m then f q else g q
theorem wm_s {f g : Nat → Nat} {m : Nat} : upd (wA (wm f g (m + 1))) m (nI (g m)) = wA (wm f g m) := by
  funext q
  by_cases h : q = m
  · subst h; rw [pk_us]; show _ = nI (wm f g q q); rw [wm, if_neg (by omega)]
  · rw [pk_un h]
    show nI (wm f g (m + 1) q) = nI (wm f g m q)
    unfold wm
    by_cases h2 : q < m
    · rw [if_pos h2, if_pos (by omega)]
    · rw [if_neg h2, if_neg (by omega)]
theorem wm_in {f g : Nat → Nat} {m q : Nat} (h : q < m) : wA (wm f g m) q = nI (f q) := by unfold wA wm; rw [if_pos h]
/-- what odds answers -/
def odM (n : Nat) (kd mn : Nat → Int32) (x k : Int32) : Int64 :=
  if ¬ odT x k then -9223372036854775808 else if n = 0 then -9223372036854775808
  else if k = 0 then lN (wN (rN kd mn) n (ix x) / Nat.gcd (wN (rN kd mn) n (ix x)) (wP (rN kd mn) n)) else lN (wP (rN kd mn) n / Nat.gcd (wN (rN kd mn) n (ix x)) (wP (rN kd mn) n))
/-! the other side's odds -/
theorem wyI_lN {f : Nat → Int64} {g : Nat → Nat} (h : ∀ q, f q = lN (g q)) (m : Nat) : ∀ k, wyI f m k = lN (wnS g m k)
  | 0 => rfl
  | k + 1 => by rw [wyI, wnS, wyI_lN h m k, h, lN_add]
theorem wyK_nI {r m : Nat} (h : r < 2 ^ 31) : wyK (nI r) m = min r m + 1 := by
  unfold wyK
  rw [if_neg (nI_pos h), ix_nI h]
  split <;> omega
theorem wyL_lN {n : Nat} {ro : Nat → Int32} {r : Nat → Nat} (h : ∀ w, w < n → r w ≤ 18 ∧ ro w = nI (r w)) : ∀ w, w ≤ n → ∀ m, wyL ro w m = lN (wN r w m)
  | 0, _ => fun m => by
    show (if m = 0 then (1 : Int64) else 0) = lN (if m = 0 then 1 else 0)
    split <;> rfl
  | w + 1, hw => fun m => by
    show wyI (wyL ro w) m (wyK (ro w) m) = lN (wnS (wN r w) m (min (r w) m + 1))
    obtain ⟨h1, h2⟩ := h w (by omega)
    rw [h2, wyK_nI (by omega), wyI_lN (wyL_lN h w (by omega))]
def gN (a b : Nat) : Nat → Nat × Nat
  | 0 => (a, b)
  | k + 1 => if (gN a b k).2 = 0 then gN a b k else ((gN a b k).2, (gN a b k).1 % (gN a b k).2)
theorem gN_lt {a b M : Nat} (ha : a < M) (hb : b < M) : ∀ k, (gN a b k).1 < M ∧ (gN a b k).2 < M
  | 0 => ⟨ha, hb⟩
  | k + 1 => by
    obtain ⟨h1, h2⟩ := gN_lt ha hb k
    rw [gN]
    split
    · exact ⟨h1, h2⟩
    · rename_i z
      exact ⟨h2, Nat.lt_trans (Nat.mod_lt _ (Nat.pos_of_ne_zero z)) h2⟩
theorem gN_gcd (a b : Nat) : ∀ k, Nat.gcd (gN a b k).1 (gN a b k).2 = Nat.gcd a b
  | 0 => rfl
  | k + 1 => by
    rw [gN]
    split
    · exact gN_gcd a b k
    · show Nat.gcd (gN a b k).2 ((gN a b k).1 % (gN a b k).2) = _
      rw [Nat.gcd_comm, ← Nat.gcd_rec, Nat.gcd_comm]; exact gN_gcd a b k
theorem gdF_gN {a b : Nat} (ha : a < 2 ^ 63) (hb : b < 2 ^ 63) : ∀ k, gdF (lN a) (lN b) k = (lN (gN a b k).1, lN (gN a b k).2)
  | 0 => rfl
  | k + 1 => by
    obtain ⟨h1, h2⟩ := gN_lt ha hb k
    rw [gdF, gdF_gN ha hb k, gdN, gN]
    by_cases z : (gN a b k).2 = 0
    · rw [if_pos z, if_pos (show lN (gN a b k).2 = 0 by rw [z]; rfl)]
    · rw [if_neg z, if_neg (show ¬ lN (gN a b k).2 = 0 from fun h => z ((pk_lEQ (b := 0) h2 (by decide)).mp h))]
      show (lN _, lN (gN a b k).1 - lN (gN a b k).1 / lN (gN a b k).2 * lN (gN a b k).2) = _
      rw [pk_lRem h1 (Nat.pos_of_ne_zero z) h2]
theorem mod_half {x y : Nat} (h0 : 0 < y) (h : y ≤ x) : 2 * (x % y) < x := by
  have h1 := Nat.mod_lt x h0
  have h2 := Nat.div_add_mod x y
  have h3 : 1 ≤ x / y := (Nat.le_div_iff_mul_le h0).mpr (by omega)
  have h4 : y * 1 ≤ y * (x / y) := Nat.mul_le_mul_left y h3
  omega
/-- two steps halve what is left -/
theorem gN_half {a b : Nat} : ∀ k m, b < 2 ^ m → k ≤ m → (gN a b (2 * k)).2 < 2 ^ (m - k)
  | 0, m, hb, _ => hb
  | k + 1, m, hb, hk => by
    have ih := gN_half (a := a) k m hb (by omega)
    have e : 2 ^ (m - k) = 2 * 2 ^ (m - (k + 1)) := by rw [show m - k = (m - (k + 1)) + 1 by omega, Nat.pow_succ, Nat.mul_comm]
    have p0 : 0 < 2 ^ (m - (k + 1)) := Nat.pow_pos (by decide)
    rw [show 2 * (k + 1) = 2 * k + 1 + 1 by omega, gN, gN]
    by_cases z : (gN a b (2 * k)).2 = 0
    · rw [if_pos z, if_pos z, z]; exact p0
    · rw [if_neg z]
      show (if (gN a b (2 * k)).1 % (gN a b (2 * k)).2 = 0 then _ else _ : Nat × Nat).2 < _
      by_cases z2 : (gN a b (2 * k)).1 % (gN a b (2 * k)).2 = 0
      · rw [if_pos z2]; show (gN a b (2 * k)).1 % (gN a b (2 * k)).2 < _; rw [z2]; exact p0
      · rw [if_neg z2]
        show (gN a b (2 * k)).2 % ((gN a b (2 * k)).1 % (gN a b (2 * k)).2) < _
        have h1 := Nat.mod_lt (gN a b (2 * k)).1 (Nat.pos_of_ne_zero z)
        have h2 := mod_half (Nat.pos_of_ne_zero z2) (Nat.le_of_lt h1)
        omega
theorem gN_mono {a b : Nat} {k : Nat} (h : (gN a b k).2 = 0) : ∀ m, k ≤ m → gN a b m = gN a b k := by
  intro m hm
  induction m with
  | zero => rw [show k = 0 by omega]
  | succ m ih =>
    rcases Nat.lt_or_ge k (m + 1) with q | q
    · have e := ih (by omega)
      rw [gN, e, if_pos h]
    · rw [show k = m + 1 by omega]
theorem gN_end {a b m : Nat} (hb : b < 2 ^ 63) (hm : 126 ≤ m) : (gN a b m).1 = Nat.gcd a b := by
  obtain ⟨k, hk⟩ : ∃ k : Nat, k = 63 := ⟨63, rfl⟩
  have h1 := gN_half (a := a) k 63 hb (by omega)
  rw [show 63 - k = 0 by omega, Nat.pow_zero] at h1
  have h2 : (gN a b (2 * k)).2 = 0 := Nat.lt_one_iff.mp h1
  have h4 := gN_mono h2 m (by omega)
  have h5 := gN_gcd a b (2 * k)
  rw [h2, Nat.gcd_zero_right] at h5
  rw [h4, h5]
theorem spOdds_odM {n : Nat} {kd mn ro : Nat → Int32} {mo x k : Int32} (h : FR n kd mn) (hro : ∀ w, w < n → ro w = rmF kd mn w) (hmo : 0 < n → mo = woF kd mn n - 1) : spOdds n mo ro x k = odM n kd mn x k := by
  unfold spOdds odM
  have hM : 126 ≤ 200 := by decide
  generalize 200 = M at hM ⊢
  by_cases a : odT x k
  · rw [if_neg (not_not_intro a), if_neg (not_not_intro a)]
    by_cases b : n = 0
    · rw [if_pos b, if_pos b]
    · rw [if_neg b, if_neg b]
      have h6 := h.1
      obtain ⟨d1, d2, d3⟩ := wP_of h n (Nat.le_refl _)
      have d4 := pow19 h6
      have r18 : ∀ w, w < n → rN kd mn w ≤ 18 := fun w hw => (rN_of h hw).2.1
      have w4 := wN_le r18 n (Nat.le_refl _) (ix x)
      have e1 : wyL ro n (ix x) = lN (wN (rN kd mn) n (ix x)) := wyL_lN (n := n) (fun w hw => ⟨r18 w hw, (hro w hw).trans (rN_of h hw).2.2⟩) n (Nat.le_refl _) (ix x)
      have e2 : mo.toInt64 + 1 = lN (wP (rN kd mn) n) := by
        rw [hmo (by omega), d3, show nI (wP (rN kd mn) n) - 1 = nI (wP (rN kd mn) n - 1) from by rw [show (1 : Int32) = nI 1 from rfl]; exact pk_sub (by omega), nI_l (by omega), lN_1, show wP (rN kd mn) n - 1 + 1 = wP (rN kd mn) n by omega]
      rw [e1, e2]
      have e3 : (gdF (lN (wP (rN kd mn) n)) (lN (wN (rN kd mn) n (ix x))) M).1 = lN (Nat.gcd (wN (rN kd mn) n (ix x)) (wP (rN kd mn) n)) := by
        rw [gdF_gN (by omega) (by omega) M]
        show lN (gN (wP (rN kd mn) n) (wN (rN kd mn) n (ix x)) M).1 = _
        rw [gN_end (by omega) hM, Nat.gcd_comm]
      rw [e3]
      have g0 : 0 < Nat.gcd (wN (rN kd mn) n (ix x)) (wP (rN kd mn) n) := Nat.gcd_pos_of_pos_right _ d1
      have g1 : Nat.gcd (wN (rN kd mn) n (ix x)) (wP (rN kd mn) n) ≤ wP (rN kd mn) n := Nat.gcd_le_right _ d1
      have g2 : (0 : Int64) < lN (Nat.gcd (wN (rN kd mn) n (ix x)) (wP (rN kd mn) n)) := (pk_lLT (a := 0) (by decide) (by omega)).mpr g0
      rw [if_neg (not_not_intro g2)]
      by_cases c : k = 0
      · rw [if_pos c, if_pos c, pk_lDiv (by omega) g0 (by omega)]
      · rw [if_neg c, if_neg c, pk_lDiv (by omega) g0 (by omega)]
  · rw [if_pos a, if_pos a]
