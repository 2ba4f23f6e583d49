/-! order: the first least of all rows is what the recursion over sets finds -/
theorem absI_nat {x y : Int32} (hx : -18 ≤ x.toInt ∧ x.toInt ≤ 18) (hy : -18 ≤ y.toInt ∧ y.toInt ≤ 18) : ∃ m : Nat, m ≤ 36 ∧ absI (y - x) = nI m := by
  have e : (y - x).toInt = y.toInt - x.toInt := fb_subI (by omega) (by omega)
  unfold absI
  by_cases h : 0 ≤ y - x
  · have h3 := Int32.le_iff_toInt_le.mp h
    rw [e, Int32.toInt_zero] at h3
    refine ⟨(y.toInt - x.toInt).toNat, by omega, ?_⟩
    rw [if_pos h]
    exact Int32.toInt_inj.mp (by rw [e, nI_toInt (by omega)]; omega)
  · have h3 := Int32.lt_iff_toInt_lt.mp (Int32.not_le.mp h)
    rw [e, Int32.toInt_zero] at h3
    refine ⟨(x.toInt - y.toInt).toNat, by omega, ?_⟩
    rw [if_neg h]
    refine Int32.toInt_inj.mp ?_
    rw [fb_subI (by rw [e, Int32.toInt_zero]; omega) (by rw [e, Int32.toInt_zero]; omega), e, Int32.toInt_zero, nI_toInt (by omega)]
    omega
theorem slF_nat {n : Nat} {kd mn : Nat → Int32} (h : FR n kd mn) (wo : Nat → Int32) (a b : Int32) : ∀ k, k ≤ n → ∃ m : Nat, m ≤ 36 * k ∧ slF (rmF kd mn) wo a b k = nI m
  | 0, _ => ⟨0, by omega, rfl⟩
  | k + 1, hk => by
    obtain ⟨m, h1, h2⟩ := slF_nat h wo a b k (by omega)
    obtain ⟨q, h3, h4⟩ := absI_nat (h.fig (w := k) (by omega) (wo k) a) (h.fig (w := k) (by omega) (wo k) b)
    exact ⟨m + q, by omega, by rw [slF, h2, h4, nI_add]⟩
abbrev RW : Type := List Nat × Nat
def cb : Option RW → Option RW → Option RW
  | none, b => b
  | some x, none => some x
  | some x, some y => if y.2 < x.2 then some y else some x
theorem cb_none (a : Option RW) : cb a none = a := by cases a <;> rfl
theorem cb_assoc (a b c : Option RW) : cb (cb a b) c = cb a (cb b c) := by
  cases a with
  | none => rfl
  | some x =>
    cases b with
    | none => rfl
    | some y =>
      cases c with
      | none => rw [cb_none, cb_none]
      | some z =>
        simp only [cb]
        by_cases h1 : y.2 < x.2
        · rw [if_pos h1]
          by_cases h2 : z.2 < y.2
          · simp only [cb]; rw [if_pos h2]; simp only [cb]; rw [if_pos (by omega)]
          · simp only [cb]; rw [if_neg h2]; simp only [cb]; rw [if_pos h1]
        · rw [if_neg h1]
          by_cases h2 : z.2 < y.2
          · rw [if_pos h2]
          · rw [if_neg h2]; simp only [cb]; rw [if_neg h1, if_neg (by omega)]
def fmA (a : Option RW) : List RW → Option RW
  | [] => a
  | x :: xs => fmA (cb a (some x)) xs
theorem fmA_app : ∀ (xs ys : List RW) (a : Option RW), fmA a (xs ++ ys) = fmA (fmA a xs) ys
  | [], _, _ => rfl
  | x :: xs, ys, a => by
    show fmA (cb a (some x)) (xs ++ ys) = fmA (fmA (cb a (some x)) xs) ys
    exact fmA_app xs ys _
theorem fmA_cb : ∀ (xs : List RW) (a b : Option RW), fmA (cb a b) xs = cb a (fmA b xs)
  | [], _, _ => rfl
  | x :: xs, a, b => by
    show fmA (cb (cb a b) (some x)) xs = cb a (fmA (cb b (some x)) xs)
    rw [cb_assoc, fmA_cb xs a]
theorem fmA_from (xs : List RW) (a : Option RW) : fmA a xs = cb a (fmA none xs) := by
  have := fmA_cb xs a none
  rw [cb_none] at this
  exact this
def shf (k c : Nat) (x : RW) : RW := (k :: x.1, c + x.2)
theorem cb_shf (k c : Nat) (a b : Option RW) : (cb a b).map (shf k c) = cb (a.map (shf k c)) (b.map (shf k c)) := by
  cases a with
  | none => cases b <;> rfl
  | some x =>
    cases b with
    | none => rfl
    | some y =>
      show (if y.2 < x.2 then some y else some x).map (shf k c) = if (shf k c y).2 < (shf k c x).2 then some (shf k c y) else some (shf k c x)
      by_cases h : y.2 < x.2
      · rw [if_pos h, if_pos (show (shf k c y).2 < (shf k c x).2 from Nat.add_lt_add_left h c)]; rfl
      · rw [if_neg h, if_neg (show ¬ (shf k c y).2 < (shf k c x).2 from fun q => h (Nat.lt_of_add_lt_add_left (n := c) q))]; rfl
theorem fmA_shf (k c : Nat) : ∀ (xs : List RW) (a : Option RW), (fmA a xs).map (shf k c) = fmA (a.map (shf k c)) (xs.map (shf k c))
  | [], _ => rfl
  | x :: xs, a => by
    show (fmA (cb a (some x)) xs).map (shf k c) = fmA (cb (a.map (shf k c)) (some (shf k c x))) (xs.map (shf k c))
    rw [fmA_shf k c xs, cb_shf]; rfl
/-- all rows, the first places changing the slowest -/
def rK (h : Nat → List (List Nat)) (st : Nat) : Nat → List (List Nat)
  | 0 => []
  | k + 1 => rK h st k ++ (if st.testBit k then [] else (h k).map (fun r => k :: r))
def rwL (n : Nat) : Nat → Nat → List (List Nat)
  | 0, _ => [[]]
  | f + 1, st => rK (fun k => rwL n f (st ||| 2 ^ k)) st n
def rcL (C : Nat → Nat → Nat) : Nat → List Nat → Nat
  | _, [] => 0
  | st, k :: r => C st k + rcL C (st ||| 2 ^ k) r
def bK (C : Nat → Nat → Nat) (st : Nat) (h : Nat → RW) : Nat → Option RW
  | 0 => none
  | k + 1 => if st.testBit k then bK C st h k else cb (bK C st h k) (some (shf k (C st k) (h k)))
def bD (C : Nat → Nat → Nat) (n : Nat) : Nat → Nat → RW
  | 0, _ => ([], 0)
  | f + 1, st => (bK C st (fun k => bD C n f (st ||| 2 ^ k)) n).getD ([], 0)
def ms (st : Nat) : Nat → Nat
  | 0 => 0
  | k + 1 => ms st k + (if st.testBit k then 0 else 1)
set_option maxRecDepth 100000 in
theorem ms_or : ∀ st, st < 64 → ∀ n, n < 7 → ∀ k, k < n → st.testBit k = false → ms (st ||| 2 ^ k) n + 1 = ms st n := by decide +kernel
theorem or_gt : ∀ st, st < 64 → ∀ k, k < 6 → st.testBit k = false → st < st ||| 2 ^ k := by decide +kernel
theorem ms_full : ∀ n, n < 7 → ms (2 ^ n - 1) n = 0 := by decide +kernel
theorem ms_empty : ∀ n, n < 7 → ms 0 n = n := by decide +kernel
theorem ms_has {st : Nat} : ∀ {n : Nat}, 0 < ms st n → ∃ k, k < n ∧ st.testBit k = false
  | 0, h => absurd h (Nat.lt_irrefl 0)
  | n + 1, h => by
    cases e : st.testBit n with
    | false => exact ⟨n, by omega, e⟩
    | true =>
      rw [ms, e, if_pos rfl] at h
      obtain ⟨k, h1, h2⟩ := ms_has (n := n) h
      exact ⟨k, by omega, h2⟩
/-- what the best of a set is -/
theorem bK_is {C : Nat → Nat → Nat} {st : Nat} {h : Nat → RW} : ∀ {k : Nat} {x : RW}, bK C st h k = some x → ∃ q, q < k ∧ st.testBit q = false ∧ x = shf q (C st q) (h q)
  | 0, x, e => by cases e
  | k + 1, x, e => by
    rw [bK] at e
    cases b : st.testBit k with
    | true =>
      rw [b, if_pos rfl] at e
      obtain ⟨q, h1, h2, h3⟩ := bK_is e
      exact ⟨q, by omega, h2, h3⟩
    | false =>
      rw [b, if_neg (by decide)] at e
      cases a : bK C st h k with
      | none => rw [a] at e; exact ⟨k, by omega, b, (Option.some.inj e).symm⟩
      | some y =>
        rw [a] at e
        simp only [cb] at e
        split at e
        · exact ⟨k, by omega, b, (Option.some.inj e).symm⟩
        · obtain ⟨q, h1, h2, h3⟩ := bK_is a
          exact ⟨q, by omega, h2, by rw [← Option.some.inj e]; exact h3⟩
theorem cb_some (a : Option RW) (x : RW) : ∃ y, cb a (some x) = some y := by
  cases a with
  | none => exact ⟨x, rfl⟩
  | some z =>
    simp only [cb]
    by_cases h : x.2 < z.2
    · exact ⟨x, if_pos h⟩
    · exact ⟨z, if_neg h⟩
theorem bK_has {C : Nat → Nat → Nat} {st : Nat} {h : Nat → RW} {q : Nat} (hb : st.testBit q = false) : ∀ {k : Nat}, q < k → ∃ x, bK C st h k = some x
  | 0, hq => by omega
  | k + 1, hq => by
    cases b : st.testBit k with
    | true =>
      have : q ≠ k := fun z => by rw [z, b] at hb; cases hb
      obtain ⟨x, hx⟩ := bK_has (C := C) (h := h) hb (k := k) (by omega)
      exact ⟨x, by rw [bK, b, if_pos rfl]; exact hx⟩
    | false =>
      obtain ⟨y, hy⟩ := cb_some (bK C st h k) (shf k (C st k) (h k))
      exact ⟨y, by rw [bK, b, if_neg (by decide)]; exact hy⟩
theorem bD_is {C : Nat → Nat → Nat} {n f st : Nat} (h : ms st n = f + 1) : bK C st (fun k => bD C n f (st ||| 2 ^ k)) n = some (bD C n (f + 1) st) ∧ ∃ q, q < n ∧ st.testBit q = false ∧ bD C n (f + 1) st = shf q (C st q) (bD C n f (st ||| 2 ^ q)) := by
  obtain ⟨k, h1, h2⟩ := ms_has (st := st) (n := n) (by omega)
  obtain ⟨x, hx⟩ := bK_has (C := C) (h := fun k => bD C n f (st ||| 2 ^ k)) h2 h1
  have e : bD C n (f + 1) st = x := by show (bK C st (fun k => bD C n f (st ||| 2 ^ k)) n).getD ([], 0) = x; rw [hx]; rfl
  rw [e]
  exact ⟨hx, bK_is hx⟩
theorem or_lt2 {n st k : Nat} (h : st < 2 ^ n) (hk : k < n) : st ||| 2 ^ k < 2 ^ n := Nat.or_lt_two_pow h (Nat.pow_lt_pow_right (by decide) hk)
theorem lt64 {n st : Nat} (h6 : n ≤ 6) (h : st < 2 ^ n) : st < 64 := Nat.lt_of_lt_of_le h (two_le h6).2
theorem rows_best (C : Nat → Nat → Nat) {n : Nat} (h6 : n ≤ 6) : ∀ f st, st < 2 ^ n → ms st n = f → fmA none ((rwL n f st).map (fun r => (r, rcL C st r))) = some (bD C n f st)
  | 0, st, _, _ => rfl
  | f + 1, st, hs, hm => by
    have key : ∀ k, k ≤ n → fmA none ((rK (fun k => rwL n f (st ||| 2 ^ k)) st k).map (fun r => (r, rcL C st r))) = bK C st (fun k => bD C n f (st ||| 2 ^ k)) k := by
      intro k
      induction k with
      | zero => intro _; rfl
      | succ k ih =>
        intro hk
        have ih := ih (by omega)
        rw [rK, bK]
        cases b : st.testBit k with
        | true => rw [if_pos rfl, if_pos rfl, List.append_nil]; exact ih
        | false =>
          have h1 := rows_best C h6 f (st ||| 2 ^ k) (or_lt2 hs (by omega)) (by have := ms_or st (lt64 h6 hs) n (by omega) k (by omega) b; omega)
          rw [if_neg (by decide), if_neg (by decide), List.map_append, fmA_app, ih, fmA_from, List.map_map]
          have e : ((fun r => (r, rcL C st r)) ∘ fun r => k :: r : List Nat → RW) = shf k (C st k) ∘ fun r => (r, rcL C (st ||| 2 ^ k) r) := rfl
          rw [e, ← List.map_map, ← show (none : Option RW).map (shf k (C st k)) = none from rfl, ← fmA_shf, h1]
          rfl
    have h2 := key n (Nat.le_refl _)
    rw [(bD_is (C := C) hm).1] at h2
    exact h2
theorem bD_le {C : Nat → Nat → Nat} {B : Nat} (hC : ∀ a b, C a b ≤ B) {n : Nat} (h6 : n ≤ 6) : ∀ f st, st < 2 ^ n → ms st n = f → (bD C n f st).2 ≤ B * f
  | 0, _, _, _ => Nat.zero_le _
  | f + 1, st, hs, hm => by
    obtain ⟨-, q, h1, h2, h3⟩ := bD_is (C := C) hm
    have h4 := bD_le hC h6 f (st ||| 2 ^ q) (or_lt2 hs h1) (by have := ms_or st (lt64 h6 hs) n (by omega) q h1 h2; omega)
    have h5 := hC st q
    rw [h3]
    show C st q + (bD C n f (st ||| 2 ^ q)).2 ≤ B * (f + 1)
    rw [Nat.mul_succ]; omega
