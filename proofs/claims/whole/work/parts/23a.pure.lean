/-! the model's frame: each place looked at alone -/
abbrev gA (g : Nat → Int32) (p : Nat) : Prop :=
  if p = 0 then g 0 = 97 else if 25 ≤ p then False else if (p - 1) % 4 = 0 then g p = 59 else if (p - 1) % 4 = 1 then ¬ kdF (g p) = -9 else if (p - 1) % 4 = 2 then ¬ g p < 49 ∧ ¬ 57 < g p
  else ¬ g p < 48 ∧ ¬ 57 < g p ∧ ¬ roomF (kdF (g (p - 2))) (g (p - 1) - 48) < g p - 48
def okA (g : Nat → Int32) (p : Nat) : Bool := decide (gA g p)
section GA
variable {g : Nat → Int32} {k : Nat}
theorem okA_z : okA g 0 = true ↔ g 0 = 97 := by rw [okA, decide_eq_true_iff]; exact Iff.rfl
theorem okA_25 : okA g 25 = false := decide_eq_false (by simp only [gA]; rw [if_neg (by decide), if_pos (by decide)]; exact id)
theorem okA_0 (h : k < 6) : okA g (1 + 4 * k) = true ↔ g (1 + 4 * k) = 59 := by
  rw [okA, decide_eq_true_iff, gA, if_neg (by omega), if_neg (by omega), if_pos (by omega)]
theorem okA_1 (h : k < 6) : okA g (1 + 4 * k + 1) = true ↔ ¬ kdF (g (1 + 4 * k + 1)) = -9 := by
  rw [okA, decide_eq_true_iff, gA, if_neg (by omega), if_neg (by omega), if_neg (by omega), if_pos (by omega)]
theorem okA_2 (h : k < 6) : okA g (1 + 4 * k + 1 + 1) = true ↔ ¬ g (1 + 4 * k + 1 + 1) < 49 ∧ ¬ 57 < g (1 + 4 * k + 1 + 1) := by
  rw [okA, decide_eq_true_iff, gA, if_neg (by omega), if_neg (by omega), if_neg (by omega), if_neg (by omega), if_pos (by omega)]
theorem okA_3 (h : k < 6) : okA g (1 + 4 * k + 1 + 2) = true ↔ ¬ g (1 + 4 * k + 1 + 2) < 48 ∧ ¬ 57 < g (1 + 4 * k + 1 + 2) ∧ ¬ roomF (kdF (g (1 + 4 * k + 1))) (g (1 + 4 * k + 1 + 1) - 48) < g (1 + 4 * k + 1 + 2) - 48 := by
  rw [okA, decide_eq_true_iff, gA, if_neg (by omega), if_neg (by omega), if_neg (by omega), if_neg (by omega), if_neg (by omega)]
  exact Iff.rfl
end GA
def tResA (g : Nat → Int32) (n : Nat) : Int32 := if ff (okA g) n < n then nI (ff (okA g) n) else if tVal n ((n - 1) / 4) then -9 else nI n
theorem ff_le (ok : Nat → Bool) : ∀ n, ff ok n ≤ n
  | 0 => Nat.le_refl _
  | n + 1 => by
    have := ff_le ok n
    rw [ff]
    split
    · omega
    · split <;> omega
theorem ff_stop {ok : Nat → Bool} {p n : Nat} (h : ∀ q, q < p → ok q = true) (hp : p ≤ n) (hs : ¬ (p < n ∧ ok p = true)) : ff ok n = p := by
  rcases Nat.lt_or_ge p n with a | a
  · exact ff_at h (by cases e : ok p with | false => rfl | true => exact absurd ⟨a, e⟩ hs) a
  · have e : p = n := by omega
    subst e
    exact ff_all h
theorem nI_n9 {k : Nat} (h : k < 2 ^ 31) : ¬ nI k = -9 := fun z => nI_pos h (by rw [z]; decide)
theorem tResA_no {g : Nat → Int32} {n p : Nat} (hn : n < 2 ^ 31) (e : ff (okA g) n = p) (hp : p ≤ n) (h : p < n ∨ ¬ tVal n ((n - 1) / 4)) : ¬ tResA g n = -9 := by
  unfold tResA
  rw [e]
  rcases Nat.lt_or_ge p n with a | a
  · rw [if_pos a]; exact nI_n9 (by omega)
  · rw [if_neg (by omega), if_neg (h.resolve_left (by omega))]; exact nI_n9 hn
theorem tResA_is {g : Nat → Int32} {n : Nat} (h : ¬ tResA g n = -9) : tResA g n = nI (ff (okA g) n) := by
  unfold tResA at h ⊢
  have := ff_le (okA g) n
  split
  · rfl
  · rename_i a
    rw [if_neg a] at h
    split
    · rename_i b; rw [if_pos b] at h; exact absurd rfl h
    · rw [show ff (okA g) n = n by omega]
theorem tResA_ok {g : Nat → Int32} {k : Nat} (h : ∀ q, q < 1 + 4 * k → okA g q = true) (hk : 2 ≤ k) : tResA g (1 + 4 * k) = -9 ∧ ff (okA g) (1 + 4 * k) = 1 + 4 * k := by
  have e := ff_all h
  refine ⟨?_, e⟩
  unfold tResA
  rw [e, if_neg (by omega), if_pos ⟨by omega, by omega, by omega⟩]
abbrev dgP (cc : Nat → Int32) (a e : Nat) (lo hi : Int32) : Prop := a < e ∧ wiP (cc a) (48 + lo) (48 + hi)
theorem dg_of {cc : Nat → Int32} {a e : Nat} {lo hi : Int32} (h : ¬ (if dgP cc a e lo hi then cc a - 48 else -9) = -9) : dgP cc a e lo hi := by
  by_cases q : dgP cc a e lo hi
  · exact q
  · rw [if_neg q] at h; exact absurd rfl h
theorem dg_no {cc : Nat → Int32} {a e : Nat} {lo hi : Int32} (hlo : ¬ 48 + lo < 48) (hhi : ¬ 57 < 48 + hi) (h : (if dgP cc a e lo hi then cc a - 48 else -9) = -9) : ¬ dgP cc a e lo hi := by
  intro q
  rw [if_pos q] at h
  have g1 := Int32.le_iff_toInt_le.mp (Int32.not_lt.mp q.2.1)
  have g2 := Int32.le_iff_toInt_le.mp (Int32.not_lt.mp q.2.2)
  have g3 := Int32.le_iff_toInt_le.mp (Int32.not_lt.mp hlo)
  have g4 := Int32.le_iff_toInt_le.mp (Int32.not_lt.mp hhi)
  have e1 : (48 : Int32).toInt = 48 := rfl
  have e2 : (57 : Int32).toInt = 57 := rfl
  have e3 : (-9 : Int32).toInt = -9 := rfl
  have h9 : (cc a - 48).toInt = (-9 : Int32).toInt := by rw [h]
  rw [fb_subI (by rw [e1]; omega) (by rw [e1]; omega), e1, e3] at h9
  rw [e1] at g3
  rw [e2] at g4
  omega
theorem le9 {r : Int32} (h : r ≤ 9) : ¬ 57 < 48 + r := by
  have g := Int32.le_iff_toInt_le.mp h
  have e0 : (9 : Int32).toInt = 9 := rfl
  have e1 : (48 : Int32).toInt = 48 := rfl
  have e2 : (57 : Int32).toInt = 57 := rfl
  obtain ⟨r1, r2⟩ := fb_rng r
  rw [e0] at g
  rw [Int32.not_lt, Int32.le_iff_toInt_le, fb_addI (by rw [e1]; omega) (by rw [e1]; omega), e1, e2]
  omega
def mn9 (r : Int32) : Int32 := if r ≤ 9 then r else 9
/-- where the reading of one wire ends -/
def rwA (cc : Nat → Int32) (a e : Nat) : Nat := if ¬ (a < e ∧ ¬ kdF (cc a) = -9) then a else if ¬ dgP cc (a + 1) e 1 9 then a + 1 else if ¬ dgP cc (a + 2) e 0 (mn9 (roomF (kdF (cc a)) (cc (a + 1) - 48))) then a + 2 else a + 3
theorem kdF_3 {c : Int32} (h : ¬ kdF c = -9) : kdF c = 0 ∨ kdF c = 1 ∨ kdF c = 2 := by
  unfold kdF at h ⊢
  by_cases a : c = 108
  · rw [if_pos a]; decide
  · rw [if_neg a] at h ⊢
    by_cases b : c = 111
    · rw [if_pos b]; decide
    · rw [if_neg b] at h ⊢
      by_cases d : c = 119
      · rw [if_pos d]; decide
      · rw [if_neg d] at h; exact absurd rfl h
theorem dig_nat {c : Int32} (h1 : ¬ c < 49) (h2 : ¬ 57 < c) : ∃ m : Nat, 1 ≤ m ∧ m ≤ 9 ∧ c - 48 = nI m := by
  have g1 := Int32.le_iff_toInt_le.mp (Int32.not_lt.mp h1)
  have g2 := Int32.le_iff_toInt_le.mp (Int32.not_lt.mp h2)
  have e1 : (49 : Int32).toInt = 49 := rfl
  have e2 : (57 : Int32).toInt = 57 := rfl
  have e3 : (48 : Int32).toInt = 48 := rfl
  rw [e1] at g1
  rw [e2] at g2
  refine ⟨(c.toInt - 48).toNat, by omega, by omega, Int32.toInt_inj.mp ?_⟩
  rw [fb_subI (by rw [e3]; omega) (by rw [e3]; omega), e3, nI_toInt (by omega)]
  omega
theorem last_iff {c r : Int32} (hr : ∃ q : Nat, 1 ≤ q ∧ q ≤ 18 ∧ r = nI q) : (¬ c < 48 ∧ ¬ 57 < c ∧ ¬ r < c - 48) ↔ wiP c (48 + 0) (48 + mn9 r) := by
  obtain ⟨q, q1, q2, rfl⟩ := hr
  have e0 : (9 : Int32).toInt = 9 := rfl
  have e1 : (48 : Int32).toInt = 48 := rfl
  have e2 : (57 : Int32).toInt = 57 := rfl
  have eq : (nI q).toInt = q := nI_toInt (by omega)
  obtain ⟨r1, r2⟩ := fb_rng c
  rw [show (48 : Int32) + 0 = 48 from rfl]
  have em : (mn9 (nI q)).toInt = if q ≤ 9 then (q : Int) else 9 := by
    unfold mn9
    by_cases a : q ≤ 9
    · rw [if_pos a, if_pos (by rw [Int32.le_iff_toInt_le, eq, e0]; omega), eq]
    · rw [if_neg a, if_neg (by rw [Int32.le_iff_toInt_le, eq, e0]; omega), e0]
  have es : (48 + mn9 (nI q)).toInt = 48 + (if q ≤ 9 then (q : Int) else 9) := by
    rw [fb_addI (by rw [e1, em]; split <;> omega) (by rw [e1, em]; split <;> omega), e1, em]
  constructor
  · rintro ⟨h1, h2, h3⟩
    refine ⟨h1, ?_⟩
    have g1 := Int32.le_iff_toInt_le.mp (Int32.not_lt.mp h1)
    have g2 := Int32.le_iff_toInt_le.mp (Int32.not_lt.mp h2)
    have g3 := Int32.le_iff_toInt_le.mp (Int32.not_lt.mp h3)
    rw [e1] at g1
    rw [e2] at g2
    rw [eq, fb_subI (by rw [e1]; omega) (by rw [e1]; omega), e1] at g3
    rw [Int32.not_lt, Int32.le_iff_toInt_le, es]
    split <;> omega
  · rintro ⟨h1, h2⟩
    have g1 := Int32.le_iff_toInt_le.mp (Int32.not_lt.mp h1)
    have g2 := Int32.le_iff_toInt_le.mp (Int32.not_lt.mp h2)
    rw [e1] at g1
    rw [es] at g2
    refine ⟨h1, ?_, ?_⟩
    · rw [Int32.not_lt, Int32.le_iff_toInt_le, e2]; split at g2 <;> omega
    · rw [Int32.not_lt, Int32.le_iff_toInt_le, eq, fb_subI (by rw [e1]; omega) (by rw [e1]; split at g2 <;> omega), e1]; split at g2 <;> omega
theorem room_dig {a b : Int32} (h : ¬ kdF a = -9) (h1 : ¬ b < 49) (h2 : ¬ 57 < b) : ∃ q : Nat, 1 ≤ q ∧ q ≤ 18 ∧ roomF (kdF a) (b - 48) = nI q :=
  FR.room (n := 1) (kd := fun _ => kdF a) (mn := fun _ => b - 48) ⟨by decide, fun _ _ => ⟨kdF_3 h, dig_nat h1 h2⟩⟩ (w := 0) (by decide)
/-- one wire, as the places say it -/
theorem rw_is {cc : Nat → Int32} {b nn k : Nat} (hk : k < 6) (hp : 1 + 4 * k + 1 ≤ nn) (h : ∀ q, q < 1 + 4 * k + 1 → okA (fun q => cc (b + q)) q = true) :
    (rwA cc (b + (1 + 4 * k) + 1) (b + nn) = b + (1 + 4 * k) + 1 + 3 ∧ 1 + 4 * k + 4 ≤ nn ∧ ∀ q, q < 1 + 4 * (k + 1) → okA (fun q => cc (b + q)) q = true) ∨
    (¬ rwA cc (b + (1 + 4 * k) + 1) (b + nn) = b + (1 + 4 * k) + 1 + 3 ∧ rwA cc (b + (1 + 4 * k) + 1) (b + nn) = b + ff (okA (fun q => cc (b + q))) nn ∧ (ff (okA (fun q => cc (b + q))) nn < nn ∨ ¬ tVal nn ((nn - 1) / 4))) := by
  have a1 : b + (1 + 4 * k) + 1 = b + (1 + 4 * k + 1) := by omega
  have a2 : b + (1 + 4 * k + 1) + 1 = b + (1 + 4 * k + 1 + 1) := by omega
  have a3 : b + (1 + 4 * k + 1) + 2 = b + (1 + 4 * k + 1 + 2) := by omega
  rw [a1]
  unfold rwA dgP
  rw [a2, a3]
  have ext : ∀ p : Nat, (∀ q, q < p → okA (fun q => cc (b + q)) q = true) → okA (fun q => cc (b + q)) p = true → ∀ q, q < p + 1 → okA (fun q => cc (b + q)) q = true := by
    intro p h1 h2 q hq
    rcases Nat.lt_or_ge q p with a | a
    · exact h1 q a
    · rw [show q = p by omega]; exact h2
  have o1 := okA_1 (g := fun q => cc (b + q)) hk
  have o2 := okA_2 (g := fun q => cc (b + q)) hk
  have o3 := okA_3 (g := fun q => cc (b + q)) hk
  have tv : ∀ p : Nat, (p = 1 + 4 * k + 1 ∨ p = 1 + 4 * k + 1 + 1 ∨ p = 1 + 4 * k + 1 + 2) → p ≤ nn → (p < nn ∨ ¬ tVal nn ((nn - 1) / 4)) := by
    intro p h1 h2
    rcases Nat.lt_or_ge p nn with a | a
    · exact Or.inl a
    · refine Or.inr (fun t => ?_)
      have := t.2.1
      omega
  by_cases c1 : b + (1 + 4 * k + 1) < b + nn ∧ ¬ kdF (cc (b + (1 + 4 * k + 1))) = -9
  · rw [if_neg (not_not_intro c1)]
    have h1 := ext _ h (o1.mpr c1.2)
    by_cases c2 : b + (1 + 4 * k + 1 + 1) < b + nn ∧ wiP (cc (b + (1 + 4 * k + 1 + 1))) (48 + 1) (48 + 9)
    · rw [if_neg (not_not_intro c2)]
      have h2 := ext _ h1 (o2.mpr c2.2)
      by_cases c3 : b + (1 + 4 * k + 1 + 2) < b + nn ∧ wiP (cc (b + (1 + 4 * k + 1 + 2))) (48 + 0) (48 + mn9 (roomF (kdF (cc (b + (1 + 4 * k + 1)))) (cc (b + (1 + 4 * k + 1 + 1)) - 48)))
      · rw [if_neg (not_not_intro c3)]
        have h3 := ext _ h2 (o3.mpr ((last_iff (room_dig c1.2 c2.2.1 c2.2.2)).mpr c3.2))
        exact Or.inl ⟨by omega, by omega, fun q hq => h3 q (by omega)⟩
      · rw [if_pos c3]
        have e := ff_stop (n := nn) h2 (by omega) (fun z => c3 ⟨by have := z.1; omega, (last_iff (room_dig c1.2 c2.2.1 c2.2.2)).mp (o3.mp z.2)⟩)
        exact Or.inr ⟨by omega, by rw [e], by rw [e]; exact tv _ (by omega) (by omega)⟩
    · rw [if_pos c2]
      have e := ff_stop (n := nn) h1 (by omega) (fun z => c2 ⟨by have := z.1; omega, o2.mp z.2⟩)
      exact Or.inr ⟨by omega, by rw [e], by rw [e]; exact tv _ (by omega) (by omega)⟩
  · rw [if_pos c1]
    have e := ff_stop (n := nn) h (by omega) (fun z => c1 ⟨by have := z.1; omega, o1.mp z.2⟩)
    exact Or.inr ⟨by omega, by rw [e], by rw [e]; exact tv _ (by omega) (by omega)⟩
/-- what has been read of the first k wires -/
def rdP (g rd : Nat → Int32) (k : Nat) : Prop := ∀ w, w < k → rd (3 * w) = kdF (g (4 * w + 2)) ∧ rd (3 * w + 1) = g (4 * w + 3) - 48 ∧ rd (3 * w + 2) = g (4 * w + 4) - 48
theorem rdP_s {cc rd rd' : Nat → Int32} {b k : Nat} (h : rdP (fun q => cc (b + q)) rd k) (e : rd' = upd (upd (upd rd (3 * k) (kdF (cc (b + (1 + 4 * k) + 1)))) (3 * k + 1) (cc (b + (1 + 4 * k) + 1 + 1) - 48)) (3 * k + 2) (cc (b + (1 + 4 * k) + 1 + 2) - 48)) : rdP (fun q => cc (b + q)) rd' (k + 1) := by
  subst e
  intro w hw
  rcases Nat.lt_or_ge w k with a | a
  · rw [pk_un (by omega), pk_un (by omega), pk_un (by omega), pk_un (by omega), pk_un (by omega), pk_un (by omega), pk_un (by omega), pk_un (by omega), pk_un (by omega)]
    exact h w a
  · have e : w = k := by omega
    subst e
    rw [pk_un (by omega), pk_un (by omega), pk_us, pk_un (by omega), pk_us, pk_us]
    refine ⟨?_, ?_, ?_⟩
    · show _ = kdF (cc (b + (4 * w + 2))); rw [show b + (1 + 4 * w) + 1 = b + (4 * w + 2) by omega]
    · show _ = cc (b + (4 * w + 3)) - 48; rw [show b + (1 + 4 * w) + 1 + 1 = b + (4 * w + 3) by omega]
    · show _ = cc (b + (4 * w + 4)) - 48; rw [show b + (1 + 4 * w) + 1 + 2 = b + (4 * w + 4) by omega]
theorem ok_ext {ok : Nat → Bool} {p : Nat} (h1 : ∀ q, q < p → ok q = true) (h2 : ok p = true) : ∀ q, q < p + 1 → ok q = true := by
  intro q hq
  rcases Nat.lt_or_ge q p with a | a
  · exact h1 q a
  · rw [show q = p by omega]; exact h2
