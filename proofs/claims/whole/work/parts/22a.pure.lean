/-! the model's day -/
theorem wi_01 (g : Int32) : wiP g 0 1 ↔ g = 0 ∨ g = 1 := by
  obtain ⟨r1, r2⟩ := fb_rng g
  have e1 : (1 : Int32).toInt = 1 := rfl
  constructor
  · rintro ⟨h1, h2⟩
    have g1 := Int32.le_iff_toInt_le.mp (Int32.not_lt.mp h1)
    have g2 := Int32.le_iff_toInt_le.mp (Int32.not_lt.mp h2)
    rw [Int32.toInt_zero] at g1
    rw [e1] at g2
    rcases (show g.toInt = 0 ∨ g.toInt = 1 by omega) with q | q
    · exact Or.inl (Int32.toInt_inj.mp (by rw [q, Int32.toInt_zero]))
    · exact Or.inr (Int32.toInt_inj.mp (by rw [q, e1]))
  · rintro (rfl | rfl) <;> decide
theorem wi_01_no {g : Int32} (h : wiP g 0 1) : ¬ wiP g 10 28 := by
  rcases (wi_01 g).mp h with rfl | rfl <;> decide
theorem acF_0 {n : Nat} {f g : Int32} (h : acF n f g = 0) : (g = 0 ∨ g = 1) ∨ (¬ (g = 0 ∨ g = 1) ∧ ¬ g < 10 ∧ g ≤ 28 ∧ hasP n f) := by
  unfold acF at h
  by_cases a : g = 0 ∨ g = 1
  · exact Or.inl a
  · rw [if_neg a] at h
    by_cases b : g < 10
    · rw [if_pos b] at h; exact absurd h (by decide)
    · rw [if_neg b] at h
      by_cases c : g ≤ 28
      · rw [if_neg (not_not_intro c)] at h
        by_cases d : hasP n f
        · exact Or.inr ⟨a, b, c, d⟩
        · rw [if_pos d] at h; exact absurd h (by decide)
      · rw [if_pos c] at h; exact absurd h (by decide)
/-- what is pushed is small -/
def PB (n : Nat) (pu : Nat → Int32) : Prop := ∀ w, w < n → -18 ≤ (pu w).toInt ∧ (pu w).toInt ≤ 18
theorem sub10 {g : Int32} (h1 : ¬ g < 10) (h2 : g ≤ 28) : -18 ≤ (g - 10).toInt ∧ (g - 10).toInt ≤ 18 := by
  have g1 := Int32.le_iff_toInt_le.mp (Int32.not_lt.mp h1)
  have g2 := Int32.le_iff_toInt_le.mp h2
  have e1 : (10 : Int32).toInt = 10 := rfl
  have e2 : (28 : Int32).toInt = 28 := rfl
  rw [e1] at g1
  rw [e2] at g2
  rw [fb_subI (by rw [e1]; omega) (by rw [e1]; omega), e1]
  omega
theorem figs_PB {n : Nat} {kd mn : Nat → Int32} (h : FR n kd mn) (v : Int32) (pu wo : Nat → Int32) : PB n (fil (fun w => figF (wo w) (rmF kd mn w) v) pu n) := by
  intro w hw
  rw [fil_in hw]
  exact h.fig hw _ _
theorem dStep_PB {n : Nat} {kd mn : Nat → Int32} (h : FR n kd mn) {mo : Int32} {wo : Nat → Int32} {f g : Int32} {x d : DS} (hx : PB n x.1) (hac : acF n f g = 0) (e : dStep n mo (rmF kd mn) wo f g x = some d) : PB n d.1 := by
  unfold dStep at e
  by_cases a : g = 0
  · rw [if_pos a] at e
    unfold dSum at e
    split at e
    · cases e; exact figs_PB h _ _ _
    · cases e
  · rw [if_neg a] at e
    by_cases b : g = 1
    · rw [if_pos b] at e
      unfold dTak at e
      split at e
      · cases e; exact figs_PB h _ _ _
      · cases e
    · rw [if_neg b] at e
      unfold dPsh at e
      split at e
      · cases e
        intro w hw
        show -18 ≤ (upd x.1 (ix f) (g - 10) w).toInt ∧ (upd x.1 (ix f) (g - 10) w).toInt ≤ 18
        rcases acF_0 hac with q | ⟨-, q1, q2, -⟩
        · exact absurd q (fun h => h.elim a b)
        · by_cases z : w = ix f
          · rw [z, pk_us]; exact sub10 q1 q2
          · rw [pk_un z]; exact hx w hw
      · cases e
def tdF (what : Int32) (n : Nat) (pu wo : Nat → Int32) (sl cr gr : Int32) : Int32 := if what < 10 then (if what = 0 then numF pu wo n else if what = 2 then sl else if what = 3 then cr else gr) else if hasP n (what - 10) then pu (ix (what - 10)) else -9
theorem tdF_ofD {what : Int32} {n : Nat} {wo : Nat → Int32} {x : RS} (hw : dyP what) : (if what = 1 then x.1 else if x.1 = -9 then tdF what n x.2.1.1 wo x.2.1.2.1 x.2.1.2.2 x.2.2 else -100 - x.1) = ofD what x n wo := by
  unfold ofD tdF
  by_cases a : what = 1
  · rw [if_pos a, if_pos a]
  · rw [if_neg a, if_neg a]
    by_cases b : x.1 = -9
    · rw [if_pos b, if_neg (not_not_intro b)]
      rcases hw with ⟨h1, h2⟩ | ⟨h1, h2⟩
      · have g1 := Int32.le_iff_toInt_le.mp (Int32.not_lt.mp h1)
        have g2 := Int32.le_iff_toInt_le.mp h2
        have e4 : (4 : Int32).toInt = 4 := rfl
        rw [Int32.toInt_zero] at g1
        rw [e4] at g2
        have hlt : what < 10 := by rw [Int32.lt_iff_toInt_lt, show (10 : Int32).toInt = 10 from rfl]; omega
        rw [if_pos hlt]
        rcases (show what.toInt = 0 ∨ what.toInt = 1 ∨ what.toInt = 2 ∨ what.toInt = 3 ∨ what.toInt = 4 by omega) with q | q | q | q | q
        · rw [show what = 0 from Int32.toInt_inj.mp (by rw [q]; rfl)]; rfl
        · exact absurd (Int32.toInt_inj.mp (by rw [q]; rfl)) a
        · rw [show what = 2 from Int32.toInt_inj.mp (by rw [q]; rfl)]; rfl
        · rw [show what = 3 from Int32.toInt_inj.mp (by rw [q]; rfl)]; rfl
        · rw [show what = 4 from Int32.toInt_inj.mp (by rw [q]; rfl)]; rfl
      · have hne : ∀ k : Int32, k < 10 → ¬ what = k := fun k hk e => h1 (e ▸ hk)
        rw [if_neg h1, if_neg (hne 0 (by decide)), if_neg (hne 2 (by decide)), if_neg (hne 3 (by decide)), if_neg (hne 4 (by decide))]
    · rw [if_neg b, if_pos b]
theorem wi_dy {what : Int32} : (wiP what 0 4 ∨ wiP what 10 15) ↔ dyP what := by
  have h := lt_succ_I (k := what) (a := 15) (b := 16) (by decide)
  constructor
  · rintro (q | q)
    · exact Or.inl ⟨q.1, Int32.not_lt.mp q.2⟩
    · exact Or.inr ⟨q.1, fun z => q.2 (h.mpr z)⟩
  · rintro (q | q)
    · exact Or.inl ⟨q.1, Int32.not_lt.mpr q.2⟩
    · exact Or.inr ⟨q.1, fun z => q.2 (h.mp z)⟩
theorem acR_all {ce : Nat → Int32} {i n : Nat} : ∀ {m : Nat}, acR ce i n m = 0 → ∀ k, k < m → acF n (ce (i + 2 * k)) (ce (i + 2 * k + 1)) = 0
  | 0, _, k, hk => by omega
  | m + 1, h, k, hk => by
    rw [acR] at h
    by_cases q : acR ce i n m = 0
    · rw [if_pos q] at h
      rcases Nat.lt_or_ge k m with z | z
      · exact acR_all q k z
      · rw [show k = m by omega]; exact h
    · rw [if_neg q] at h; exact absurd h q
theorem agF_vals (so lane i cells : Int32) (ln : Nat) : agF so lane i cells ln = 0 ∨ agF so lane i cells ln = 1 ∨ agF so lane i cells ln = 2 ∨ agF so lane i cells ln = 3 ∨ agF so lane i cells ln = 4 := by
  unfold agF
  split
  · exact Or.inr (Or.inl rfl)
  · split
    · exact Or.inr (Or.inr (Or.inl rfl))
    · split
      · exact Or.inr (Or.inr (Or.inr (Or.inr rfl)))
      · split
        · exact Or.inl rfl
        · exact Or.inr (Or.inr (Or.inr (Or.inl rfl)))
theorem agF_ne {so lane i cells : Int32} {ln : Nat} (h : ¬ agF so lane i cells ln = 0) : ¬ -10 - agF so lane i cells ln = 0 := by
  rcases agF_vals so lane i cells ln with q | q | q | q | q
  · exact absurd q h
  all_goals (rw [q]; decide)
theorem flt_ag {so lane i cells : Int32} {ln : Nat} (h : ¬ agF so lane i cells ln = 0) : fltF (-10 - agF so lane i cells ln) = agF so lane i cells ln := by
  rcases agF_vals so lane i cells ln with q | q | q | q | q
  · exact absurd q h
  all_goals (rw [q]; rfl)
