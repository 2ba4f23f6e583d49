/-! what the calls answer -/
abbrev shP (k : Int32) : Prop := ¬ k < 0 ∧ ¬ 4 ≤ k
abbrev laP (k : Int32) : Prop := ¬ k < 0 ∧ ¬ 3 ≤ k
def rtK (sheet lane i cells rest th la : Int32) (ln : Nat) : Int32 := if ¬ shP sheet then -1 else if ¬ laP lane ∨ rest = 0 then -2 else if th = 0 then -11 else if ¬ la = lane then -12 else if cells < 0 then -14 else if reachP ln i cells then 0 else -13
def fltF (r : Int32) : Int32 := if r = -11 then 1 else if r = -12 then 2 else if r = -13 then 3 else if r = -14 then 4 else 0
theorem rtK_0 {sheet lane i cells rest th la : Int32} {ln : Nat} (h : rtK sheet lane i cells rest th la ln = 0) : shP sheet ∧ laP lane ∧ ¬ rest = 0 ∧ ¬ th = 0 ∧ la = lane ∧ reachP ln i cells := by
  unfold rtK at h
  split at h
  · exact absurd h (by decide)
  · rename_i h1
    split at h
    · exact absurd h (by decide)
    · rename_i h2
      split at h
      · exact absurd h (by decide)
      · rename_i h3
        split at h
        · exact absurd h (by decide)
        · rename_i h4
          split at h
          · exact absurd h (by decide)
          · split at h
            · rename_i h6
              exact ⟨Decidable.of_not_not h1, Decidable.of_not_not (fun q => h2 (Or.inl q)), fun q => h2 (Or.inr q), h3, Decidable.of_not_not h4, h6⟩
            · exact absurd h (by decide)
theorem shP_of {k : Int32} (h : shP k) : ∃ j, j < 4 ∧ k = nI j := by
  obtain ⟨j, h1, h2, -⟩ := pk_mu (L := 4) h.1 h.2 (by decide)
  exact ⟨j, h1, h2⟩
theorem reach_nat {ln : Nat} {i n : Int32} (h : reachP ln i n) (hl : ln ≤ 60) : ∃ a b : Nat, i = nI a ∧ n = nI b ∧ a + b ≤ ln := by
  obtain ⟨h1, h2, h3, h4⟩ := h
  obtain ⟨a, ha, rfl⟩ := nI_of h1
  obtain ⟨b, hb, rfl⟩ := nI_of h3
  have ha2 : a ≤ ln := Nat.not_lt.mp (fun q => h2 (nI_lt q (by omega)))
  refine ⟨a, b, rfl, rfl, ?_⟩
  rw [pk_sub ha2] at h4
  have := Nat.not_lt.mp (fun q => h4 (nI_lt (a := ln - a) (b := b) q hb))
  omega
theorem reach_nI {ln a b : Nat} (h : a + b ≤ ln) (hl : ln ≤ 60) : reachP ln (nI a) (nI b) := by
  refine ⟨nI_pos (by omega), nI_nlt (by omega) (by omega), nI_pos (by omega), ?_⟩
  rw [pk_sub (by omega)]
  exact nI_nlt (by omega) (by omega)
def spOfWire (n : Nat) (kd mn pu ro wo : Nat → Int32) (w what : Int32) : Int32 := if ¬ hasP n w then -1 else if what = 0 then kd (ix w) else if what = 1 then mn (ix w) else if what = 2 then ro (ix w) else if what = 3 then pu (ix w) else if what = 4 then wo (ix w) else -2
def spNumber (n : Nat) (mo : Int32) (pu wo : Nat → Int32) (what : Int32) : Int32 := if what < 0 then -2 else if ¬ what ≤ 2 then -2 else if n = 0 then -3 else if what = 0 then numF pu wo n else if what = 1 then mo else sumF pu n
def spFigure (n : Nat) (mo : Int32) (ro wo : Nat → Int32) (w v : Int32) : Int32 := if ¬ hasP n w then -1 else if v < 0 then -2 else if ¬ v ≤ mo then -2 else figF (wo (ix w)) (ro (ix w)) v
def spSlide (n : Nat) (pu ro : Nat → Int32) (w v : Int32) : Int32 := if ¬ hasP n w then -1 else if v < 0 then -2 else if ¬ v ≤ ro (ix w) then -2 else pu (ix w)
def spSlideP (n : Nat) (pu ro : Nat → Int32) (w v : Int32) : Nat → Int32 := if ¬ hasP n w then pu else if v < 0 then pu else if ¬ v ≤ ro (ix w) then pu else upd pu (ix w) v
def spAdd (n : Nat) (mo : Int32) (pu ro wo : Nat → Int32) (v : Int32) : Int32 := if v < 0 then -2 else if ¬ canP n mo (numF pu wo n) v then -3 else slF ro wo (numF pu wo n) (numF pu wo n + v) n
def spAddP (n : Nat) (mo : Int32) (pu ro wo : Nat → Int32) (v : Int32) : Nat → Int32 := if v < 0 then pu else if ¬ canP n mo (numF pu wo n) v then pu else fil (fun w => figF (wo w) (ro w) (numF pu wo n + v)) pu n
def spTake (n : Nat) (pu ro wo : Nat → Int32) (v : Int32) : Int32 := if v < 0 then -2 else if ¬ takP n (numF pu wo n) v then -3 else slF ro wo (numF pu wo n) (numF pu wo n - v) n
def spTakeP (n : Nat) (pu ro wo : Nat → Int32) (v : Int32) : Nat → Int32 := if v < 0 then pu else if ¬ takP n (numF pu wo n) v then pu else fil (fun w => figF (wo w) (ro w) (numF pu wo n - v)) pu n
def spWork (n : Nat) (mo : Int32) (pu ro wo : Nat → Int32) (v what : Int32) : Int32 := if v < 0 then -2 else if what < 0 then -2 else if ¬ what ≤ 1 then -2 else if ¬ canP n mo (numF pu wo n) v then -3 else if what = 0 then slF ro wo (numF pu wo n) (numF pu wo n + v) n else cyF ro wo (numF pu wo n) v n
def xrF (pu : Nat → Int32) : Nat → Int32
  | 0 => 0
  | k + 1 => xrF pu k ^^^ pu k
def tuF (pu : Nat → Int32) (b : Int32) : Nat → Option Nat
  | 0 => none
  | k + 1 => match tuF pu b k with
    | some w => some w
    | none => if pu k ^^^ b < pu k then some k else none
theorem tuF_hit {pu : Nat → Int32} {b : Int32} {k : Nat} (h : tuF pu b k = none) (hk : pu k ^^^ b < pu k) : ∀ m, k < m → tuF pu b m = some k := by
  intro m hm
  induction m with
  | zero => omega
  | succ m ih =>
    rcases Nat.lt_or_ge k m with q | q
    · simp only [tuF]; rw [ih q]
    · have e : m = k := by omega
      subst e
      simp only [tuF]; rw [h]; exact if_pos hk
theorem tuF_miss {pu : Nat → Int32} {b : Int32} {k : Nat} (h : tuF pu b k = none) (hk : ¬ pu k ^^^ b < pu k) : tuF pu b (k + 1) = none := by
  simp only [tuF]; rw [h]; exact if_neg hk
def spTurn (n : Nat) (pu : Nat → Int32) (what : Int32) : Int32 := if what < 0 then -2 else if ¬ what ≤ 1 then -2 else if n = 0 then -3 else match tuF pu (xrF pu n) n with
  | none => -9
  | some w => if what = 0 then nI w else pu w ^^^ xrF pu n
abbrev rdBad (v fg : Int32) : Prop := v < 0 ∨ 999 < v ∨ fg < 0 ∨ ¬ fg ≤ 18
def spReading (n rc : Nat) (v w fg : Int32) : Int32 := if ¬ hasP n w then -1 else if rdBad v fg then -2 else if rc < 8 then nI rc else -4
abbrev rdOk (n : Nat) (v w fg : Int32) : Prop := hasP n w ∧ ¬ rdBad v fg
def spBack (rc : Nat) (x : Int32) : Int32 := if x < 0 then -2 else if ¬ x ≤ nI rc then -2 else nI (rc - ix x)
def spBackC (rc : Nat) (x : Int32) : Nat := if x < 0 then rc else if ¬ x ≤ nI rc then rc else rc - ix x
def trF (tr b : Int32) : Int32 := 31 * tr + b
def spTell (n : Nat) (kd mn : Nat → Int32) (w : Int32) : Int32 := if ¬ hasP n w then -1 else if kd (ix w) = 1 then mn (ix w) + 100 else if kd (ix w) = 2 then mn (ix w) + 100 + mn (ix w) else mn (ix w)
def spTellT (n : Nat) (kd : Nat → Int32) (w tr : Int32) : Int32 := if ¬ hasP n w then tr else if kd (ix w) = 1 then trF (trF tr 2) 1 else if kd (ix w) = 2 then trF (trF (trF (trF tr 3) 2) 1) 1 else trF tr 1
def spFeel (n : Nat) (kd pu : Nat → Int32) (w : Int32) : Int32 := if ¬ hasP n w then -1 else if kd (ix w) = 2 then 90 else pu (ix w)
def spFeelT (n : Nat) (kd : Nat → Int32) (w tr : Int32) : Int32 := if ¬ hasP n w then tr else if kd (ix w) = 2 then trF tr 5 else trF tr 4
def spAs (n : Nat) (kd : Nat → Int32) (w k : Int32) : Int32 := if ¬ hasP n w then -1 else if k < 0 then -2 else if ¬ k < 3 then -2 else if k ≤ kd (ix w) then 1 else -12
def spMany (n rc : Nat) (mn : Nat → Int32) (what : Int32) : Int32 := if what = 0 then nI n else if what = 1 then sumF mn n else if what = 2 then nI rc else -2
