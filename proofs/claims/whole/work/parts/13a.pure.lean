/-! a text, place by place -/
def kdF (cd : Int32) : Int32 := if cd = 108 then 1 else if cd = 111 then 2 else if cd = 119 then 0 else -9
def gPh (pl n : Nat) : Nat := if pl = 0 ∨ 6 ≤ n then 4 else (pl - 1) % 4
def gKd (pl n : Nat) (cd : Int32) (kd : Nat → Int32) : Nat → Int32 := if gPh pl n = 1 then upd kd n (kdF cd) else kd
def gMn (pl n : Nat) (cd : Int32) (mn : Nat → Int32) : Nat → Int32 := if gPh pl n = 2 then upd mn n (cd - 48) else mn
def gPu (pl n : Nat) (cd : Int32) (pu : Nat → Int32) : Nat → Int32 := if gPh pl n = 3 then upd pu n (cd - 48) else pu
def gCt (pl n : Nat) : Nat := if gPh pl n = 3 then n + 1 else n
abbrev gP (pl : Nat) (cd : Int32) (n : Nat) (kd mn : Nat → Int32) : Prop :=
  if pl = 0 then cd = 97 else if 6 ≤ n then False else if (pl - 1) % 4 = 0 then cd = 59 else if (pl - 1) % 4 = 1 then ¬ kdF cd = -9 else if (pl - 1) % 4 = 2 then ¬ cd < 49 ∧ ¬ 57 < cd
  else ¬ cd < 48 ∧ ¬ 57 < cd ∧ ¬ roomF (kd n) (mn n) < cd - 48
theorem gPh_of {pl n k : Nat} (h0 : 0 < pl) (h6 : n < 6) (h : (pl - 1) % 4 = k) : gPh pl n = k := by
  unfold gPh; rw [if_neg (by omega), h]
theorem gPh_4 {pl n : Nat} (h : pl = 0 ∨ 6 ≤ n) : gPh pl n = 4 := if_pos h
section GP
variable {pl n : Nat} {cd : Int32} {kd mn : Nat → Int32}
theorem gP_z (h : pl = 0) : gP pl cd n kd mn ↔ cd = 97 := by simp only [gP]; rw [if_pos h]
theorem gP_6 (h : 0 < pl) (h6 : 6 ≤ n) : ¬ gP pl cd n kd mn := by simp only [gP]; rw [if_neg (by omega), if_pos h6]; exact id
theorem gP_0 (h : 0 < pl) (h6 : n < 6) (h4 : (pl - 1) % 4 = 0) : gP pl cd n kd mn ↔ cd = 59 := by simp only [gP]; rw [if_neg (by omega), if_neg (by omega), if_pos h4]
theorem gP_1 (h : 0 < pl) (h6 : n < 6) (h4 : (pl - 1) % 4 = 1) : gP pl cd n kd mn ↔ ¬ kdF cd = -9 := by simp only [gP]; rw [if_neg (by omega), if_neg (by omega), if_neg (by omega), if_pos h4]
theorem gP_2 (h : 0 < pl) (h6 : n < 6) (h4 : (pl - 1) % 4 = 2) : gP pl cd n kd mn ↔ ¬ cd < 49 ∧ ¬ 57 < cd := by simp only [gP]; rw [if_neg (by omega), if_neg (by omega), if_neg (by omega), if_neg (by omega), if_pos h4]
theorem gP_3 (h : 0 < pl) (h6 : n < 6) (h4 : (pl - 1) % 4 = 3) : gP pl cd n kd mn ↔ ¬ cd < 48 ∧ ¬ 57 < cd ∧ ¬ roomF (kd n) (mn n) < cd - 48 := by simp only [gP]; rw [if_neg (by omega), if_neg (by omega), if_neg (by omega), if_neg (by omega), if_neg (by omega)]
end GP
theorem b1_of {P Q : Prop} [Decidable P] (e : P ↔ Q) (h : Q) : (1 : Int32) = if P then 1 else 0 := (if_pos (e.mpr h)).symm
theorem b0_of {P Q : Prop} [Decidable P] (e : P ↔ Q) (h : ¬ Q) : (0 : Int32) = if P then 1 else 0 := (if_neg (fun q => h (e.mp q))).symm
abbrev TS : Type := Nat × (Nat → Int32) × (Nat → Int32) × (Nat → Int32)
def tNx (g : Nat → Int32) (p : Nat) (x : TS) : TS := (gCt p x.1, gKd p x.1 (g p) x.2.1, gMn p x.1 (g p) x.2.2.1, gPu p x.1 (g p) x.2.2.2)
def tS (g kd mn pu : Nat → Int32) : Nat → TS
  | 0 => (0, kd, mn, pu)
  | p + 1 => tNx g p (tS g kd mn pu p)
def tOk (g kd mn pu : Nat → Int32) (p : Nat) : Bool := decide (gP p (g p) (tS g kd mn pu p).1 (tS g kd mn pu p).2.1 (tS g kd mn pu p).2.2.1)
theorem gCt_le {pl n : Nat} (h : n ≤ 6) : gCt pl n ≤ 6 := by
  unfold gCt
  split
  · rename_i h3
    have : n ≠ 6 := fun q => by rw [gPh_4 (Or.inr (by omega))] at h3; omega
    omega
  · exact h
theorem tS_le (g kd mn pu : Nat → Int32) : ∀ p, (tS g kd mn pu p).1 ≤ 6
  | 0 => by simp [tS]
  | p + 1 => gCt_le (tS_le g kd mn pu p)
def ff (ok : Nat → Bool) : Nat → Nat
  | 0 => 0
  | n + 1 => if ff ok n < n then ff ok n else if ok n then n + 1 else n
theorem ff_all {ok : Nat → Bool} : ∀ {n : Nat}, (∀ q, q < n → ok q = true) → ff ok n = n
  | 0, _ => rfl
  | n + 1, h => by
    have e := ff_all (n := n) (fun q hq => h q (by omega))
    rw [ff, e, if_neg (by omega), if_pos (h n (by omega))]
theorem ff_at {ok : Nat → Bool} {k : Nat} (hk : ∀ q, q < k → ok q = true) (hf : ok k = false) : ∀ {n : Nat}, k < n → ff ok n = k
  | 0, h => by omega
  | n + 1, h => by
    rcases Nat.lt_or_ge k n with q | q
    · have e := ff_at hk hf (n := n) q
      rw [ff, e, if_pos q]
    · have e : k = n := by omega
      subst e
      rw [ff, ff_all hk, if_neg (by omega), hf]
      rfl
abbrev tVal (n ct : Nat) : Prop := 1 ≤ n ∧ (n - 1) % 4 = 0 ∧ 2 ≤ ct
/-- what firstFault answers, how many places it has looked at -/
def tRes (g kd mn pu : Nat → Int32) (n : Nat) : Int32 := if ff (tOk g kd mn pu) n < n then nI (ff (tOk g kd mn pu) n) else if tVal n (tS g kd mn pu n).1 then -9 else nI n
def tN (g kd mn pu : Nat → Int32) (n : Nat) : Nat := if ff (tOk g kd mn pu) n < n then ff (tOk g kd mn pu) n + 1 else n
theorem tRes_at {g kd mn pu : Nat → Int32} {n k : Nat} (hk : ∀ q, q < k → tOk g kd mn pu q = true) (hf : tOk g kd mn pu k = false) (h : k < n) : tRes g kd mn pu n = nI k ∧ tN g kd mn pu n = k + 1 := by
  have e := ff_at hk hf h
  unfold tRes tN
  rw [e, if_pos h, if_pos h]
  exact ⟨rfl, rfl⟩
theorem tRes_all {g kd mn pu : Nat → Int32} {n : Nat} (hk : ∀ q, q < n → tOk g kd mn pu q = true) : tRes g kd mn pu n = (if tVal n (tS g kd mn pu n).1 then -9 else nI n) ∧ tN g kd mn pu n = n := by
  have e := ff_all hk
  unfold tRes tN
  rw [e, if_neg (Nat.lt_irrefl n), if_neg (Nat.lt_irrefl n)]
  exact ⟨rfl, rfl⟩
