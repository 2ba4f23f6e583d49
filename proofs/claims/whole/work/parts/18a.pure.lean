/-! order, fewest, added, how it stood, odds -/
abbrev orT (n k : Int32) : Prop := ¬ n < 0 ∧ n ≤ 6 ∧ ¬ k < -1 ∧ k < 6
abbrev feT (n d : Int32) : Prop := ¬ n < 0 ∧ n ≤ 8 ∧ ¬ d < 0 ∧ d ≤ 999
abbrev adT (n k : Int32) : Prop := ¬ n < 0 ∧ n ≤ 10 ∧ ¬ k < 0 ∧ k ≤ 2
/-- the sums of all sets, over what a row held before -/
abbrev orS (ce : Nat → Int32) (i nn : Nat) (sm : Nat → Int32) : Nat → Int32 := fil (fun st => ssF (fun q => ce (i + q)) st nn) sm (2 ^ nn)
def spOrder (sheet lane i n k th la : Int32) (ln : Nat) (ce : Nat → Int32) (nw : Nat) (mo : Int32) (pu ro wo sm nx sb : Nat → Int32) : Int32 :=
  if ¬ rtK sheet lane i n (if orT n k then 1 else 0) th la ln = 0 then rtK sheet lane i n (if orT n k then 1 else 0) th la ln
  else if nw = 0 then -3 else if ¬ allP ce (ix i) (ix n) 99999 then -2
  else if ¬ canP nw mo (numF pu wo nw) (orS ce (ix i) (ix n) sm (2 ^ ix n - 1)) then -9
  else if k < 0 then (fO nw ro wo (orS ce (ix i) (ix n) sm) nx sb (numF pu wo nw) (ix n) (2 ^ ix n - 1)).2 0
  else (pA (fO nw ro wo (orS ce (ix i) (ix n) sm) nx sb (numF pu wo nw) (ix n) (2 ^ ix n - 1)).1 (ix k)).2
def fwL (fw t : Nat → Int32) (to : Nat) : Nat → Int32
  | 0 => -9
  | k + 1 => if ¬ t k ≤ 0 ∧ t k ≤ nI to ∧ ¬ fw (to - ix (t k)) = -9 then
      (if fwL fw t to k = -9 then fw (to - ix (t k)) + 1 else if fw (to - ix (t k)) + 1 < fwL fw t to k then fw (to - ix (t k)) + 1 else fwL fw t to k) else fwL fw t to k
def cT (fw t : Nat → Int32) (nn : Nat) : Nat → Nat → Int32
  | 0 => upd fw 0 0
  | k + 1 => upd (cT fw t nn k) (k + 1) (fwL (cT fw t nn k) t (k + 1) nn)
def spFewest (sheet lane i n d th la : Int32) (ln : Nat) (ce fw : Nat → Int32) : Int32 :=
  if ¬ rtK sheet lane i n (if feT n d then 1 else 0) th la ln = 0 then rtK sheet lane i n (if feT n d then 1 else 0) th la ln
  else if ¬ allP ce (ix i) (ix n) 999 then -2 else cT fw (fun q => ce (ix i + q)) (ix n) (ix d) (ix d)
abbrev vwP (ce : Nat → Int32) (i n nn : Nat) : Prop := ∀ q, q < nn → hasP n (ce (i + 2 * q))
abbrev stP (ce : Nat → Int32) (i nn : Nat) (ro wo : Nat → Int32) (v : Int32) : Prop := ∀ q, q < nn → figF (wo (ix (ce (i + 2 * q)))) (ro (ix (ce (i + 2 * q)))) v = ce (i + 2 * q + 1)
abbrev AS : Type := Int32 × Int32 × Int32
def adF (ce : Nat → Int32) (i nn : Nat) (ro wo : Nat → Int32) (num : Int32) : Nat → AS
  | 0 => (0, -9, -9)
  | k + 1 => if stP ce i nn ro wo (num + nI k) then ((adF ce i nn ro wo num k).1 + 1, (if (adF ce i nn ro wo num k).2.1 = -9 then nI k else (adF ce i nn ro wo num k).2.1), nI k) else adF ce i nn ro wo num k
/-- up to which v sums are tried: how many -/
def adL (mo num : Int32) : Int32 := if mo - num < 999 then mo - num else 999
def adK (mo num : Int32) : Nat := if adL mo num < 0 then 0 else ix (adL mo num) + 1
theorem adL_le (mo num : Int32) : adL mo num ≤ 999 := by
  unfold adL
  split
  · rename_i h; exact Int32.le_of_lt h
  · exact Int32.le_refl _
theorem adL_lt {mo num : Int32} {k : Nat} (hk : k ≤ 1000) (h : ¬ adL mo num < nI k) : k < 1000 ∧ k + 1 ≤ adK mo num := by
  have h2 := adL_le mo num
  have h3 : nI k ≤ adL mo num := Int32.not_lt.mp h
  have h0 : ¬ adL mo num < 0 := Int32.not_lt.mpr (Int32.le_trans (nI_pos' (by omega)) h3)
  obtain ⟨j, hj, e⟩ := nI_of2 (n := 999) (M := 999) rfl h0 h2
  rw [e] at h3
  have : k ≤ j := (nI_leI (by omega) (by omega)).mp h3
  refine ⟨by omega, ?_⟩
  unfold adK
  rw [if_neg h0, e, ix_nI (by omega)]
  omega
theorem adL_ge {mo num : Int32} {k : Nat} (hk : k ≤ 1000) (hK : k ≤ adK mo num) (h : adL mo num < nI k) : k = adK mo num := by
  have h2 := adL_le mo num
  unfold adK at hK ⊢
  by_cases h0 : adL mo num < 0
  · rw [if_pos h0] at hK ⊢; omega
  · obtain ⟨j, hj, e⟩ := nI_of2 (n := 999) (M := 999) rfl h0 h2
    rw [if_neg h0, e, ix_nI (by omega)] at hK ⊢
    rw [e] at h
    have : j < k := (nI_ltI (by omega) (by omega)).mp h
    omega
def adO (x : AS) (what : Int32) : Int32 := if what = 0 then x.1 else if what = 1 then x.2.1 else x.2.2
def spAdded (sheet lane i n what th la : Int32) (ln : Nat) (ce : Nat → Int32) (nw : Nat) (mo : Int32) (pu ro wo : Nat → Int32) : Int32 :=
  if ¬ rtK sheet lane i (2 * n) (if adT n what then 1 else 0) th la ln = 0 then rtK sheet lane i (2 * n) (if adT n what then 1 else 0) th la ln
  else if nw = 0 then -3 else if ¬ vwP ce (ix i) nw (ix n) then -1
  else adO (adF ce (ix i) (ix n) ro wo (numF pu wo nw) (adK mo (numF pu wo nw))) what
/-- all readings are so, and there is room -/
abbrev cbP (n : Nat) (kd mn pu rs rw rf : Nat → Int32) (rc : Nat) : Prop := roomP pu (rmF kd mn) n ∧ soP n (woF kd mn n - 1) (numF pu (woF kd mn) n) (rmF kd mn) (woF kd mn) rs rw rf rc
def mnS (n : Nat) (kd mn pu rs rw rf : Nat → Int32) (rc j : Nat) : Nat → Int32
  | 0 => 0
  | k + 1 => if cbP n kd (upd mn j (nI (k + 1))) pu rs rw rf rc then mnS n kd mn pu rs rw rf rc j k ||| nI (2 ^ (k + 1)) else mnS n kd mn pu rs rw rf rc j k
def kdS (n : Nat) (kd mn pu rs rw rf : Nat → Int32) (rc j : Nat) : Nat → Int32
  | 0 => 0
  | k + 1 => if cbP n (upd kd j (nI k)) mn pu rs rw rf rc then kdS n kd mn pu rs rw rf rc j k ||| nI (2 ^ k) else kdS n kd mn pu rs rw rf rc j k
def spMens (n : Nat) (kd mn pu rs rw rf : Nat → Int32) (rc : Nat) (w : Int32) : Int32 := if ¬ hasP n w then -1 else mnS n kd mn pu rs rw rf rc (ix w) 9
def spKinds (n : Nat) (kd mn pu rs rw rf : Nat → Int32) (rc : Nat) (w : Int32) : Int32 := if ¬ hasP n w then -1 else kdS n kd mn pu rs rw rf rc (ix w) 3
theorem upd_self (f : Nat → Int32) (j : Nat) : upd f j (f j) = f := by
  funext k
  unfold upd
  split
  · rename_i h; rw [h]
  · rfl
theorem roomP_congr {pu ro ro' : Nat → Int32} {n : Nat} (h : ∀ w, w < n → ro w = ro' w) : roomP pu ro n ↔ roomP pu ro' n :=
  ⟨fun q w hw => h w hw ▸ q w hw, fun q w hw => (h w hw).symm ▸ q w hw⟩
theorem soP_congr {n : Nat} {mo num : Int32} {ro ro' wo wo' rs rw rf : Nat → Int32} {rc : Nat} (hr : rwP n rw rc) (h1 : ∀ w, w < n → ro w = ro' w) (h2 : ∀ w, w < n → wo w = wo' w) : soP n mo num ro wo rs rw rf rc ↔ soP n mo num ro' wo' rs rw rf rc := by
  constructor
  · intro q r hr2
    have := q r hr2
    rw [h1 _ (hr r hr2).1, h2 _ (hr r hr2).1] at this
    exact this
  · intro q r hr2
    have := q r hr2
    rw [← h1 _ (hr r hr2).1, ← h2 _ (hr r hr2).1] at this
    exact this
theorem FR.men {n : Nat} {kd mn : Nat → Int32} (h : FR n kd mn) (j : Nat) {m : Nat} (h1 : 1 ≤ m) (h9 : m ≤ 9) : FR n kd (upd mn j (nI m)) := by
  refine ⟨h.1, fun w hw => ⟨(h.2 w hw).1, ?_⟩⟩
  by_cases e : w = j
  · exact ⟨m, h1, h9, by subst e; exact pk_us⟩
  · rw [pk_un e]; exact (h.2 w hw).2
theorem FR.kin {n : Nat} {kd mn : Nat → Int32} (h : FR n kd mn) (j : Nat) {m : Nat} (h3 : m < 3) : FR n (upd kd j (nI m)) mn := by
  refine ⟨h.1, fun w hw => ⟨?_, (h.2 w hw).2⟩⟩
  by_cases e : w = j
  · subst e; rw [pk_us]
    rcases (show m = 0 ∨ m = 1 ∨ m = 2 by omega) with q | q | q <;> subst q
    · exact Or.inl rfl
    · exact Or.inr (Or.inl rfl)
    · exact Or.inr (Or.inr rfl)
  · rw [pk_un e]; exact (h.2 w hw).1
/-! odds -/
def wyI (f : Nat → Int64) (m : Nat) : Nat → Int64
  | 0 => 0
  | h + 1 => wyI f m h + f (m - h)
/-- how many terms: here is no more than r and no more than m -/
def wyK (r : Int32) (m : Nat) : Nat := if r < 0 then 0 else if ix r < m then ix r + 1 else m + 1
def wyZ : Nat → Int64 := fun m => if m = 0 then 1 else 0
theorem fil_sL (f g : Nat → Int64) (k : Nat) : vp_updL (fil f g k) k (f k) = fil f g (k + 1) := by
  funext w
  simp only [vp_updL, fil]
  by_cases h : w = k
  · subst h; simp
  · rw [if_neg h]
    by_cases h2 : w < k
    · rw [if_pos h2, if_pos (by omega)]
    · rw [if_neg h2, if_neg (by omega)]
def wyL (ro : Nat → Int32) : Nat → Nat → Int64
  | 0 => wyZ
  | w + 1 => fun m => wyI (wyL ro w) m (wyK (ro w) m)
/-- the row while the numbers from 108 down to m are done -/
def wyM (f g : Nat → Int64) (m : Nat) : Nat → Int64 := fun q => if q < m then f q else g q
theorem wyM_s {f g : Nat → Int64} {m : Nat} : vp_updL (wyM f g (m + 1)) m (g m) = wyM f g m := by
  funext q
  unfold vp_updL wyM
  by_cases h : q = m
  · subst h; simp
  · rw [if_neg h]
    by_cases h2 : q < m
    · rw [if_pos h2, if_pos (by omega)]
    · rw [if_neg h2, if_neg (by omega)]
theorem wyM_in {f g : Nat → Int64} {m q : Nat} (h : q < m) : wyM f g m q = f q := if_pos h
theorem wyK_lt {r : Int32} {m k : Nat} (hk : k ≤ 200) (h1 : ¬ r < nI k) (h2 : k ≤ m) (hm : m ≤ 108) : k + 1 ≤ wyK r m := by
  have h3 : nI k ≤ r := Int32.not_lt.mp h1
  have h0 : ¬ r < 0 := Int32.not_lt.mpr (Int32.le_trans (nI_pos' (by omega)) h3)
  obtain ⟨j, hj, e⟩ := nI_of h0
  rw [e] at h3
  have h4 : k ≤ j := (nI_leI (by omega) hj).mp h3
  unfold wyK
  rw [if_neg h0, e, ix_nI hj]
  split <;> omega
theorem wyK_end {r : Int32} {m k : Nat} (hk : k ≤ wyK r m) (hm : m ≤ 108) (h : r < nI k ∨ m < k) (hk2 : k ≤ 200) : k = wyK r m := by
  unfold wyK at hk ⊢
  by_cases h0 : r < 0
  · rw [if_pos h0] at hk ⊢; omega
  · obtain ⟨j, hj, e⟩ := nI_of h0
    rw [if_neg h0, e, ix_nI hj] at hk ⊢
    rcases h with h | h
    · rw [e] at h
      have : j < k := (nI_ltI hj (by omega)).mp h
      split at hk <;> split <;> omega
    · split at hk <;> split <;> omega
def gdN (x : Int64 × Int64) : Int64 × Int64 := if x.2 = 0 then x else (x.2, x.1 - x.1 / x.2 * x.2)
def gdF (a b : Int64) : Nat → Int64 × Int64
  | 0 => (a, b)
  | k + 1 => gdN (gdF a b k)
theorem gdF_stop {a b : Int64} {k : Nat} (h : (gdF a b k).2 = 0) : ∀ m, k ≤ m → gdF a b m = gdF a b k := by
  intro m hm
  induction m with
  | zero => rw [show k = 0 by omega]
  | succ m ih =>
    rcases Nat.lt_or_ge k (m + 1) with q | q
    · have e := ih (by omega)
      show gdN (gdF a b m) = _
      rw [e, gdN, if_pos h]
    · rw [show k = m + 1 by omega]
def gdP (a b r : Int64) : Prop := r = (gdF a b 200).1
abbrev odT (n k : Int32) : Prop := ¬ n < 0 ∧ n ≤ 108 ∧ ¬ k < 0 ∧ k ≤ 1
def spOdds (n : Nat) (mo : Int32) (ro : Nat → Int32) (x k : Int32) : Int64 :=
  if ¬ odT x k then -9223372036854775808 else if n = 0 then -9223372036854775808
  else if ¬ 0 < (gdF (mo.toInt64 + 1) (wyL ro n (ix x)) 200).1 then -9223372036854775808
  else (if k = 0 then wyL ro n (ix x) else mo.toInt64 + 1) / (gdF (mo.toInt64 + 1) (wyL ro n (ix x)) 200).1
/-- a cell of a long array by what stands below its length -/
theorem va_P_al {E : gE} {cl : List vw_C} {ws : va_W} {H : Heap} (hP : va_P E.1 cl ws H) (q a n : Nat) {f g : Nat → Int64} (hq : ws[q]? = some (al E a n f)) (h : ∀ j, j < n → f j = g j) : va_P E.1 cl (ws.set q (al E a n g)) H := by
  intro k x hk
  by_cases e : k = q
  · subst e
    have hl : k < ws.length := (List.getElem?_eq_some_iff.mp hq).1
    rw [List.getElem?_set_self hl] at hk
    cases hk
    have h0 : H[a]? = some (vp_cell E.2.2.1 (n, .inr (.inl f))) := hP k _ hq
    show H[a]? = some (vp_cell E.2.2.1 (n, .inr (.inl g)))
    rw [h0, vp_cell_l, vp_cell_l]
    have e2 : ∀ j : Fin n, (Value.long (f j.val)) = Value.long (g j.val) := fun j => by rw [h j.val j.isLt]
    simp only [arrV]
    rw [show (fun j : Fin n => Value.long (f j.val)) = fun j : Fin n => Value.long (g j.val) from funext e2]
  · rw [List.getElem?_set_ne (fun z => e z.symm)] at hk
    exact hP k x hk
