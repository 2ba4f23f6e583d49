/-! what depends on the wires below n alone -/
theorem numF_congr {pu pu' wo wo' : Nat → Int32} : ∀ {n : Nat}, (∀ w, w < n → pu w = pu' w) → (∀ w, w < n → wo w = wo' w) → numF pu wo n = numF pu' wo' n
  | 0, _, _ => rfl
  | n + 1, h1, h2 => by
    rw [numF, numF, numF_congr (fun w h => h1 w (by omega)) (fun w h => h2 w (by omega)), h1 n (by omega), h2 n (by omega)]
theorem sumF_congr {f f' : Nat → Int32} : ∀ {n : Nat}, (∀ w, w < n → f w = f' w) → sumF f n = sumF f' n
  | 0, _ => rfl
  | n + 1, h1 => by rw [sumF, sumF, sumF_congr (fun w h => h1 w (by omega)), h1 n (by omega)]
theorem slF_congr {ro ro' wo wo' : Nat → Int32} (a b : Int32) : ∀ {n : Nat}, (∀ w, w < n → ro w = ro' w) → (∀ w, w < n → wo w = wo' w) → slF ro wo a b n = slF ro' wo' a b n
  | 0, _, _ => rfl
  | n + 1, h1, h2 => by
    rw [slF, slF, slF_congr a b (fun w h => h1 w (by omega)) (fun w h => h2 w (by omega)), h1 n (by omega), h2 n (by omega)]
theorem ovF_congr {ro ro' wo wo' : Nat → Int32} (a b : Int32) : ∀ {n : Nat}, (∀ w, w < n → ro w = ro' w) → (∀ w, w < n → wo w = wo' w) → ovF ro wo a b n = ovF ro' wo' a b n
  | 0, _, _ => rfl
  | n + 1, h1, h2 => by
    rw [ovF, ovF, ovF_congr a b (fun w h => h1 w (by omega)) (fun w h => h2 w (by omega)), h1 n (by omega), h2 n (by omega)]
theorem cyF_congr {ro ro' wo wo' : Nat → Int32} (a b : Int32) : ∀ {n : Nat}, (∀ w, w < n → ro w = ro' w) → (∀ w, w < n → wo w = wo' w) → cyF ro wo a b n = cyF ro' wo' a b n
  | 0, _, _ => rfl
  | n + 1, h1, h2 => by
    rw [cyF, cyF, cyF_congr a b (fun w h => h1 w (by omega)) (fun w h => h2 w (by omega)), ovF_congr a b h1 h2]
theorem fil_congr {α : Type} {f f' g : Nat → α} {n : Nat} (h : ∀ w, w < n → f w = f' w) : fil f g n = fil f' g n := by
  funext w
  unfold fil
  by_cases q : w < n
  · rw [if_pos q, if_pos q, h w q]
  · rw [if_neg q, if_neg q]
theorem figs_congr {ro ro' wo wo' : Nat → Int32} (v : Int32) (pu : Nat → Int32) {n : Nat} (h1 : ∀ w, w < n → ro w = ro' w) (h2 : ∀ w, w < n → wo w = wo' w) : fil (fun w => figF (wo w) (ro w) v) pu n = fil (fun w => figF (wo' w) (ro' w) v) pu n :=
  fil_congr (fun w h => by rw [h1 w h, h2 w h])
theorem ix_lt {n : Nat} {f : Int32} (h : hasP n f) (hn : n ≤ 6) : ix f < n := by
  obtain ⟨j, hj, rfl⟩ := hasP_of h hn
  rw [ix_nI (by omega)]; exact hj
theorem dStep_congr {n : Nat} (hn : n ≤ 6) {mo : Int32} {ro ro' wo wo' : Nat → Int32} (h1 : ∀ w, w < n → ro w = ro' w) (h2 : ∀ w, w < n → wo w = wo' w) (f g : Int32) (x : DS) : dStep n mo ro wo f g x = dStep n mo ro' wo' f g x := by
  have e1 : numF x.1 wo n = numF x.1 wo' n := numF_congr (fun _ _ => rfl) h2
  have e2 : dSum n mo ro wo f x = dSum n mo ro' wo' f x := by
    simp only [dSum]; rw [e1, figs_congr _ _ h1 h2, slF_congr _ _ h1 h2, cyF_congr _ _ h1 h2]
  have e3 : dTak n ro wo f x = dTak n ro' wo' f x := by
    simp only [dTak]; rw [e1, figs_congr _ _ h1 h2, slF_congr _ _ h1 h2, cyF_congr _ _ h1 h2]
  have e4 : ∀ v, dPsh n ro f v x = dPsh n ro' f v x := by
    intro v
    simp only [dPsh]
    by_cases q : hasP n f
    · rw [h1 _ (ix_lt q hn)]
    · rw [if_neg (fun h => q h.1), if_neg (fun h => q h.1)]
  simp only [dStep]
  rw [e2, e3, e4]
theorem dNext_congr {n : Nat} (hn : n ≤ 6) {mo : Int32} {ro ro' wo wo' : Nat → Int32} (h1 : ∀ w, w < n → ro w = ro' w) (h2 : ∀ w, w < n → wo w = wo' w) (k : Nat) (f g : Int32) (x : RS) : dNext n mo ro wo k f g x = dNext n mo ro' wo' k f g x := by
  simp only [dNext]
  rw [dStep_congr hn h1 h2]
  split
  · split
    · rename_i d _
      rw [numF_congr (fun _ _ => rfl) h2]
    · rfl
  · rfl
theorem dRun_congr {n : Nat} (hn : n ≤ 6) {mo : Int32} {ro ro' wo wo' : Nat → Int32} (h1 : ∀ w, w < n → ro w = ro' w) (h2 : ∀ w, w < n → wo w = wo' w) (ce : Nat → Int32) (i : Nat) (pu : Nat → Int32) : ∀ k, dRun n mo ro wo ce i pu k = dRun n mo ro' wo' ce i pu k
  | 0 => by rw [dRun, dRun, numF_congr (fun _ _ => rfl) h2]
  | k + 1 => by rw [dRun, dRun, dRun_congr hn h1 h2 ce i pu k, dNext_congr hn h1 h2]
/-- a frame as a text makes it -/
def FR (n : Nat) (kd mn : Nat → Int32) : Prop := n ≤ 6 ∧ ∀ w, w < n → (kd w = 0 ∨ kd w = 1 ∨ kd w = 2) ∧ ∃ m : Nat, 1 ≤ m ∧ m ≤ 9 ∧ mn w = nI m
theorem FR.room {n : Nat} {kd mn : Nat → Int32} (h : FR n kd mn) {w : Nat} (hw : w < n) : ∃ r : Nat, 1 ≤ r ∧ r ≤ 18 ∧ roomF (kd w) (mn w) = nI r := by
  obtain ⟨hk, m, h1, h2, e⟩ := h.2 w hw
  rcases hk with q | q | q
  · exact ⟨m, h1, by omega, by rw [q, e]; rfl⟩
  · exact ⟨m + 1, by omega, by omega, by rw [q, e]; exact nI_1 m⟩
  · exact ⟨2 * m, by omega, by omega, by rw [q, e]; exact pk_mul 2 m⟩
theorem FR.wo {n : Nat} {kd mn : Nat → Int32} (h : FR n kd mn) : ∀ w, w ≤ n → ∃ q : Nat, 1 ≤ q ∧ q ≤ 19 ^ w ∧ woF kd mn w = nI q
  | 0, _ => ⟨1, by omega, by omega, rfl⟩
  | w + 1, hw => by
    obtain ⟨q, h1, h2, e⟩ := FR.wo h w (by omega)
    obtain ⟨r, g1, g2, e2⟩ := h.room (w := w) (by omega)
    refine ⟨q * (r + 1), Nat.mul_pos (by omega) (by omega), ?_, ?_⟩
    · rw [Nat.pow_succ]; exact Nat.mul_le_mul h2 (by omega)
    · rw [woF, e, e2, nI_1, pk_mul]
theorem pow19 {w : Nat} (h : w ≤ 6) : 19 ^ w ≤ 47045881 := Nat.le_trans (Nat.pow_le_pow_right (by decide) h) (by decide)
theorem FR.WG {n : Nat} {kd mn ro wo : Nat → Int32} (h : FR n kd mn) (h1 : ∀ w, w < n → ro w = rmF kd mn w) (h2 : ∀ w, w < n → wo w = woF kd mn w) : WG n ro wo := by
  refine ⟨h.1, fun w hw => ?_⟩
  have h6 := h.1
  obtain ⟨q, a1, a2, e⟩ := h.wo w (by omega)
  obtain ⟨r, g1, g2, e2⟩ := h.room hw
  have := pow19 (w := w) (by omega)
  rw [h1 w hw, h2 w hw]
  show 0 < woF kd mn w ∧ 0 ≤ roomF (kd w) (mn w) ∧ ¬ roomF (kd w) (mn w) + 1 = 0
  rw [e, e2, nI_1]
  exact ⟨(nI_ltI (a := 0) (by decide) (by omega)).mpr (by omega), nI_pos' (by omega), nI_ne0 (by omega) (by omega)⟩
/-! texts, days -/
abbrev frG (ce : Nat → Int32) (i : Int32) : Nat → Int32 := fun q => ce (ix i + q)
def frT (ce : Nat → Int32) (i n : Int32) (kd mn pu : Nat → Int32) : TS := tS (frG ce i) kd mn pu (tN (frG ce i) kd mn pu (ix n))
def frV (ce : Nat → Int32) (i n : Int32) (kd mn pu : Nat → Int32) : Int32 := tRes (frG ce i) kd mn pu (ix n)
abbrev dyP (what : Int32) : Prop := (¬ what < 0 ∧ what ≤ 4) ∨ (¬ what < 10 ∧ ¬ 16 ≤ what)
def acF (n : Nat) (f g : Int32) : Int32 := if g = 0 ∨ g = 1 then (if f < 0 then -2 else if ¬ f ≤ 99999 then -2 else 0) else if g < 10 then -2 else if ¬ g ≤ 28 then -2 else if ¬ hasP n f then -1 else 0
def acR (ce : Nat → Int32) (i n : Nat) : Nat → Int32
  | 0 => 0
  | k + 1 => if acR ce i n k = 0 then acF n (ce (i + 2 * k)) (ce (i + 2 * k + 1)) else acR ce i n k
theorem acR_hit {ce : Nat → Int32} {i n k : Nat} {x : Int32} (h : acR ce i n k = 0) (e : acF n (ce (i + 2 * k)) (ce (i + 2 * k + 1)) = x) (hx : ¬ x = 0) : ∀ m, k < m → acR ce i n m = x := by
  intro m hm
  induction m with
  | zero => omega
  | succ m ih =>
    rcases Nat.lt_or_ge k m with q | q
    · rw [acR, ih q, if_neg hx]
    · have e2 : m = k := by omega
      subst e2
      rw [acR, h, if_pos rfl, e]
def ofD (what : Int32) (x : RS) (n : Nat) (wo : Nat → Int32) : Int32 := if what = 1 then x.1 else if ¬ x.1 = -9 then -100 - x.1 else if what = 0 then numF x.2.1.1 wo n else if what = 2 then x.2.1.2.1 else if what = 3 then x.2.1.2.2 else if what = 4 then x.2.2 else if hasP n (what - 10) then x.2.1.1 (ix (what - 10)) else -9
abbrev dyT (n what : Int32) : Prop := ¬ n < 0 ∧ n ≤ 20 ∧ dyP what
def spDay (sheet lane i n what th la : Int32) (ln : Nat) (ce : Nat → Int32) (nw : Nat) (kd mn pu : Nat → Int32) : Int32 :=
  if ¬ rtK sheet lane i (2 * n) (if dyT n what then 1 else 0) th la ln = 0 then rtK sheet lane i (2 * n) (if dyT n what then 1 else 0) th la ln
  else if nw = 0 then -3 else if ¬ acR ce (ix i) nw (ix n) = 0 then acR ce (ix i) nw (ix n)
  else ofD what (dRun nw (woF kd mn nw - 1) (rmF kd mn) (woF kd mn) ce (ix i) pu (ix n)) nw (woF kd mn)
