/-! what the numbers are: pure functions that both sides are tied to -/
def roomF (k m : Int32) : Int32 := if k = 2 then 2 * m else if k = 1 then m + 1 else m
abbrev rmF (kd mn : Nat → Int32) : Nat → Int32 := fun w => roomF (kd w) (mn w)
def woF (kd mn : Nat → Int32) : Nat → Int32
  | 0 => 1
  | w + 1 => woF kd mn w * (roomF (kd w) (mn w) + 1)
def numF (pu wo : Nat → Int32) : Nat → Int32
  | 0 => 0
  | k + 1 => numF pu wo k + pu k * wo k
def sumF (f : Nat → Int32) : Nat → Int32
  | 0 => 0
  | k + 1 => sumF f k + f k
def figF (wo ro v : Int32) : Int32 := v / wo - v / wo / (ro + 1) * (ro + 1)
def absI (x : Int32) : Int32 := if 0 ≤ x then x else 0 - x
def slF (ro wo : Nat → Int32) (a b : Int32) : Nat → Int32
  | 0 => 0
  | k + 1 => slF ro wo a b k + absI (figF (wo k) (ro k) b - figF (wo k) (ro k) a)
def ovF (ro wo : Nat → Int32) (a b : Int32) : Nat → Int32
  | 0 => 0
  | k + 1 => if figF (wo k) (ro k) a + figF (wo k) (ro k) b + ovF ro wo a b k ≤ ro k then 0 else 1
def cyF (ro wo : Nat → Int32) (a b : Int32) : Nat → Int32
  | 0 => 0
  | k + 1 => cyF ro wo a b k + ovF ro wo a b (k + 1)
def fil {α : Type} (f g : Nat → α) (k : Nat) : Nat → α := fun w => if w < k then f w else g w
theorem fil_0 {α : Type} (f g : Nat → α) : fil f g 0 = g := by funext w; simp [fil]
theorem fil_s (f g : Nat → Int32) (k : Nat) : upd (fil f g k) k (f k) = fil f g (k + 1) := by
  funext w
  simp only [upd, fil]
  by_cases h : w = k
  · subst h; simp
  · rw [if_neg h]
    by_cases h2 : w < k
    · rw [if_pos h2, if_pos (by omega)]
    · rw [if_neg h2, if_neg (by omega)]
theorem fil_in {α : Type} {f g : Nat → α} {k w : Nat} (h : w < k) : fil f g k w = f w := if_pos h
theorem fil_out {α : Type} {f g : Nat → α} {k w : Nat} (h : k ≤ w) : fil f g k w = g w := if_neg (by omega)
abbrev hasP (n : Nat) (w : Int32) : Prop := ¬ w < 0 ∧ ¬ nI n ≤ w
theorem hasP_nI {n j : Nat} (h : j < n) (hn : n ≤ 6) : hasP n (nI j) := ⟨nI_pos (by omega), nI_ge h (by omega)⟩
theorem hasP_of {n : Nat} {w : Int32} (h : hasP n w) (hn : n ≤ 6) : ∃ j, j < n ∧ w = nI j := by
  obtain ⟨j, h1, h2, -⟩ := pk_mu h.1 h.2 (by omega)
  exact ⟨j, h1, h2⟩
theorem has6 {n : Nat} {w : Int32} (h : ¬ nI n ≤ w) (hn : n ≤ 6) (h6 : 6 ≤ w) : False := h (Int32.le_trans (show nI n ≤ 6 from nI_le (b := 6) hn (by decide)) h6)
abbrev canP (n : Nat) (mo num v : Int32) : Prop := 0 < n ∧ ¬ mo - num < v
abbrev takP (n : Nat) (num v : Int32) : Prop := 0 < n ∧ ¬ num < v
abbrev roomP (pu ro : Nat → Int32) (n : Nat) : Prop := ∀ w, w < n → pu w ≤ ro w
/-- the rows of a frame that is measured: nothing is divided by 0 -/
def WG (n : Nat) (ro wo : Nat → Int32) : Prop := n ≤ 6 ∧ ∀ w, w < n → 0 < wo w ∧ 0 ≤ ro w ∧ ¬ ro w + 1 = 0
theorem WG.le {n : Nat} {ro wo : Nat → Int32} (h : WG n ro wo) : n ≤ 6 := h.1
theorem pos_ne {x : Int32} (h : 0 < x) : ¬ x = 0 := fun q => by subst q; exact absurd h (by decide)
theorem pos_nle {x : Int32} (h : 0 < x) : ¬ x ≤ 0 := Int32.not_le.mpr h
/-- a cell of an int array by what stands below its length -/
theorem va_P_ar {E : gE} {cl : List vw_C} {ws : va_W} {H : Heap} (hP : va_P E.1 cl ws H) (q a n : Nat) {f g : Nat → Int32} (hq : ws[q]? = some (ar E a n f)) (h : ∀ j, j < n → f j = g j) : va_P E.1 cl (ws.set q (ar E a n g)) H := by
  intro k x hk
  by_cases e : k = q
  · subst e
    have hl : k < ws.length := (List.getElem?_eq_some_iff.mp hq).1
    rw [List.getElem?_set_self hl] at hk
    cases hk
    have h0 : H[a]? = some (vp_cell E.2.1 (n, .inl f)) := hP k _ hq
    show H[a]? = some (vp_cell E.2.1 (n, .inl g))
    rw [h0, vp_cell_i, vp_cell_i]
    have e2 : ∀ j : Fin n, (Value.int (f j.val)) = Value.int (g j.val) := fun j => by rw [h j.val j.isLt]
    simp only [arrV]
    rw [show (fun j : Fin n => Value.int (f j.val)) = fun j : Fin n => Value.int (g j.val) from funext e2]
  · rw [List.getElem?_set_ne (fun z => e z.symm)] at hk
    exact hP k x hk
theorem va_D_addr {A : Nat → Prop} {w1 w2 : va_W} (h : va_D A w1) (ad : List Nat) (e1 : w1.map Prod.fst = ad) (e2 : w2.map Prod.fst = ad) : va_D A w2 := by
  have e : w2.map Prod.fst = w1.map Prod.fst := e2.trans e1.symm
  have key : ∀ (k : Nat) (q : Nat × va_E), w2[k]? = some q → ∃ q0 : Nat × va_E, w1[k]? = some q0 ∧ q0.1 = q.1 := by
    intro k q hq
    have h1 : (w2.map Prod.fst)[k]? = (w1.map Prod.fst)[k]? := by rw [e]
    rw [List.getElem?_map, List.getElem?_map, hq] at h1
    cases h2 : w1[k]? with
    | none => rw [h2] at h1; cases h1
    | some q0 => rw [h2] at h1; exact ⟨q0, rfl, (Option.some.inj h1).symm⟩
  refine ⟨fun i j p q hi hj hpq => ?_, fun k q hk => ?_⟩
  · obtain ⟨p0, a1, a2⟩ := key i p hi
    obtain ⟨q0, b1, b2⟩ := key j q hj
    exact h.1 i j p0 q0 a1 b1 (by rw [a2, b2, hpq])
  · obtain ⟨q0, b1, b2⟩ := key k q hk
    rw [← b2]; exact h.2 k q0 b1
