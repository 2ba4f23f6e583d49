/-! odds, in numbers -/
def wnS (f : Nat → Nat) (m : Nat) : Nat → Nat
  | 0 => 0
  | h + 1 => wnS f m h + f (m - h)
def wN (r : Nat → Nat) : Nat → Nat → Nat
  | 0 => fun m => if m = 0 then 1 else 0
  | w + 1 => fun m => wnS (wN r w) m (min (r w) m + 1)
def rN (kd mn : Nat → Int32) (w : Nat) : Nat := ix (roomF (kd w) (mn w))
def wP (r : Nat → Nat) : Nat → Nat
  | 0 => 1
  | w + 1 => wP r w * (r w + 1)
theorem wnS_le {f : Nat → Nat} {m M : Nat} (h : ∀ q, f q ≤ M) : ∀ k, wnS f m k ≤ k * M
  | 0 => by simp [wnS]
  | k + 1 => by rw [wnS, Nat.succ_mul]; exact Nat.add_le_add (wnS_le h k) (h _)
theorem wN_le {r : Nat → Nat} {n : Nat} (h : ∀ w, w < n → r w ≤ 18) : ∀ w, w ≤ n → ∀ m, wN r w m ≤ 19 ^ w
  | 0, _ => fun m => by show (if m = 0 then 1 else 0) ≤ 1; split <;> omega
  | w + 1, hw => fun m => by
    have h1 := wnS_le (m := m) (wN_le h w (by omega)) (min (r w) m + 1)
    have h2 := h w (by omega)
    refine Nat.le_trans h1 ?_
    rw [Nat.pow_succ, Nat.mul_comm]
    exact Nat.mul_le_mul_left _ (by omega)
theorem rN_of {n : Nat} {kd mn : Nat → Int32} (h : FR n kd mn) {w : Nat} (hw : w < n) : 1 ≤ rN kd mn w ∧ rN kd mn w ≤ 18 ∧ roomF (kd w) (mn w) = nI (rN kd mn w) := by
  obtain ⟨r, h1, h2, e⟩ := h.room hw
  have e2 : rN kd mn w = r := by unfold rN; rw [e]; exact ix_nI (by omega)
  rw [e2]
  exact ⟨h1, h2, e⟩
theorem wP_of {n : Nat} {kd mn : Nat → Int32} (h : FR n kd mn) : ∀ w, w ≤ n → 1 ≤ wP (rN kd mn) w ∧ wP (rN kd mn) w ≤ 19 ^ w ∧ woF kd mn w = nI (wP (rN kd mn) w)
  | 0, _ => ⟨Nat.le_refl 1, Nat.le_refl 1, rfl⟩
  | w + 1, hw => by
    obtain ⟨h1, h2, e⟩ := wP_of h w (by omega)
    obtain ⟨g1, g2, e2⟩ := rN_of h (w := w) (by omega)
    refine ⟨Nat.mul_pos (by omega) (by omega), ?_, ?_⟩
    · rw [Nat.pow_succ]; exact Nat.mul_le_mul h2 (by omega)
    · rw [woF, e, e2, nI_1, pk_mul]; rfl
def wA (f : Nat → Nat) : Nat → Int32 := fun q => nI (f q)
def wm (f g : Nat → Nat) (m : Nat) : Nat → Nat := fun q => if q < m then f q else g q
theorem wm_s {f g : Nat → Nat} {m : Nat} : upd (wA (wm f g (m + 1))) m (nI (g m)) = wA (wm f g m) := by
  funext q
  by_cases h : q = m
  · subst h; rw [pk_us]; show _ = nI (wm f g q q); rw [wm, if_neg (by omega)]
  · rw [pk_un h]
    show nI (wm f g (m + 1) q) = nI (wm f g m q)
    unfold wm
    by_cases h2 : q < m
    · rw [if_pos h2, if_pos (by omega)]
    · rw [if_neg h2, if_neg (by omega)]
theorem wm_in {f g : Nat → Nat} {m q : Nat} (h : q < m) : wA (wm f g m) q = nI (f q) := by unfold wA wm; rw [if_pos h]
