/-! the least sliding: sets of places as bits -/
theorem m1_sub (x : Int32) : x + Int32.ofInt (-1) = x - 1 := by
  rw [Int32.sub_eq_add_neg]; rfl
theorem nI_or (a b : Nat) : nI a ||| nI b = nI (a ||| b) := by
  apply Int32.toBitVec_inj.mp
  show (nI a).toBitVec ||| (nI b).toBitVec = (nI (a ||| b)).toBitVec
  unfold nI
  rw [show ∀ k : Nat, (Int32.ofNat k).toBitVec = BitVec.ofNat 32 k from fun _ => rfl, show ∀ k : Nat, (Int32.ofNat k).toBitVec = BitVec.ofNat 32 k from fun _ => rfl]
  rw [show (Int32.ofNat (a ||| b)).toBitVec = BitVec.ofNat 32 (a ||| b) from rfl]
  exact (BitVec.ofNat_or).symm
theorem shl1 : ∀ k, k < 31 → (1 : Int32) <<< (nI k &&& 31) = nI (2 ^ k) := by decide +kernel
theorem bit1 : ∀ st, st < 64 → ∀ k, k < 6 → ((nI st >>> (nI k &&& 31)) &&& 1 = 1 ↔ st.testBit k = true) := by decide +kernel
theorem or_lt : ∀ st, st < 64 → ∀ k, k < 6 → st ||| 2 ^ k < 64 := by decide +kernel
theorem or_eq : ∀ st, st < 64 → ∀ k, k < 6 → (st ||| 2 ^ k = st ↔ st.testBit k = true) := by decide +kernel
theorem two_le {n : Nat} (h : n ≤ 6) : 1 ≤ 2 ^ n ∧ 2 ^ n ≤ 64 := ⟨Nat.one_le_two_pow, Nat.pow_le_pow_right (by decide) h⟩
def ssF (t : Nat → Int32) (st : Nat) : Nat → Int32
  | 0 => 0
  | k + 1 => ssF t st k + (if st.testBit k then t k else 0)
/-- the best next place of a set, and the sliding from there on -/
def cS (n : Nat) (ro wo sm sb : Nat → Int32) (num : Int32) (st : Nat) : Nat → Int32 × Int32
  | 0 => (-9, 0)
  | k + 1 => if st.testBit k then cS n ro wo sm sb num st k else
      if (cS n ro wo sm sb num st k).1 = -9 ∨ slF ro wo (num + sm st) (num + sm (st ||| 2 ^ k)) n + sb (st ||| 2 ^ k) < (cS n ro wo sm sb num st k).2
      then (nI k, slF ro wo (num + sm st) (num + sm (st ||| 2 ^ k)) n + sb (st ||| 2 ^ k)) else cS n ro wo sm sb num st k
abbrev OS : Type := (Nat → Int32) × (Nat → Int32)
/-- next places and slidings behind, after j sets from the greatest down -/
def fO (n : Nat) (ro wo sm nx sb : Nat → Int32) (num : Int32) (nn : Nat) : Nat → OS
  | 0 => (upd nx (2 ^ nn - 1) (-9), upd sb (2 ^ nn - 1) 0)
  | j + 1 => (upd (fO n ro wo sm nx sb num nn j).1 (2 ^ nn - 2 - j) (cS n ro wo sm (fO n ro wo sm nx sb num nn j).2 num (2 ^ nn - 2 - j) nn).1,
      upd (fO n ro wo sm nx sb num nn j).2 (2 ^ nn - 2 - j) (cS n ro wo sm (fO n ro wo sm nx sb num nn j).2 num (2 ^ nn - 2 - j) nn).2)
def pS (nx : Nat → Int32) (x : Nat × Int32) : Nat × Int32 := if x.2 < 0 ∨ 6 ≤ x.2 then x else (x.1 ||| 2 ^ ix x.2, nx (x.1 ||| 2 ^ ix x.2))
def pA (nx : Nat → Int32) : Nat → Nat × Int32
  | 0 => (0, nx 0)
  | k + 1 => pS nx (pA nx k)
theorem in6 {x : Int32} (h0 : ¬ x < 0) (h6 : ¬ 6 ≤ x) : ∃ q, q < 6 ∧ x = nI q := by
  obtain ⟨j, h1, h2, -⟩ := pk_mu (L := 6) h0 h6 (by decide)
  exact ⟨j, h1, h2⟩
theorem pA_lt (nx : Nat → Int32) : ∀ k, (pA nx k).1 < 64
  | 0 => by simp [pA]
  | k + 1 => by
    have ih := pA_lt nx k
    show (pS nx (pA nx k)).1 < 64
    unfold pS
    split
    · exact ih
    · rename_i h
      obtain ⟨q, hq, e⟩ := in6 (fun z => h (Or.inl z)) (fun z => h (Or.inr z))
      show (pA nx k).1 ||| 2 ^ ix (pA nx k).2 < 64
      rw [e, ix_nI (by omega)]
      exact or_lt _ ih q hq
theorem pA_stop {nx : Nat → Int32} {k : Nat} (h : (pA nx k).2 < 0 ∨ 6 ≤ (pA nx k).2) : ∀ m, k ≤ m → pA nx m = pA nx k := by
  intro m hm
  induction m with
  | zero => rw [show k = 0 by omega]
  | succ m ih =>
    rcases Nat.lt_or_ge k (m + 1) with q | q
    · have e := ih (by omega)
      show pS nx (pA nx m) = _
      rw [e, pS, if_pos h]
    · rw [show k = m + 1 by omega]
section GOR
variable {p : Program} {l : Launch} {e : Env} {R : Room} {s : State} {m : MethodId} {args : Array Value} {below : List Frame} {meth : Method} {c : Code} {H : Heap} {locs : List Loc} {cells slots : Nat} {Q : State → Prop} {cc : ByteArray} {pc : Nat} {ls : Array Slot} {rest : List Value}
theorem N_ior (hexec : p.tables.exec = Jvm.exec) (hb : c.code = cc) {x y : Int32} {a b : Nat} (hxa : x = nI a) (hyb : y = nI b) (hdg : decode cc pc = .ok (.ior, 1)) (k : W p l e R s m args below meth c H locs cells slots Q (F0 m (pc + 1) ls (.int (nI (a ||| b)) :: rest))) : W p l e R s m args below meth c H locs cells slots Q (F0 m pc ls (.int y :: .int x :: rest)) := by
  subst hxa; subst hyb
  refine lv_ior hexec hb hdg ?_
  rw [nI_or]
  exact k
end GOR
