/-! order: both sides -/
set_option maxRecDepth 100000 in
theorem un_rows : ∀ n, n < 7 → (List.range (facN n)).map (fun num => (List.range n).map (unR n num)) = rwL n n 0 := by decide +kernel
theorem skN_bit {u : Nat} : ∀ {f sk q r : Nat}, skN u f sk q = some r → u.testBit r = false
  | 0, _, _, _, h => by rw [skN] at h; cases h
  | f + 1, sk, q, r, h => by
    rw [skN] at h
    cases b : u.testBit q with
    | true => rw [b, if_pos rfl] at h; exact skN_bit h
    | false =>
      rw [b, if_neg (by decide)] at h
      split at h
      · rw [← Option.some.inj h]; exact b
      · exact skN_bit h
def orL : Nat → List Nat → Nat
  | st, [] => st
  | st, k :: r => orL (st ||| 2 ^ k) r
theorem orL_app : ∀ (r : List Nat) (st k : Nat), orL st (r ++ [k]) = orL st r ||| 2 ^ k
  | [], _, _ => rfl
  | q :: r, st, k => by
    show orL (st ||| 2 ^ q) (r ++ [k]) = orL (st ||| 2 ^ q) r ||| 2 ^ k
    exact orL_app r _ k
theorem rcL_app (C : Nat → Nat → Nat) : ∀ (r : List Nat) (st k : Nat), rcL C st (r ++ [k]) = rcL C st r + C (orL st r) k
  | [], st, k => by show C st k + 0 = 0 + C st k; omega
  | q :: r, st, k => by
    show C st q + rcL C (st ||| 2 ^ q) (r ++ [k]) = C st q + rcL C (st ||| 2 ^ q) r + C (orL (st ||| 2 ^ q) r) k
    rw [rcL_app C r, Nat.add_assoc]
theorem rcL_le {C : Nat → Nat → Nat} {B : Nat} (hC : ∀ a b, C a b ≤ B) : ∀ (r : List Nat) (st : Nat), rcL C st r ≤ B * r.length
  | [], _ => Nat.zero_le _
  | k :: r, st => by
    have h1 := rcL_le hC r (st ||| 2 ^ k)
    have h2 := hC st k
    show C st k + rcL C (st ||| 2 ^ k) r ≤ B * (r.length + 1)
    rw [Nat.mul_succ]; omega
theorem un_used {nn num : Nat} : ∀ k, (unS nn num k).2.2 = orL 0 ((List.range k).map (unR nn num))
  | 0 => rfl
  | k + 1 => by
    rw [unS_s, List.range_succ, List.map_append, List.map_cons, List.map_nil, orL_app, ← un_used k]
theorem ssF_or {g : Nat → Int32} {st k : Nat} (hb : st.testBit k = false) : ∀ m, ssF g (st ||| 2 ^ k) m = if k < m then ssF g st m + g k else ssF g st m
  | 0 => rfl
  | m + 1 => by
    have ih := ssF_or (g := g) hb m
    rw [ssF, ih, Nat.testBit_or, Nat.testBit_two_pow]
    by_cases e : k = m
    · subst e
      rw [if_neg (Nat.lt_irrefl k), if_pos (Nat.lt_succ_self k), ssF, hb]
      simp
    · rw [decide_eq_false e, Bool.or_false, ssF]
      by_cases h : k < m
      · rw [if_pos h, if_pos (show k < m + 1 by omega), Int32.add_assoc, Int32.add_comm (g k), ← Int32.add_assoc]
      · rw [if_neg h, if_neg (show ¬ k < m + 1 by omega)]
theorem ssF_full {g : Nat → Int32} {n : Nat} : ∀ m, m ≤ n → ssF g (2 ^ n - 1) m = sumF g m
  | 0, _ => rfl
  | m + 1, h => by
    rw [ssF, sumF, ssF_full m (by omega), Nat.testBit_two_pow_sub_one, decide_eq_true (by omega), if_pos rfl]
section ORD
variable {ro wo g : Nat → Int32} {nw : Nat} {num : Int32} {K : Int32 → Int32 → Nat}
def cK (K : Int32 → Int32 → Nat) (g : Nat → Int32) (num : Int32) (nn : Nat) : Nat → Nat → Nat := fun st k => K (num + ssF g st nn) (num + ssF g (st ||| 2 ^ k) nn)
/-- a row gone through -/
theorem slR_is (hK : ∀ a b, slF ro wo a b nw = nI (K a b)) {nn nu : Nat} (h6 : nn ≤ 6) (hnu : nu < facN nn) : ∀ k, k ≤ nn → slR ro wo nw g (unA nn nu) num k = (num + ssF g (orL 0 ((List.range k).map (unR nn nu))) nn, nI (rcL (cK K g num nn) 0 ((List.range k).map (unR nn nu))))
  | 0, _ => by
    show (num, (0 : Int32)) = (num + ssF g 0 nn, nI 0)
    have : ∀ m, ssF g 0 m = 0 := by
      intro m
      induction m with
      | zero => rfl
      | succ m ih => rw [ssF, ih, Nat.zero_testBit]; rfl
    rw [this, Int32.add_zero]; rfl
  | k + 1, hk => by
    obtain ⟨g1, g2, g3, g4, g5, g6⟩ := un_ok h6 hnu (show k < nn by omega)
    have hb := skN_bit g5
    rw [un_used k] at hb
    have ei : ix (unA nn nu k) = unR nn nu k := ix_nI (by omega)
    rw [slR, slR_is hK h6 hnu k (by omega), ei, List.range_succ, List.map_append, List.map_cons, List.map_nil, orL_app, rcL_app, ssF_or hb nn, if_pos g6, hK, nI_add, Int32.add_assoc]
    refine Prod.ext rfl (congrArg nI ?_)
    show _ + _ = _ + K _ (num + ssF g (orL 0 ((List.range k).map (unR nn nu)) ||| 2 ^ unR nn nu k) nn)
    rw [ssF_or hb nn, if_pos g6]
/-- the least of the numbered rows -/
theorem oI_fm {co : Nat → Int32} {c : Nat → Nat} {row : Nat → List Nat} {M : Nat} (hM : M ≤ 720) (hc : ∀ q, q < M → co q = nI (c q) ∧ c q < 2 ^ 31) : ∀ m, m ≤ M → (m = 0 ∧ fmA none ((List.range m).map (fun q => (row q, c q))) = none) ∨ ∃ b, b < m ∧ fmA none ((List.range m).map (fun q => (row q, c q))) = some (row b, c b) ∧ oI co m = (nI b, nI (c b))
  | 0, _ => Or.inl ⟨rfl, rfl⟩
  | m + 1, hm => by
    refine Or.inr ?_
    obtain ⟨e1, e2⟩ := hc m (by omega)
    rw [List.range_succ, List.map_append, fmA_app, List.map_cons, List.map_nil]
    rcases oI_fm (row := row) hM hc m (by omega) with ⟨z, h⟩ | ⟨b, h1, h2, h3⟩
    · subst z
      refine ⟨0, by omega, rfl, ?_⟩
      rw [oI, if_pos (show (oI co 0).1 = -9 ∨ co 0 < (oI co 0).2 from Or.inl rfl), e1]
    · rw [h2]
      obtain ⟨e3, e4⟩ := hc b (by omega)
      show ∃ b', b' < m + 1 ∧ (if c m < c b then some (row m, c m) else some (row b, c b)) = some (row b', c b') ∧ _
      by_cases z : c m < c b
      · refine ⟨m, by omega, if_pos z, ?_⟩
        rw [oI, h3, if_pos (Or.inr (show co m < nI (c b) by rw [e1]; exact nI_lt z e4)), e1]
      · refine ⟨b, by omega, if_neg z, ?_⟩
        rw [oI, h3, if_neg]
        rintro (q | q)
        · exact nI_n9 (k := b) (by omega) q
        · have q : co m < nI (c b) := q
          rw [e1] at q
          exact nI_nlt (by omega) e2 q
def hdI : List Nat → Int32
  | [] => -9
  | k :: _ => nI k
def encO : Option RW → Int32 × Int32
  | none => (-9, 0)
  | some x => (hdI x.1, nI x.2)
theorem ms_le (st : Nat) : ∀ n, ms st n ≤ n
  | 0 => Nat.le_refl _
  | n + 1 => by
    have := ms_le st n
    rw [ms]
    split <;> omega
set_option maxRecDepth 100000 in
theorem ms_zero : ∀ n, n < 7 → ∀ st, st < 2 ^ n → ms st n = 0 → st = 2 ^ n - 1 := by decide +kernel
theorem cS_is (hK : ∀ a b, slF ro wo a b nw = nI (K a b)) (hB : ∀ a b, K a b ≤ 216) {nn st f : Nat} (h6 : nn ≤ 6) (hst : st < 2 ^ nn) {sm sb : Nat → Int32} (hsm : ∀ s, s < 2 ^ nn → sm s = ssF g s nn) (hf : ms st nn = f + 1)
    (hsb : ∀ k, k < nn → st.testBit k = false → sb (st ||| 2 ^ k) = nI (bD (cK K g num nn) nn f (st ||| 2 ^ k)).2) : ∀ k, k ≤ nn → cS nw ro wo sm sb num st k = encO (bK (cK K g num nn) st (fun k => bD (cK K g num nn) nn f (st ||| 2 ^ k)) k)
  | 0, _ => rfl
  | k + 1, hk => by
    have ih := cS_is hK hB h6 hst hsm hf hsb k (by omega)
    have hCB : ∀ a b, cK K g num nn a b ≤ 216 := fun a b => hB _ _
    have hfl := ms_le st nn
    have bd : ∀ q, q < nn → st.testBit q = false → (shf q (cK K g num nn st q) (bD (cK K g num nn) nn f (st ||| 2 ^ q))).2 < 2 ^ 31 := by
      intro q hq hb
      have h1 := bD_le hCB h6 f (st ||| 2 ^ q) (or_lt2 hst hq) (by have := ms_or st (lt64 h6 hst) nn (by omega) q hq hb; omega)
      have h2 := hCB st q
      show cK K g num nn st q + (bD (cK K g num nn) nn f (st ||| 2 ^ q)).2 < 2 ^ 31
      omega
    rw [cS, bK]
    cases b : st.testBit k with
    | true => rw [if_pos rfl, if_pos rfl]; exact ih
    | false =>
      have e : slF ro wo (num + sm st) (num + sm (st ||| 2 ^ k)) nw + sb (st ||| 2 ^ k) = nI (shf k (cK K g num nn st k) (bD (cK K g num nn) nn f (st ||| 2 ^ k))).2 := by
        rw [hsm st hst, hsm _ (or_lt2 hst (by omega)), hK, hsb k (by omega) b, nI_add]; rfl
      rw [if_neg (show ¬ false = true by decide), if_neg (show ¬ false = true by decide), e, ih]
      cases a : bK (cK K g num nn) st (fun k => bD (cK K g num nn) nn f (st ||| 2 ^ k)) k with
      | none => exact if_pos (Or.inl rfl)
      | some x =>
        obtain ⟨q, q1, q2, q3⟩ := bK_is a
        have b1 := bd k (by omega) b
        have b2 := bd q (by omega) q2
        rw [← q3] at b2
        have e9 : ¬ (encO (some x)).1 = -9 := by rw [q3]; exact nI_n9 (k := q) (by omega)
        show _ = encO (if (shf k (cK K g num nn st k) (bD (cK K g num nn) nn f (st ||| 2 ^ k))).2 < x.2 then _ else _)
        by_cases z : (shf k (cK K g num nn st k) (bD (cK K g num nn) nn f (st ||| 2 ^ k))).2 < x.2
        · rw [if_pos z]; exact if_pos (Or.inr (nI_lt z b2))
        · rw [if_neg z, if_neg]
          rintro (h | h)
          · exact e9 h
          · exact nI_nlt (by omega) b1 h
theorem fO_is (hK : ∀ a b, slF ro wo a b nw = nI (K a b)) (hB : ∀ a b, K a b ≤ 216) {nn : Nat} (h6 : nn ≤ 6) {sm nx sb : Nat → Int32} (hsm : ∀ s, s < 2 ^ nn → sm s = ssF g s nn) : ∀ j, j ≤ 2 ^ nn - 1 → ∀ st, 2 ^ nn - 1 - j ≤ st → st < 2 ^ nn →
    (fO nw ro wo sm nx sb num nn j).1 st = hdI (bD (cK K g num nn) nn (ms st nn) st).1 ∧ (fO nw ro wo sm nx sb num nn j).2 st = nI (bD (cK K g num nn) nn (ms st nn) st).2
  | 0, _, st, h1, h2 => by
    have e : st = 2 ^ nn - 1 := by omega
    subst e
    rw [ms_full nn (by omega)]
    exact ⟨pk_us, pk_us⟩
  | j + 1, hj, st, h1, h2 => by
    by_cases e : st = 2 ^ nn - 2 - j
    · have hp := (two_le h6).1
      obtain ⟨f, hf⟩ : ∃ f, ms st nn = f + 1 := by
        rcases Nat.eq_zero_or_pos (ms st nn) with z | z
        · have := ms_zero nn (by omega) st h2 z; omega
        · exact ⟨ms st nn - 1, by omega⟩
      have h := cS_is (g := g) (num := num) hK hB h6 h2 hsm hf (sb := (fO nw ro wo sm nx sb num nn j).2) (fun k hk hb => by
        have o1 := or_gt st (lt64 h6 h2) k (by omega) hb
        have o2 := ms_or st (lt64 h6 h2) nn (by omega) k hk hb
        have := (fO_is hK hB h6 (nx := nx) (sb := sb) hsm j (by omega) (st ||| 2 ^ k) (by omega) (or_lt2 h2 hk)).2
        rw [this, show ms (st ||| 2 ^ k) nn = f by omega]) nn (Nat.le_refl _)
      rw [(bD_is (C := cK K g num nn) hf).1] at h
      rw [hf]
      subst e
      rw [fO]
      show upd _ _ _ _ = _ ∧ upd _ _ _ _ = _
      rw [pk_us, pk_us, h]
      exact ⟨rfl, rfl⟩
    · have ih := fO_is hK hB h6 (nx := nx) (sb := sb) hsm j (by omega) st (by omega) h2
      rw [fO]
      show upd _ _ _ _ = _ ∧ upd _ _ _ _ = _
      rw [pk_un e, pk_un e]
      exact ih
end ORD
theorem drop_s : ∀ (l : List Nat) (k q : Nat) (X : List Nat), l.drop k = q :: X → l.drop (k + 1) = X
  | [], k, q, X, h => by rw [List.drop_nil] at h; cases h
  | a :: l, 0, q, X, h => by
    have h : a :: l = q :: X := h
    show l.drop 0 = X
    rw [List.drop_zero]
    exact (List.cons.inj h).2
  | a :: l, k + 1, q, X, h => drop_s l k q X h
theorem pA_is {C : Nat → Nat → Nat} {nn : Nat} (h6 : nn ≤ 6) {nx : Nat → Int32} (hA : ∀ st, st < 2 ^ nn → nx st = hdI (bD C nn (ms st nn) st).1) : ∀ k, k ≤ nn → ∃ T, pA nx k = (T, nx T) ∧ T < 2 ^ nn ∧ ms T nn = nn - k ∧ (bD C nn (nn - k) T).1 = (bD C nn nn 0).1.drop k
  | 0, _ => ⟨0, rfl, (two_le h6).1, ms_empty nn (by omega), by rw [List.drop_zero]; rfl⟩
  | k + 1, hk => by
    obtain ⟨T, h1, h2, h3, h4⟩ := pA_is h6 hA k (by omega)
    obtain ⟨f, hf⟩ : ∃ f, f = nn - (k + 1) := ⟨_, rfl⟩
    have hf1 : nn - k = f + 1 := by omega
    rw [hf1] at h3 h4
    obtain ⟨-, q, q1, q2, q3⟩ := bD_is (C := C) h3
    have e : nx T = nI q := by rw [hA T h2, h3, q3]; rfl
    rw [q3] at h4
    refine ⟨T ||| 2 ^ q, ?_, or_lt2 h2 q1, by have := ms_or T (lt64 h6 h2) nn (by omega) q q1 q2; omega, ?_⟩
    · show pS nx (pA nx k) = _
      rw [h1, pS, if_neg]
      · show (T ||| 2 ^ ix (nx T), nx (T ||| 2 ^ ix (nx T))) = _
        rw [e, ix_nI (by omega)]
      · rintro (z | z)
        · exact nI_pos (show q < 2 ^ 31 by omega) (e ▸ z)
        · exact nI_ge (a := q) (b := 6) (by omega) (by decide) (e ▸ z)
    · rw [← hf]
      exact (drop_s _ _ _ _ h4.symm).symm
theorem hd_row {f : Nat → Nat} {n k : Nat} (h : k < n) : hdI (((List.range n).map f).drop k) = nI (f k) := by
  rw [List.drop_eq_getElem_cons (by simpa using h)]
  simp [hdI]
theorem ord_core {nw : Nat} {kd mn pu g ro wo sm nx sb : Nat → Int32} {nn : Nat} {k : Int32} (h : FR nw kd mn) (hro : ∀ w, w < nw → ro w = rmF kd mn w) (hwo : ∀ w, w < nw → wo w = woF kd mn w) (h6 : nn ≤ 6) (hk1 : ¬ k < -1) (hk6 : k < 6) (hsm : ∀ s, s < 2 ^ nn → sm s = ssF g s nn) :
    (if k < 0 then (fO nw ro wo sm nx sb (numF pu (woF kd mn) nw) nn (2 ^ nn - 1)).2 0 else (pA (fO nw ro wo sm nx sb (numF pu (woF kd mn) nw) nn (2 ^ nn - 1)).1 (ix k)).2) = orO nn (orC nw kd mn pu g nn) k := by
  have hw6 := h.1
  have hK0 : ∀ a b, ∃ m : Nat, m ≤ 216 ∧ slF (rmF kd mn) (woF kd mn) a b nw = nI m := fun a b => by
    obtain ⟨m, m1, m2⟩ := slF_nat h (woF kd mn) a b nw (Nat.le_refl _)
    exact ⟨m, by omega, m2⟩
  obtain ⟨K, hKe⟩ : ∃ K : Int32 → Int32 → Nat, K = fun a b => ix (slF (rmF kd mn) (woF kd mn) a b nw) := ⟨_, rfl⟩
  have hK1 : ∀ a b, slF (rmF kd mn) (woF kd mn) a b nw = nI (K a b) := fun a b => by
    obtain ⟨m, m1, m2⟩ := hK0 a b
    rw [hKe]; show _ = nI (ix _); rw [m2, ix_nI (by omega)]
  have hB : ∀ a b, K a b ≤ 216 := fun a b => by
    obtain ⟨m, m1, m2⟩ := hK0 a b
    rw [hKe]; show ix _ ≤ 216; rw [m2, ix_nI (by omega)]; exact m1
  clear hKe hK0
  have hK2 : ∀ a b, slF ro wo a b nw = nI (K a b) := fun a b => (slF_congr a b hro hwo).trans (hK1 a b)
  have hF := facN_le nn (by omega)
  have hp := (two_le h6).1
  have hfo := fO_is (g := g) (num := numF pu (woF kd mn) nw) hK2 hB h6 (nx := nx) (sb := sb) hsm (2 ^ nn - 1) (Nat.le_refl _)
  generalize fO nw ro wo sm nx sb (numF pu (woF kd mn) nw) nn (2 ^ nn - 1) = A at hfo ⊢
  have hco : ∀ q, q < facN nn → orC nw kd mn pu g nn q = nI (rcL (cK K g (numF pu (woF kd mn) nw) nn) 0 ((List.range nn).map (unR nn q))) ∧ rcL (cK K g (numF pu (woF kd mn) nw) nn) 0 ((List.range nn).map (unR nn q)) < 2 ^ 31 := by
    intro q hq
    refine ⟨?_, ?_⟩
    · show (slR (rmF kd mn) (woF kd mn) nw g (unA nn q) (numF pu (woF kd mn) nw) nn).2 = _
      rw [slR_is hK1 h6 hq nn (Nat.le_refl _)]
    · have := rcL_le (C := cK K g (numF pu (woF kd mn) nw) nn) (B := 216) (fun a b => hB _ _) ((List.range nn).map (unR nn q)) 0
      rw [List.length_map, List.length_range] at this
      omega
  generalize hC : cK K g (numF pu (woF kd mn) nw) nn = C at hfo hco
  rcases oI_fm (row := fun q => (List.range nn).map (unR nn q)) (c := fun q => rcL C 0 ((List.range nn).map (unR nn q))) hF.2 hco (facN nn) (Nat.le_refl _) with ⟨z, -⟩ | ⟨b, b1, b2, b3⟩
  · omega
  · have e : (List.range (facN nn)).map (fun q => ((List.range nn).map (unR nn q), rcL C 0 ((List.range nn).map (unR nn q)))) = ((List.range (facN nn)).map (fun q => (List.range nn).map (unR nn q))).map (fun r => (r, rcL C 0 r)) := by
      rw [List.map_map]; rfl
    rw [e, un_rows nn (by omega), rows_best C h6 nn 0 hp (ms_empty nn (by omega))] at b2
    have b4 := Option.some.inj b2
    have b5 : (bD C nn nn 0).1 = (List.range nn).map (unR nn b) := congrArg Prod.fst b4
    have b6 : (bD C nn nn 0).2 = rcL C 0 ((List.range nn).map (unR nn b)) := congrArg Prod.snd b4
    by_cases c : k < 0
    · have hk : k = -1 := by
        have a1 := Int32.le_iff_toInt_le.mp (Int32.not_lt.mp hk1)
        have a2 := Int32.lt_iff_toInt_lt.mp c
        have e1 : (-1 : Int32).toInt = -1 := rfl
        rw [e1] at a1
        rw [Int32.toInt_zero] at a2
        exact Int32.toInt_inj.mp (by rw [e1]; omega)
      rw [if_pos c, orO, if_pos hk, b3]
      have := (hfo 0 (by omega) (by omega)).2
      rw [ms_empty nn (by omega), b6] at this
      exact this
    · obtain ⟨y, y1, y2⟩ := in6 c (Int32.not_le.mpr hk6)
      rw [if_neg c, y2, ix_nI (by omega)]
      have hA : ∀ st, st < 2 ^ nn → A.1 st = hdI (bD C nn (ms st nn) st).1 := fun st hs => (hfo st (by omega) hs).1
      rcases Nat.lt_or_ge y nn with q | q
      · obtain ⟨T, t1, t2, t3, t4⟩ := pA_is h6 hA y (by omega)
        rw [t1, orO_k h6 (show b < 2 ^ 31 by omega) (congrArg Prod.fst b3) q]
        show A.1 T = _
        rw [hA T t2, t3, t4, b5, hd_row q]; rfl
      · obtain ⟨T, t1, t2, t3, t4⟩ := pA_is h6 hA nn (Nat.le_refl _)
        have e9 : A.1 T = -9 := by rw [hA T t2, t3, Nat.sub_self]; rfl
        have h9 : (pA A.1 nn).2 = -9 := by rw [t1]; exact e9
        rw [pA_stop (Or.inl (by rw [h9]; decide)) y q, h9, orO, if_neg (fun z => nI_pos (show y < 2 ^ 31 by omega) (by rw [z]; decide)), if_neg (nI_nlt q (by omega))]
theorem spOrder_orM {sheet lane i n k th la : Int32} {ln : Nat} {ce : Nat → Int32} {nw : Nat} {mo : Int32} {kd mn pu ro wo sm nx sb : Nat → Int32} (h : FR nw kd mn) (hro : ∀ w, w < nw → ro w = rmF kd mn w) (hwo : ∀ w, w < nw → wo w = woF kd mn w) (hmo : 0 < nw → mo = woF kd mn nw - 1) :
    spOrder sheet lane i n k th la ln ce nw mo pu ro wo sm nx sb = orM sheet lane i n k th la ln ce nw kd mn pu := by
  unfold spOrder orM
  by_cases c0 : rtK sheet lane i n (if orT n k then 1 else 0) th la ln = 0
  · rw [if_neg (not_not_intro c0), if_neg (not_not_intro c0)]
    have hT : orT n k := by
      have := (rtK_0 c0).2.2.1
      by_cases q : orT n k
      · exact q
      · rw [if_neg q] at this; exact absurd rfl this
    by_cases c1 : nw = 0
    · rw [if_pos c1, if_pos c1]
    · rw [if_neg c1, if_neg c1]
      by_cases c2 : allP ce (ix i) (ix n) 99999
      · rw [if_neg (not_not_intro c2), if_neg (not_not_intro c2)]
        obtain ⟨nn, h6, en⟩ := le_nat (n := 6) (M := 6) rfl hT.1 hT.2.1
        have ein : ix n = nn := by rw [en]; exact ix_nI (by omega)
        rw [ein]
        have hp := (two_le h6).1
        have es : orS ce (ix i) nn sm (2 ^ nn - 1) = sumF (fun q => ce (ix i + q)) nn := by
          show fil _ sm (2 ^ nn) (2 ^ nn - 1) = _
          rw [fil_in (by omega)]
          exact ssF_full nn (Nat.le_refl _)
        have eN : numF pu wo nw = numF pu (woF kd mn) nw := numF_congr (fun _ _ => rfl) hwo
        rw [es, eN, hmo (by omega)]
        by_cases c3 : canP nw (woF kd mn nw - 1) (numF pu (woF kd mn) nw) (sumF (fun q => ce (ix i + q)) nn)
        · rw [if_neg (not_not_intro c3), if_neg (not_not_intro c3)]
          exact ord_core h hro hwo h6 hT.2.2.1 hT.2.2.2 (fun s hs => fil_in hs)
        · rw [if_pos c3, if_pos c3]
      · rw [if_pos c2, if_pos c2]
  · rw [if_pos c0, if_pos c0]
