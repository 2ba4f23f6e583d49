/-! both sides: a day -/
def DE (n : Nat) (x y : DS) : Prop := (∀ w, w < n → x.1 w = y.1 w) ∧ x.2 = y.2
theorem DE_num {n : Nat} {x y : DS} (h : DE n x y) (wo : Nat → Int32) : numF x.1 wo n = numF y.1 wo n := numF_congr h.1 (fun _ _ => rfl)
theorem dStep_rel {n : Nat} (hn : n ≤ 6) {mo : Int32} {ro wo : Nat → Int32} {f g : Int32} {x y : DS} (h : DE n x y) : (dStep n mo ro wo f g x = none ∧ dStep n mo ro wo f g y = none) ∨ ∃ d d', dStep n mo ro wo f g x = some d ∧ dStep n mo ro wo f g y = some d' ∧ DE n d d' := by
  have e := DE_num h wo
  have figs : ∀ v : Int32, ∀ w, w < n → fil (fun w => figF (wo w) (ro w) v) x.1 n w = fil (fun w => figF (wo w) (ro w) v) y.1 n w := fun v w hw => by rw [fil_in hw, fil_in hw]
  unfold dStep
  by_cases a : g = 0
  · rw [if_pos a, if_pos a]
    unfold dSum
    rw [e]
    by_cases c : canP n mo (numF y.1 wo n) f
    · rw [if_pos c, if_pos c]
      exact Or.inr ⟨_, _, rfl, rfl, figs _, by rw [h.2]⟩
    · rw [if_neg c, if_neg c]; exact Or.inl ⟨rfl, rfl⟩
  · rw [if_neg a, if_neg a]
    by_cases b : g = 1
    · rw [if_pos b, if_pos b]
      unfold dTak
      rw [e]
      by_cases c : takP n (numF y.1 wo n) f
      · rw [if_pos c, if_pos c]
        exact Or.inr ⟨_, _, rfl, rfl, figs _, by rw [h.2]⟩
      · rw [if_neg c, if_neg c]; exact Or.inl ⟨rfl, rfl⟩
    · rw [if_neg b, if_neg b]
      unfold dPsh
      by_cases c : hasP n f ∧ g - 10 ≤ ro (ix f)
      · rw [if_pos c, if_pos c]
        exact Or.inr ⟨_, _, rfl, rfl, upd_congr h.1 _ _, by show (x.2.1 + absI (g - 10 - x.1 (ix f)), x.2.2) = (y.2.1 + absI (g - 10 - y.1 (ix f)), y.2.2); rw [h.2, h.1 _ (ix_lt c.1 hn)]⟩
      · rw [if_neg c, if_neg c]; exact Or.inl ⟨rfl, rfl⟩
def RE (n : Nat) (x y : RS) : Prop := x.1 = y.1 ∧ DE n x.2.1 y.2.1 ∧ x.2.2 = y.2.2
theorem dRun_rel {n : Nat} (hn : n ≤ 6) {mo : Int32} {ro wo ce : Nat → Int32} {i : Nat} {pu pu' : Nat → Int32} (h : ∀ w, w < n → pu w = pu' w) : ∀ k, RE n (dRun n mo ro wo ce i pu k) (dRun n mo ro wo ce i pu' k)
  | 0 => ⟨rfl, ⟨h, rfl⟩, numF_congr h (fun _ _ => rfl)⟩
  | k + 1 => by
    have ih := dRun_rel hn (mo := mo) (ro := ro) (wo := wo) (ce := ce) (i := i) h k
    rw [dRun, dRun]
    generalize dRun n mo ro wo ce i pu k = x at ih ⊢
    generalize dRun n mo ro wo ce i pu' k = y at ih ⊢
    obtain ⟨i1, i2, i3⟩ := ih
    by_cases c : x.1 = -9
    · have c' : y.1 = -9 := i1 ▸ c
      rcases dStep_rel hn (mo := mo) (ro := ro) (wo := wo) (f := ce (i + 2 * k)) (g := ce (i + 2 * k + 1)) i2 with ⟨a, b⟩ | ⟨d, d', a, b, q⟩
      · rw [dNext_none c a, dNext_none c' b]
        exact ⟨rfl, i2, i3⟩
      · rw [dNext_some c a, dNext_some c' b]
        refine ⟨i1, q, ?_⟩
        show (if x.2.2 < numF d.1 wo n then numF d.1 wo n else x.2.2) = if y.2.2 < numF d'.1 wo n then numF d'.1 wo n else y.2.2
        rw [DE_num q, i3]
    · have c' : ¬ y.1 = -9 := fun z => c (i1.trans z)
      rw [dNext_stop c, dNext_stop c']
      exact ⟨i1, i2, i3⟩
theorem ofD_rel {n : Nat} (hn : n ≤ 6) {wo : Nat → Int32} {what : Int32} {x y : RS} (h : RE n x y) : ofD what x n wo = ofD what y n wo := by
  obtain ⟨h1, h2, h3⟩ := h
  unfold ofD
  rw [h1, h3, DE_num h2, h2.2]
  by_cases c : hasP n (what - 10)
  · rw [h2.1 _ (ix_lt c hn)]
  · rw [if_neg c, if_neg c]
theorem E_day {n : Nat} {mo : Int32} {kd mn pu ro wo kd' mn' pu' : Nat → Int32} (h : Iw n mo kd mn pu ro wo kd' mn' pu') {sheet lane i x what th la so : Int32} {ln : Nat} {ce : Nat → Int32} (h1 : th = thM so) (h2 : ¬ so = -9 → la = so) :
    spDay sheet lane i x what th la ln ce n kd mn pu = spDay sheet lane i x what (thM so) so ln ce n kd' mn' pu' := by
  have e1 : ∀ w, w < n → rmF kd mn w = rmF kd' mn' w := fun w hw => by show roomF _ _ = roomF _ _; rw [(h.km w hw).1, (h.km w hw).2]
  have e2 : ∀ w, w < n → woF kd mn w = woF kd' mn' w := fun w hw => woF_congr h.km w (by omega)
  have e3 : ∀ (what : Int32) (x : RS), ofD what x n (woF kd mn) = ofD what x n (woF kd' mn') := fun what x => by
    unfold ofD; rw [numF_congr (fun _ _ => rfl) e2]
  unfold spDay
  rw [rt_congr h1 h2, woF_congr h.km n (Nat.le_refl _), dRun_congr h.le e1 e2, e3, ofD_rel h.le (dRun_rel h.le h.pus _)]
/-! both sides: the frame -/
section FRM
variable {g kd mn pu : Nat → Int32}
theorem tS_ct : ∀ p, p ≤ 25 → (tS g kd mn pu p).1 = (p - 1) / 4
  | 0, _ => rfl
  | p + 1, hp => by
    have ih := tS_ct p (by omega)
    show gCt p (tS g kd mn pu p).1 = (p + 1 - 1) / 4
    rw [ih]
    unfold gCt
    rcases Nat.eq_zero_or_pos p with z | z
    · subst z; rfl
    · by_cases c : (p - 1) % 4 = 3
      · rw [if_pos (gPh_of z (by omega) c)]; omega
      · rw [if_neg (fun q => c (by rw [gPh_of z (by omega) rfl] at q; exact q))]; omega
theorem tS_at {p : Nat} (h0 : 0 < p) (hp : p ≤ 24) : (tS g kd mn pu (p + 1)).2 = (if (p - 1) % 4 = 1 then upd (tS g kd mn pu p).2.1 ((p - 1) / 4) (kdF (g p)) else (tS g kd mn pu p).2.1, if (p - 1) % 4 = 2 then upd (tS g kd mn pu p).2.2.1 ((p - 1) / 4) (g p - 48) else (tS g kd mn pu p).2.2.1, if (p - 1) % 4 = 3 then upd (tS g kd mn pu p).2.2.2 ((p - 1) / 4) (g p - 48) else (tS g kd mn pu p).2.2.2) := by
  have e := tS_ct (g := g) (kd := kd) (mn := mn) (pu := pu) p (by omega)
  have ph : gPh p ((p - 1) / 4) = (p - 1) % 4 := gPh_of h0 (by omega) rfl
  show (gKd p (tS g kd mn pu p).1 (g p) (tS g kd mn pu p).2.1, gMn p (tS g kd mn pu p).1 (g p) (tS g kd mn pu p).2.2.1, gPu p (tS g kd mn pu p).1 (g p) (tS g kd mn pu p).2.2.2) = _
  rw [e]
  unfold gKd gMn gPu
  rw [ph]
theorem tS_vals : ∀ p, p ≤ 25 → ∀ w, (4 * w + 2 < p → (tS g kd mn pu p).2.1 w = kdF (g (4 * w + 2))) ∧ (4 * w + 3 < p → (tS g kd mn pu p).2.2.1 w = g (4 * w + 3) - 48) ∧ (4 * w + 4 < p → (tS g kd mn pu p).2.2.2 w = g (4 * w + 4) - 48)
  | 0, _, w => ⟨fun h => by omega, fun h => by omega, fun h => by omega⟩
  | p + 1, hp, w => by
    rcases Nat.eq_zero_or_pos p with z | z
    · subst z; exact ⟨fun h => by omega, fun h => by omega, fun h => by omega⟩
    · obtain ⟨i1, i2, i3⟩ := tS_vals p (by omega) w
      rw [tS_at z (by omega)]
      refine ⟨fun h => ?_, fun h => ?_, fun h => ?_⟩
      · show (if (p - 1) % 4 = 1 then upd (tS g kd mn pu p).2.1 ((p - 1) / 4) (kdF (g p)) else (tS g kd mn pu p).2.1) w = _
        by_cases c : (p - 1) % 4 = 1
        · rw [if_pos c]
          by_cases e : w = (p - 1) / 4
          · rw [← e, pk_us, show p = 4 * w + 2 by omega]
          · rw [pk_un e]; exact i1 (by omega)
        · rw [if_neg c]; exact i1 (by omega)
      · show (if (p - 1) % 4 = 2 then upd (tS g kd mn pu p).2.2.1 ((p - 1) / 4) (g p - 48) else (tS g kd mn pu p).2.2.1) w = _
        by_cases c : (p - 1) % 4 = 2
        · rw [if_pos c]
          by_cases e : w = (p - 1) / 4
          · rw [← e, pk_us, show p = 4 * w + 3 by omega]
          · rw [pk_un e]; exact i2 (by omega)
        · rw [if_neg c]; exact i2 (by omega)
      · show (if (p - 1) % 4 = 3 then upd (tS g kd mn pu p).2.2.2 ((p - 1) / 4) (g p - 48) else (tS g kd mn pu p).2.2.2) w = _
        by_cases c : (p - 1) % 4 = 3
        · rw [if_pos c]
          by_cases e : w = (p - 1) / 4
          · rw [← e, pk_us, show p = 4 * w + 4 by omega]
          · rw [pk_un e]; exact i3 (by omega)
        · rw [if_neg c]; exact i3 (by omega)
theorem tOk_A {p : Nat} (hp : p ≤ 25) : tOk g kd mn pu p = okA g p := by
  have e := tS_ct (g := g) (kd := kd) (mn := mn) (pu := pu) p hp
  unfold tOk okA
  rw [e]
  refine decide_eq_decide.mpr ?_
  unfold gP gA
  rcases Nat.eq_zero_or_pos p with z | z
  · rw [if_pos z, if_pos z, z]
  · have hp0 : ¬ p = 0 := by omega
    rw [if_neg hp0, if_neg hp0]
    by_cases c : 25 ≤ p
    · rw [if_pos (show 6 ≤ (p - 1) / 4 by omega), if_pos c]
    · rw [if_neg (show ¬ 6 ≤ (p - 1) / 4 by omega), if_neg c]
      by_cases c0 : (p - 1) % 4 = 0
      · rw [if_pos c0, if_pos c0]
      · rw [if_neg c0, if_neg c0]
        by_cases c1 : (p - 1) % 4 = 1
        · rw [if_pos c1, if_pos c1]
        · rw [if_neg c1, if_neg c1]
          by_cases c2 : (p - 1) % 4 = 2
          · rw [if_pos c2, if_pos c2]
          · rw [if_neg c2, if_neg c2]
            obtain ⟨i1, i2, -⟩ := tS_vals (g := g) (kd := kd) (mn := mn) (pu := pu) p hp ((p - 1) / 4)
            rw [i1 (by omega), i2 (by omega), show 4 * ((p - 1) / 4) + 2 = p - 2 by omega, show 4 * ((p - 1) / 4) + 3 = p - 1 by omega]
theorem ff_congr {ok ok' : Nat → Bool} : ∀ {n : Nat}, (∀ q, q < n → ok q = ok' q) → ff ok n = ff ok' n
  | 0, _ => rfl
  | n + 1, h => by rw [ff, ff, ff_congr (fun q hq => h q (by omega)), h n (by omega)]
theorem ff_cut {ok : Nat → Bool} {m : Nat} (h : ok m = false) : ∀ n, m < n → ff ok n = ff ok (m + 1) ∧ ff ok (m + 1) ≤ m
  | 0, hn => by omega
  | n + 1, hn => by
    have h0 : ff ok (m + 1) ≤ m := by
      have := ff_le ok m
      rw [ff, h]
      split
      · omega
      · exact Nat.le_refl m
    refine ⟨?_, h0⟩
    rcases Nat.lt_or_ge m n with z | z
    · have ih := (ff_cut h n z).1
      rw [ff, ih, if_pos (by omega)]
    · rw [show n = m by omega]
theorem ff_A (n : Nat) : ff (tOk g kd mn pu) n = ff (okA g) n := by
  rcases Nat.lt_or_ge 25 n with z | z
  · have a1 : tOk g kd mn pu 25 = false := by rw [tOk_A (Nat.le_refl 25)]; exact okA_25
    rw [(ff_cut a1 n z).1, (ff_cut (okA_25 (g := g)) n z).1]
    exact ff_congr (fun q hq => tOk_A (by omega))
  · exact ff_congr (fun q hq => tOk_A (by omega))
theorem ff_full {n : Nat} (h : ¬ ff (okA g) n < n) : n ≤ 25 := by
  rcases Nat.lt_or_ge 25 n with z | z
  · have := ff_cut (okA_25 (g := g)) n z
    omega
  · exact z
theorem tRes_A (n : Nat) : tRes g kd mn pu n = tResA g n := by
  unfold tRes tResA
  rw [ff_A]
  by_cases c : ff (okA g) n < n
  · rw [if_pos c, if_pos c]
  · rw [if_neg c, if_neg c, tS_ct n (ff_full c)]
theorem tResA_yes {n : Nat} (hn : n < 2 ^ 31) (h : tResA g n = -9) : ff (okA g) n = n ∧ n ≤ 25 ∧ tVal n ((n - 1) / 4) := by
  unfold tResA at h
  have hl := ff_le (okA g) n
  by_cases c : ff (okA g) n < n
  · rw [if_pos c] at h; exact absurd h (nI_n9 (by omega))
  · rw [if_neg c] at h
    by_cases d : tVal n ((n - 1) / 4)
    · exact ⟨by omega, ff_full c, d⟩
    · rw [if_neg d] at h; exact absurd h (nI_n9 hn)
theorem ff_ok {ok : Nat → Bool} : ∀ {n : Nat}, ff ok n = n → ∀ q, q < n → ok q = true
  | 0, _, q, hq => by omega
  | n + 1, h, q, hq => by
    have hl := ff_le ok n
    rw [ff] at h
    split at h
    · omega
    · rename_i c
      split at h
      · rename_i d
        rcases Nat.lt_or_ge q n with z | z
        · exact ff_ok (by omega) q z
        · rw [show q = n by omega]; exact d
      · omega
end FRM
theorem E_frV {ce kd mn pu : Nat → Int32} {i n : Int32} : frV ce i n kd mn pu = tResA (frG ce i) (ix n) := tRes_A _
theorem ix_lt31 (x : Int32) : ix x < 2 ^ 31 := by
  have h := fb_rng x
  by_cases c : x < 0
  · have := Int32.lt_iff_toInt_lt.mp c
    rw [Int32.toInt_zero] at this
    show x.toInt.toNat < _
    omega
  · obtain ⟨j, h1, h2⟩ := nI_of c
    rw [h2, ix_nI h1]; exact h1
theorem E_frT {ce kd mn pu : Nat → Int32} {i n : Int32} (h : tResA (frG ce i) (ix n) = -9) : frT ce i n kd mn pu = tS (frG ce i) kd mn pu (ix n) ∧ (frT ce i n kd mn pu).1 = (ix n - 1) / 4 := by
  obtain ⟨h1, h2, h3⟩ := tResA_yes (ix_lt31 n) h
  have e : frT ce i n kd mn pu = tS (frG ce i) kd mn pu (ix n) := by
    unfold frT tN
    rw [ff_A, h1, if_neg (Nat.lt_irrefl _)]
  exact ⟨e, by rw [e, tS_ct _ h2]⟩
theorem dig0 {c r : Int32} (hr : ∃ q : Nat, 1 ≤ q ∧ q ≤ 18 ∧ r = nI q) (h1 : ¬ c < 48) (h2 : ¬ 57 < c) : -18 ≤ (c - 48).toInt ∧ (c - 48).toInt ≤ 18 := by
  have g1 := Int32.le_iff_toInt_le.mp (Int32.not_lt.mp h1)
  have g2 := Int32.le_iff_toInt_le.mp (Int32.not_lt.mp h2)
  have e1 : (48 : Int32).toInt = 48 := rfl
  have e2 : (57 : Int32).toInt = 57 := rfl
  rw [e1] at g1
  rw [e2] at g2
  rw [fb_subI (by rw [e1]; omega) (by rw [e1]; omega), e1]
  omega
/-- the new frame on both sides -/
theorem I_new {ce kd3 mn3 pu3 ro wo kd' mn' pu' : Nat → Int32} {i x : Int32} (h : tResA (frG ce i) (ix x) = -9) :
    Iw ((ix x - 1) / 4) (woF (frT ce i x kd3 mn3 pu3).2.1 (frT ce i x kd3 mn3 pu3).2.2.1 (frT ce i x kd3 mn3 pu3).1 - 1) (frT ce i x kd3 mn3 pu3).2.1 (frT ce i x kd3 mn3 pu3).2.2.1 (frT ce i x kd3 mn3 pu3).2.2.2
      (fil (rmF (frT ce i x kd3 mn3 pu3).2.1 (frT ce i x kd3 mn3 pu3).2.2.1) ro (frT ce i x kd3 mn3 pu3).1) (fil (woF (frT ce i x kd3 mn3 pu3).2.1 (frT ce i x kd3 mn3 pu3).2.2.1) wo (frT ce i x kd3 mn3 pu3).1)
      (fil (fun w => kdF ((frG ce i) (4 * w + 2))) kd' ((ix x - 1) / 4)) (fil (fun w => (frG ce i) (4 * w + 3) - 48) mn' ((ix x - 1) / 4)) (fil (fun w => (frG ce i) (4 * w + 4) - 48) pu' ((ix x - 1) / 4)) := by
  obtain ⟨h1, h2, h3⟩ := tResA_yes (ix_lt31 x) h
  obtain ⟨e, e1⟩ := E_frT (kd := kd3) (mn := mn3) (pu := pu3) h
  rw [e1]
  rw [e]
  have hok := ff_ok h1
  have hk : ix x = 1 + 4 * ((ix x - 1) / 4) := by have := h3.1; have := h3.2.1; omega
  have hv := tS_vals (g := frG ce i) (kd := kd3) (mn := mn3) (pu := pu3) (ix x) h2
  generalize frG ce i = g at *
  generalize (ix x - 1) / 4 = K at *
  have hK6 : K ≤ 6 := by omega
  have vals : ∀ w, w < K → (tS g kd3 mn3 pu3 (ix x)).2.1 w = fil (fun w => kdF (g (4 * w + 2))) kd' K w ∧ (tS g kd3 mn3 pu3 (ix x)).2.2.1 w = fil (fun w => g (4 * w + 3) - 48) mn' K w ∧ (tS g kd3 mn3 pu3 (ix x)).2.2.2 w = fil (fun w => g (4 * w + 4) - 48) pu' K w := fun w hw => by
    obtain ⟨a, b, c⟩ := hv w
    rw [fil_in hw, fil_in hw, fil_in hw]
    exact ⟨a (by omega), b (by omega), c (by omega)⟩
  have wk : ∀ w, w < K → ¬ kdF (g (4 * w + 2)) = -9 ∧ (¬ g (4 * w + 3) < 49 ∧ ¬ 57 < g (4 * w + 3)) ∧ ¬ g (4 * w + 4) < 48 ∧ ¬ 57 < g (4 * w + 4) := fun w hw => by
    have a := (okA_1 (g := g) (k := w) (by omega)).mp (hok _ (by omega))
    have b := (okA_2 (g := g) (k := w) (by omega)).mp (hok _ (by omega))
    have c := (okA_3 (g := g) (k := w) (by omega)).mp (hok _ (by omega))
    rw [show 1 + 4 * w + 1 = 4 * w + 2 by omega] at a
    rw [show 1 + 4 * w + 1 + 1 = 4 * w + 3 by omega] at b
    rw [show 1 + 4 * w + 1 + 2 = 4 * w + 4 by omega] at c
    exact ⟨a, b, c.1, c.2.1⟩
  have hFR : FR K (fil (fun w => kdF (g (4 * w + 2))) kd' K) (fil (fun w => g (4 * w + 3) - 48) mn' K) := by
    refine ⟨hK6, fun w hw => ?_⟩
    rw [fil_in hw, fil_in hw]
    obtain ⟨a, b, c⟩ := wk w hw
    exact ⟨kdF_3 a, dig_nat b.1 b.2⟩
  have km : ∀ w, w < K → (tS g kd3 mn3 pu3 (ix x)).2.1 w = fil (fun w => kdF (g (4 * w + 2))) kd' K w ∧ (tS g kd3 mn3 pu3 (ix x)).2.2.1 w = fil (fun w => g (4 * w + 3) - 48) mn' K w := fun w hw => ⟨(vals w hw).1, (vals w hw).2.1⟩
  refine ⟨hFR, fun w hw => ?_, fun _ => ?_, fun w hw => ⟨(vals w hw).1, (vals w hw).2.1, (vals w hw).2.2, ?_, ?_⟩⟩
  · rw [fil_in hw]
    exact dig0 ⟨1, by decide, by decide, rfl⟩ (wk w hw).2.2.1 (wk w hw).2.2.2
  · rw [woF_congr km K (Nat.le_refl _)]
  · rw [fil_in hw]
    show roomF _ _ = roomF _ _
    rw [(km w hw).1, (km w hw).2]
  · rw [fil_in hw, woF_congr km w (by omega)]
/-! both sides: sheets -/
def updN (f : Nat → Nat) (k x : Nat) : Nat → Nat := fun j => if j = k then x else f j
section SHE
variable {th la so sg : Nat → Int32} {ln : Nat → Nat}
theorem thM_la {lane : Int32} (h : laP lane) : thM lane = 1 := if_neg (fun z => h.1 (by rw [z]; decide))
theorem I_sheet (h : Is th la ln so sg) {j : Nat} (hj : j < 4) (k lane x : Int32) : Is (upd th j (if shOk k lane x then 1 else th j)) (upd la j (if shOk k lane x then lane else la j)) (updN ln j (if shOk k lane x then ix x else ln j)) (if shOk k lane x then upd so j lane else so) (if shOk k lane x then upd sg j x else sg) := by
  intro i hi
  by_cases q : shOk k lane x
  · rw [if_pos q, if_pos q, if_pos q, if_pos q, if_pos q]
    by_cases e : i = j
    · subst e
      obtain ⟨y, y1, y2⟩ := le_nat (n := 60) (M := 60) rfl q.2.2.2 q.2.2.1
      have ey : ix x = y := by rw [y2]; exact ix_nI (by omega)
      rw [pk_us, pk_us, pk_us, pk_us]
      refine ⟨(thM_la q.2.1).symm, fun _ => rfl, ?_, ?_⟩
      · show x = nI (if i = i then ix x else ln i)
        rw [if_pos rfl, ey]; exact y2
      · show (if i = i then ix x else ln i) ≤ 60
        rw [if_pos rfl, ey]; exact y1
    · rw [pk_un e, pk_un e, pk_un e, pk_un e]
      show _ ∧ _ ∧ sg i = nI (if i = j then ix x else ln i) ∧ (if i = j then ix x else ln i) ≤ 60
      rw [if_neg e]; exact h i hi
  · rw [if_neg q, if_neg q, if_neg q, if_neg q, if_neg q]
    have e1 : ∀ f : Nat → Int32, upd f j (f j) = f := fun f => upd_self f j
    have e2 : updN ln j (ln j) i = ln i := by
      unfold updN
      by_cases e : i = j
      · rw [if_pos e, e]
      · rw [if_neg e]
    rw [e1, e1, e2]
    exact h i hi
theorem I_lose (h : Is th la ln so sg) {j : Nat} (hj : j < 4) (k : Int32) : Is (upd th j (if shP k then 0 else th j)) la ln (if shP k then upd so j (-9) else so) sg := by
  intro i hi
  by_cases q : shP k
  · rw [if_pos q, if_pos q]
    by_cases e : i = j
    · subst e
      rw [pk_us, pk_us]
      exact ⟨rfl, fun z => absurd rfl z, (h i hi).2.2⟩
    · rw [pk_un e, pk_un e]; exact h i hi
  · rw [if_neg q, if_neg q, upd_self]; exact h i hi
end SHE
theorem C_sheetS {cc : Nat → Int32} {j : Nat} {k lane x : Int32} : ∀ q, q < 60 → (if shOk k lane x then (fun _ => 0) else (fun q => cc (60 * j + q))) q = (fun q => (if shOk k lane x then zerK cc j 60 else cc) (60 * j + q)) q := by
  intro q hq
  show _ = (if shOk k lane x then zerK cc j 60 else cc) (60 * j + q)
  by_cases c : shOk k lane x
  · rw [if_pos c, if_pos c]; unfold zerK; rw [if_pos (by omega)]
  · rw [if_neg c, if_neg c]
theorem C_sheetO {cc : Nat → Int32} {j i : Nat} (hij : i ≠ j) {k lane x : Int32} : ∀ q, q < 60 → (fun q => cc (60 * i + q)) q = (fun q => (if shOk k lane x then zerK cc j 60 else cc) (60 * i + q)) q := by
  intro q hq
  show cc (60 * i + q) = (if shOk k lane x then zerK cc j 60 else cc) (60 * i + q)
  by_cases c : shOk k lane x
  · rw [if_pos c]; unfold zerK; rw [if_neg (by omega)]
  · rw [if_neg c]
theorem pu_th {k i th so : Int32} {ln : Nat} (h : th = thM so) (c : puOk k i th ln) : ¬ so = -9 := fun z => c.2.1 (by rw [h]; exact if_pos z)
theorem C_putS {cc : Nat → Int32} {j : Nat} {k i th la so v : Int32} {ln : Nat} (h1 : th = thM so) (h2 : ¬ so = -9 → la = so) : ∀ q, q < 60 → (if puOk k i th ln then upd (fun q => cc (60 * j + q)) (ix i) (cutF la v) else (fun q => cc (60 * j + q))) q = (fun q => (if puOk k i (thM so) ln then upd cc (60 * j + ix i) (cutF so v) else cc) (60 * j + q)) q := by
  intro q hq
  show _ = (if puOk k i (thM so) ln then upd cc (60 * j + ix i) (cutF so v) else cc) (60 * j + q)
  by_cases c : puOk k i th ln
  · have e := h2 (pu_th h1 c)
    rw [if_pos c, if_pos (h1 ▸ c), e]
    by_cases z : q = ix i
    · rw [z, pk_us, pk_us]
    · rw [pk_un z, pk_un (by omega)]
  · rw [if_neg c, if_neg (fun z => c (h1.symm ▸ z))]
theorem C_putO {cc : Nat → Int32} {j i' : Nat} (hij : i' ≠ j) {k i so v : Int32} {ln : Nat} (h60 : ln ≤ 60) : ∀ q, q < 60 → (fun q => cc (60 * i' + q)) q = (fun q => (if puOk k i (thM so) ln then upd cc (60 * j + ix i) (cutF so v) else cc) (60 * i' + q)) q := by
  intro q hq
  show cc (60 * i' + q) = (if puOk k i (thM so) ln then upd cc (60 * j + ix i) (cutF so v) else cc) (60 * i' + q)
  by_cases c : puOk k i (thM so) ln
  · rw [if_pos c]
    obtain ⟨a, a1, a2⟩ := reach1 c.2.2 h60
    have : ix i = a := by rw [a1]; exact ix_nI (by omega)
    rw [pk_un (by omega)]
  · rw [if_neg c]
theorem E_cell {k i lane th la so : Int32} {ln : Nat} {ce : Nat → Int32} (h1 : th = thM so) (h2 : ¬ so = -9 → la = so) : spCell k i lane th la ln ce = spCell k i lane (thM so) so ln ce := by
  unfold spCell; rw [rt_congr h1 h2]
theorem E_copy {k i o j n tha laa thb lab sa sb : Int32} {lna lnb : Nat} (a1 : tha = thM sa) (a2 : ¬ sa = -9 → laa = sa) (b1 : thb = thM sb) (b2 : ¬ sb = -9 → lab = sb) : spCopy k i o j n tha laa thb lab lna lnb = spCopy k i o j n (thM sa) sa (thM sb) sb lna lnb := by
  subst a1; subst b1
  unfold spCopy
  by_cases q : sa = -9
  · have e : thM sa = 0 := if_pos q
    rw [if_pos e, if_pos e]
  · by_cases q2 : sb = -9
    · have e : thM sb = 0 := if_pos q2
      rw [if_pos e, if_pos e]
    · rw [a2 q, b2 q2]
theorem cp_iff {k i o j n tha laa thb lab sa sb : Int32} {lna lnb : Nat} (a1 : tha = thM sa) (a2 : ¬ sa = -9 → laa = sa) (b1 : thb = thM sb) (b2 : ¬ sb = -9 → lab = sb) : cpOk k i o j n tha laa thb lab lna lnb ↔ cpOk k i o j n (thM sa) sa (thM sb) sb lna lnb := by
  subst a1; subst b1
  have n1 : ¬ thM sa = 0 → ¬ sa = -9 := fun h z => h (if_pos z)
  have n2 : ¬ thM sb = 0 → ¬ sb = -9 := fun h z => h (if_pos z)
  constructor
  · rintro ⟨c1, c2, c3, c4, c5, c6⟩
    exact ⟨c1, c2, c3, c4, by rw [← a2 (n1 c3), ← b2 (n2 c4)]; exact c5, c6⟩
  · rintro ⟨c1, c2, c3, c4, c5, c6⟩
    exact ⟨c1, c2, c3, c4, by rw [a2 (n1 c3), b2 (n2 c4)]; exact c5, c6⟩
/-- the copied cells: the sheet that gets them -/
theorem C_copyT {cc : Nat → Int32} {j j2 : Nat} {k i o x n tha laa thb lab sa sb : Int32} {lna lnb : Nat} (a1 : tha = thM sa) (a2 : ¬ sa = -9 → laa = sa) (b1 : thb = thM sb) (b2 : ¬ sb = -9 → lab = sb) : ∀ q, q < 60 → (if cpOk k i o x n tha laa thb lab lna lnb then va_cpy (fun q => cc (60 * j + q)) (fun q => cc (60 * j2 + q)) (ix i) (ix x) (ix n) else (fun q => cc (60 * j2 + q))) q = (fun q => (if cpOk k i o x n (thM sa) sa (thM sb) sb lna lnb then va_cpy cc cc (60 * j + ix i) (60 * j2 + ix x) (ix n) else cc) (60 * j2 + q)) q := by
  intro q hq
  show _ = (if cpOk k i o x n (thM sa) sa (thM sb) sb lna lnb then va_cpy cc cc (60 * j + ix i) (60 * j2 + ix x) (ix n) else cc) (60 * j2 + q)
  have e := cp_iff (k := k) (i := i) (o := o) (j := x) (n := n) (lna := lna) (lnb := lnb) a1 a2 b1 b2
  by_cases c : cpOk k i o x n tha laa thb lab lna lnb
  · rw [if_pos c, if_pos (e.mp c)]
    by_cases z : ix x ≤ q ∧ q < ix x + ix n
    · rw [pk_cpy_in z.1 z.2, pk_cpy_in (by omega) (by omega)]
      show cc _ = cc _
      rw [show 60 * j + ix i + (60 * j2 + q - (60 * j2 + ix x)) = 60 * j + (ix i + (q - ix x)) by omega]
    · rw [pk_cpy_out (by omega), pk_cpy_out (by omega)]
  · rw [if_neg c, if_neg (fun z => c (e.mpr z))]
/-- the copied cells: the other sheets -/
theorem C_copyO {cc : Nat → Int32} {j j2 i' : Nat} (hij : i' ≠ j2) {k i o x n sa sb : Int32} {lna lnb : Nat} (h60 : lnb ≤ 60) : ∀ q, q < 60 → (fun q => cc (60 * i' + q)) q = (fun q => (if cpOk k i o x n (thM sa) sa (thM sb) sb lna lnb then va_cpy cc cc (60 * j + ix i) (60 * j2 + ix x) (ix n) else cc) (60 * i' + q)) q := by
  intro q hq
  show cc (60 * i' + q) = (if cpOk k i o x n (thM sa) sa (thM sb) sb lna lnb then va_cpy cc cc (60 * j + ix i) (60 * j2 + ix x) (ix n) else cc) (60 * i' + q)
  by_cases c : cpOk k i o x n (thM sa) sa (thM sb) sb lna lnb
  · rw [if_pos c]
    obtain ⟨a, b, r1, r2, r3⟩ := reach_nat c.2.2.2.2.2.2 h60
    have e1 : ix x = a := by rw [r1]; exact ix_nI (by omega)
    have e2 : ix n = b := by rw [r2]; exact ix_nI (by omega)
    rw [pk_cpy_out (by omega)]
  · rw [if_neg c]
