/-! both sides: the wires, the readings, the sheets -/
def Iw (n : Nat) (mo : Int32) (kd mn pu ro wo kd' mn' pu' : Nat → Int32) : Prop := FR n kd' mn' ∧ PB n pu' ∧ (0 < n → mo = woF kd' mn' n - 1) ∧ ∀ w, w < n → kd w = kd' w ∧ mn w = mn' w ∧ pu w = pu' w ∧ ro w = rmF kd' mn' w ∧ wo w = woF kd' mn' w
def Ir (n rc : Nat) (rw : Nat → Int32) : Prop := rc ≤ 8 ∧ rwP n rw rc
def Is (th la : Nat → Int32) (ln : Nat → Nat) (so sg : Nat → Int32) : Prop := ∀ j, j < 4 → th j = thM (so j) ∧ (¬ so j = -9 → la j = so j) ∧ sg j = nI (ln j) ∧ ln j ≤ 60
theorem woF_congr {kd mn kd' mn' : Nat → Int32} {n : Nat} (h : ∀ w, w < n → kd w = kd' w ∧ mn w = mn' w) : ∀ w, w ≤ n → woF kd mn w = woF kd' mn' w
  | 0, _ => rfl
  | w + 1, hw => by
    rw [woF, woF, woF_congr h w (by omega), (h w (by omega)).1, (h w (by omega)).2]
theorem FR_congr {kd mn kd' mn' : Nat → Int32} {n : Nat} (h : ∀ w, w < n → kd w = kd' w ∧ mn w = mn' w) (hF : FR n kd' mn') : FR n kd mn := by
  refine ⟨hF.1, fun w hw => ?_⟩
  rw [(h w hw).1, (h w hw).2]
  exact hF.2 w hw
theorem rt_congr {sheet lane i cells rest th la so : Int32} {ln : Nat} (h1 : th = thM so) (h2 : ¬ so = -9 → la = so) : rtK sheet lane i cells rest th la ln = rtK sheet lane i cells rest (thM so) so ln := by
  subst h1
  by_cases q : so = -9
  · have e : thM so = 0 := if_pos q
    unfold rtK
    rw [if_pos e, if_pos e]
  · rw [h2 q]
section IW
variable {n : Nat} {mo : Int32} {kd mn pu ro wo kd' mn' pu' : Nat → Int32}
theorem Iw.le (h : Iw n mo kd mn pu ro wo kd' mn' pu') : n ≤ 6 := h.1.1
theorem Iw.km (h : Iw n mo kd mn pu ro wo kd' mn' pu') : ∀ w, w < n → kd w = kd' w ∧ mn w = mn' w := fun w hw => ⟨(h.2.2.2 w hw).1, (h.2.2.2 w hw).2.1⟩
theorem Iw.fr (h : Iw n mo kd mn pu ro wo kd' mn' pu') : FR n kd mn := FR_congr h.km h.1
theorem Iw.pus (h : Iw n mo kd mn pu ro wo kd' mn' pu') : ∀ w, w < n → pu w = pu' w := fun w hw => (h.2.2.2 w hw).2.2.1
theorem Iw.ros (h : Iw n mo kd mn pu ro wo kd' mn' pu') : ∀ w, w < n → ro w = rmF kd' mn' w := fun w hw => (h.2.2.2 w hw).2.2.2.1
theorem Iw.wos (h : Iw n mo kd mn pu ro wo kd' mn' pu') : ∀ w, w < n → wo w = woF kd' mn' w := fun w hw => (h.2.2.2 w hw).2.2.2.2
theorem Iw.wg (h : Iw n mo kd mn pu ro wo kd' mn' pu') : WG n ro wo := h.1.WG h.ros h.wos
theorem Iw.num (h : Iw n mo kd mn pu ro wo kd' mn' pu') : numF pu wo n = numF pu' (woF kd' mn') n := numF_congr h.pus h.wos
theorem Iw.sum (h : Iw n mo kd mn pu ro wo kd' mn' pu') : sumF pu n = sumF pu' n := sumF_congr h.pus
theorem Iw.sl (h : Iw n mo kd mn pu ro wo kd' mn' pu') (a b : Int32) : slF ro wo a b n = slF (rmF kd' mn') (woF kd' mn') a b n := slF_congr a b h.ros h.wos
theorem Iw.cy (h : Iw n mo kd mn pu ro wo kd' mn' pu') (a b : Int32) : cyF ro wo a b n = cyF (rmF kd' mn') (woF kd' mn') a b n := cyF_congr a b h.ros h.wos
theorem Iw.can (h : Iw n mo kd mn pu ro wo kd' mn' pu') (v : Int32) : canP n mo (numF pu wo n) v ↔ canP n (woF kd' mn' n - 1) (numF pu' (woF kd' mn') n) v := by
  rw [h.num]
  constructor
  · rintro ⟨a, b⟩; rw [h.2.2.1 a] at b; exact ⟨a, b⟩
  · rintro ⟨a, b⟩; rw [← h.2.2.1 a] at b; exact ⟨a, b⟩
theorem Iw.put (h : Iw n mo kd mn pu ro wo kd' mn' pu') {P P' : Nat → Int32} (e : ∀ w, w < n → P w = P' w) (b : PB n P') : Iw n mo kd mn P ro wo kd' mn' P' :=
  ⟨h.1, b, h.2.2.1, fun w hw => ⟨(h.2.2.2 w hw).1, (h.2.2.2 w hw).2.1, e w hw, (h.2.2.2 w hw).2.2.2⟩⟩
theorem Iw.figs (h : Iw n mo kd mn pu ro wo kd' mn' pu') (v : Int32) : ∀ w, w < n → fil (fun w => figF (wo w) (ro w) v) pu n w = fil (fun w => figF (woF kd' mn' w) (rmF kd' mn' w) v) pu' n w := fun w hw => by
  rw [fil_in hw, fil_in hw, h.ros w hw, h.wos w hw]
theorem E_ofWire (h : Iw n mo kd mn pu ro wo kd' mn' pu') (w what : Int32) : spOfWire n kd mn pu ro wo w what = spOfWire n kd' mn' pu' (rmF kd' mn') (woF kd' mn') w what := by
  unfold spOfWire
  by_cases q : hasP n w
  · obtain ⟨e1, e2, e3, e4, e5⟩ := h.2.2.2 (ix w) (ix_lt q h.le)
    rw [e1, e2, e3, e4, e5]
  · rw [if_pos q, if_pos q]
theorem E_number (h : Iw n mo kd mn pu ro wo kd' mn' pu') (what : Int32) : spNumber n mo pu wo what = spNumber n (woF kd' mn' n - 1) pu' (woF kd' mn') what := by
  unfold spNumber
  by_cases q : n = 0
  · rw [if_pos q, if_pos q]
  · rw [h.num, h.sum, h.2.2.1 (by omega)]
theorem E_figure (h : Iw n mo kd mn pu ro wo kd' mn' pu') (w v : Int32) : spFigure n mo ro wo w v = spFigure n (woF kd' mn' n - 1) (rmF kd' mn') (woF kd' mn') w v := by
  unfold spFigure
  by_cases q : hasP n w
  · have hj := ix_lt q h.le
    rw [h.ros _ hj, h.wos _ hj, h.2.2.1 (by omega)]
  · rw [if_pos q, if_pos q]
theorem E_slide (h : Iw n mo kd mn pu ro wo kd' mn' pu') (w v : Int32) : spSlide n pu ro w v = spSlide n pu' (rmF kd' mn') w v := by
  unfold spSlide
  by_cases q : hasP n w
  · have hj := ix_lt q h.le
    rw [h.ros _ hj, h.pus _ hj]
  · rw [if_pos q, if_pos q]
theorem I_slide (h : Iw n mo kd mn pu ro wo kd' mn' pu') (w v : Int32) : Iw n mo kd mn (spSlideP n pu ro w v) ro wo kd' mn' (spSlideP n pu' (rmF kd' mn') w v) := by
  unfold spSlideP
  by_cases q : hasP n w
  · have hj := ix_lt q h.le
    rw [if_neg (not_not_intro q), if_neg (not_not_intro q)]
    by_cases q2 : v < 0
    · rw [if_pos q2, if_pos q2]; exact h
    · rw [if_neg q2, if_neg q2, h.ros _ hj]
      by_cases q3 : v ≤ rmF kd' mn' (ix w)
      · rw [if_neg (not_not_intro q3), if_neg (not_not_intro q3)]
        refine h.put (fun x hx => ?_) (fun x hx => ?_)
        · by_cases e : x = ix w
          · rw [e, pk_us, pk_us]
          · rw [pk_un e, pk_un e]; exact h.pus x hx
        · by_cases e : x = ix w
          · rw [e, pk_us]
            obtain ⟨r, r1, r2, r3⟩ := h.1.room hj
            have q3 : v ≤ roomF (kd' (ix w)) (mn' (ix w)) := q3
            rw [r3] at q3
            have a1 := Int32.le_iff_toInt_le.mp q3
            have a2 := Int32.le_iff_toInt_le.mp (Int32.not_lt.mp q2)
            rw [nI_toInt (by omega)] at a1
            rw [Int32.toInt_zero] at a2
            omega
          · rw [pk_un e]; exact h.2.1 x hx
      · rw [if_pos q3, if_pos q3]; exact h
  · rw [if_pos q, if_pos q]; exact h
theorem E_add (h : Iw n mo kd mn pu ro wo kd' mn' pu') (v : Int32) : spAdd n mo pu ro wo v = spAdd n (woF kd' mn' n - 1) pu' (rmF kd' mn') (woF kd' mn') v := by
  unfold spAdd
  by_cases q : v < 0
  · rw [if_pos q, if_pos q]
  · rw [if_neg q, if_neg q]
    by_cases c : canP n mo (numF pu wo n) v
    · rw [if_neg (not_not_intro c), if_neg (not_not_intro ((h.can v).mp c)), h.num, h.sl]
    · rw [if_pos c, if_pos (fun z => c ((h.can v).mpr z))]
theorem I_add (h : Iw n mo kd mn pu ro wo kd' mn' pu') (v : Int32) : Iw n mo kd mn (spAddP n mo pu ro wo v) ro wo kd' mn' (spAddP n (woF kd' mn' n - 1) pu' (rmF kd' mn') (woF kd' mn') v) := by
  unfold spAddP
  by_cases q : v < 0
  · rw [if_pos q, if_pos q]; exact h
  · rw [if_neg q, if_neg q]
    by_cases c : canP n mo (numF pu wo n) v
    · rw [if_neg (not_not_intro c), if_neg (not_not_intro ((h.can v).mp c)), h.num]
      exact h.put (h.figs _) (figs_PB h.1 _ _ _)
    · rw [if_pos c, if_pos (fun z => c ((h.can v).mpr z))]; exact h
theorem E_take (h : Iw n mo kd mn pu ro wo kd' mn' pu') (v : Int32) : spTake n pu ro wo v = spTake n pu' (rmF kd' mn') (woF kd' mn') v := by
  unfold spTake
  rw [h.num, h.sl]
theorem I_take (h : Iw n mo kd mn pu ro wo kd' mn' pu') (v : Int32) : Iw n mo kd mn (spTakeP n pu ro wo v) ro wo kd' mn' (spTakeP n pu' (rmF kd' mn') (woF kd' mn') v) := by
  unfold spTakeP
  rw [h.num]
  by_cases q : v < 0
  · rw [if_pos q, if_pos q]; exact h
  · rw [if_neg q, if_neg q]
    by_cases c : takP n (numF pu' (woF kd' mn') n) v
    · rw [if_neg (not_not_intro c), if_neg (not_not_intro c)]
      exact h.put (h.figs _) (figs_PB h.1 _ _ _)
    · rw [if_pos c, if_pos c]; exact h
theorem E_work (h : Iw n mo kd mn pu ro wo kd' mn' pu') (v what : Int32) : spWork n mo pu ro wo v what = spWork n (woF kd' mn' n - 1) pu' (rmF kd' mn') (woF kd' mn') v what := by
  unfold spWork
  by_cases c : canP n mo (numF pu wo n) v
  · rw [if_neg (not_not_intro c), if_neg (not_not_intro ((h.can v).mp c)), h.num, h.sl, h.cy]
  · rw [if_pos c, if_pos (fun z => c ((h.can v).mpr z))]
theorem xrF_congr {f f' : Nat → Int32} : ∀ {k : Nat}, (∀ w, w < k → f w = f' w) → xrF f k = xrF f' k
  | 0, _ => rfl
  | k + 1, h => by rw [xrF, xrF, xrF_congr (fun w hw => h w (by omega)), h k (by omega)]
theorem tuF_congr {f f' : Nat → Int32} (b : Int32) : ∀ {k : Nat}, (∀ w, w < k → f w = f' w) → tuF f b k = tuF f' b k
  | 0, _ => rfl
  | k + 1, h => by rw [tuF, tuF, tuF_congr b (fun w hw => h w (by omega)), h k (by omega)]
theorem tuF_lt {f : Nat → Int32} {b : Int32} : ∀ {k w : Nat}, tuF f b k = some w → w < k
  | 0, w, h => by cases h
  | k + 1, w, h => by
    simp only [tuF] at h
    cases e : tuF f b k with
    | some x => rw [e] at h; cases h; exact Nat.lt_succ_of_lt (tuF_lt e)
    | none =>
      rw [e] at h
      simp only at h
      split at h
      · cases h; exact Nat.lt_succ_self _
      · cases h
theorem E_turn (h : Iw n mo kd mn pu ro wo kd' mn' pu') (what : Int32) : spTurn n pu what = spTurn n pu' what := by
  unfold spTurn
  rw [xrF_congr h.pus, tuF_congr _ h.pus]
  cases e : tuF pu' (xrF pu' n) n with
  | none => rfl
  | some w => simp only; rw [h.pus w (tuF_lt e)]
theorem E_tell (h : Iw n mo kd mn pu ro wo kd' mn' pu') (w : Int32) : spTell n kd mn w = spTell n kd' mn' w := by
  unfold spTell
  by_cases q : hasP n w
  · obtain ⟨e1, e2⟩ := h.km (ix w) (ix_lt q h.le)
    rw [e1, e2]
  · rw [if_pos q, if_pos q]
theorem E_tellT (h : Iw n mo kd mn pu ro wo kd' mn' pu') (w tr : Int32) : spTellT n kd w tr = spTellT n kd' w tr := by
  unfold spTellT
  by_cases q : hasP n w
  · rw [(h.km (ix w) (ix_lt q h.le)).1]
  · rw [if_pos q, if_pos q]
theorem E_feel (h : Iw n mo kd mn pu ro wo kd' mn' pu') (w : Int32) : spFeel n kd pu w = spFeel n kd' pu' w := by
  unfold spFeel
  by_cases q : hasP n w
  · have hj := ix_lt q h.le
    rw [(h.km _ hj).1, h.pus _ hj]
  · rw [if_pos q, if_pos q]
theorem E_feelT (h : Iw n mo kd mn pu ro wo kd' mn' pu') (w tr : Int32) : spFeelT n kd w tr = spFeelT n kd' w tr := by
  unfold spFeelT
  by_cases q : hasP n w
  · rw [(h.km (ix w) (ix_lt q h.le)).1]
  · rw [if_pos q, if_pos q]
theorem E_as (h : Iw n mo kd mn pu ro wo kd' mn' pu') (w k : Int32) : spAs n kd w k = spAs n kd' w k := by
  unfold spAs
  by_cases q : hasP n w
  · rw [(h.km (ix w) (ix_lt q h.le)).1]
  · rw [if_pos q, if_pos q]
theorem E_many (h : Iw n mo kd mn pu ro wo kd' mn' pu') (rc : Nat) (what : Int32) : spMany n rc mn what = spMany n rc mn' what := by
  unfold spMany
  rw [sumF_congr (fun w hw => (h.km w hw).2)]
theorem E_odds (h : Iw n mo kd mn pu ro wo kd' mn' pu') (x k : Int32) : spOdds n mo ro x k = odM n kd' mn' x k := spOdds_odM h.1 h.ros h.2.2.1
/-- how it stood -/
theorem cb_congr {kd mn kd' mn' pu pu' rs rw rf : Nat → Int32} {n rc : Nat} (hk : ∀ w, w < n → kd w = kd' w ∧ mn w = mn' w) (hp : ∀ w, w < n → pu w = pu' w) (hr : rwP n rw rc) : cbP n kd mn pu rs rw rf rc ↔ cbP n kd' mn' pu' rs rw rf rc := by
  have e1 : ∀ w, w < n → rmF kd mn w = rmF kd' mn' w := fun w hw => by show roomF _ _ = roomF _ _; rw [(hk w hw).1, (hk w hw).2]
  have e2 : ∀ w, w < n → woF kd mn w = woF kd' mn' w := fun w hw => woF_congr hk w (by omega)
  unfold cbP
  rw [soP_congr hr e1 e2, roomP_congr e1, woF_congr hk n (Nat.le_refl _), numF_congr hp e2]
  constructor
  · rintro ⟨a, b⟩; exact ⟨fun w hw => hp w hw ▸ a w hw, b⟩
  · rintro ⟨a, b⟩; exact ⟨fun w hw => (hp w hw).symm ▸ a w hw, b⟩
theorem upd_congr {f f' : Nat → Int32} {n : Nat} (h : ∀ w, w < n → f w = f' w) (j : Nat) (v : Int32) : ∀ w, w < n → upd f j v w = upd f' j v w := fun w hw => by
  by_cases e : w = j
  · rw [e, pk_us, pk_us]
  · rw [pk_un e, pk_un e]; exact h w hw
theorem mnS_congr {rs rw rf : Nat → Int32} {rc : Nat} (h : Iw n mo kd mn pu ro wo kd' mn' pu') (hr : rwP n rw rc) (j : Nat) : ∀ k, mnS n kd mn pu rs rw rf rc j k = mnS n kd' mn' pu' rs rw rf rc j k
  | 0 => rfl
  | k + 1 => by
    have e := cb_congr (rs := rs) (rf := rf) (kd := kd) (kd' := kd') (mn := upd mn j (nI (k + 1))) (mn' := upd mn' j (nI (k + 1))) (fun w hw => ⟨(h.km w hw).1, upd_congr (fun w hw => (h.km w hw).2) j _ w hw⟩) h.pus hr
    rw [mnS, mnS, mnS_congr h hr j k]
    by_cases q : cbP n kd (upd mn j (nI (k + 1))) pu rs rw rf rc
    · rw [if_pos q, if_pos (e.mp q)]
    · rw [if_neg q, if_neg (fun z => q (e.mpr z))]
theorem kdS_congr {rs rw rf : Nat → Int32} {rc : Nat} (h : Iw n mo kd mn pu ro wo kd' mn' pu') (hr : rwP n rw rc) (j : Nat) : ∀ k, kdS n kd mn pu rs rw rf rc j k = kdS n kd' mn' pu' rs rw rf rc j k
  | 0 => rfl
  | k + 1 => by
    have e := cb_congr (rs := rs) (rf := rf) (kd := upd kd j (nI k)) (kd' := upd kd' j (nI k)) (mn := mn) (mn' := mn') (fun w hw => ⟨upd_congr (fun w hw => (h.km w hw).1) j _ w hw, (h.km w hw).2⟩) h.pus hr
    rw [kdS, kdS, kdS_congr h hr j k]
    by_cases q : cbP n (upd kd j (nI k)) mn pu rs rw rf rc
    · rw [if_pos q, if_pos (e.mp q)]
    · rw [if_neg q, if_neg (fun z => q (e.mpr z))]
theorem E_mens {rs rw rf : Nat → Int32} {rc : Nat} (h : Iw n mo kd mn pu ro wo kd' mn' pu') (hr : rwP n rw rc) (w : Int32) : spMens n kd mn pu rs rw rf rc w = spMens n kd' mn' pu' rs rw rf rc w := by
  unfold spMens; rw [mnS_congr h hr]
theorem E_kinds {rs rw rf : Nat → Int32} {rc : Nat} (h : Iw n mo kd mn pu ro wo kd' mn' pu') (hr : rwP n rw rc) (w : Int32) : spKinds n kd mn pu rs rw rf rc w = spKinds n kd' mn' pu' rs rw rf rc w := by
  unfold spKinds; rw [kdS_congr h hr]
theorem I_reading {rw : Nat → Int32} {rc : Nat} (h6 : n ≤ 6) (h : Ir n rc rw) (v w fg : Int32) : Ir n (if rdOk n v w fg ∧ rc < 8 then rc + 1 else rc) (if rdOk n v w fg then upd rw rc w else rw) := by
  by_cases q : rdOk n v w fg
  · rw [if_pos q]
    have far : ∀ r, r < rc → ix (upd rw rc w r) < n ∧ upd rw rc w r = nI (ix (upd rw rc w r)) := fun r hr => by rw [pk_un (by omega)]; exact h.2 r hr
    by_cases q2 : rc < 8
    · rw [if_pos ⟨q, q2⟩]
      refine ⟨by omega, fun r hr => ?_⟩
      rcases Nat.lt_or_ge r rc with z | z
      · exact far r z
      · rw [show r = rc by omega, pk_us]
        obtain ⟨j, j1, j2⟩ := hasP_of q.1 h6
        rw [j2, ix_nI (by omega)]
        exact ⟨j1, rfl⟩
    · rw [if_neg (fun z => q2 z.2)]
      exact ⟨h.1, far⟩
  · rw [if_neg q, if_neg (fun z => q z.1)]; exact h
theorem I_back {rw : Nat → Int32} {rc : Nat} (h : Ir n rc rw) (x : Int32) : Ir n (spBackC rc x) rw := by
  have key : spBackC rc x ≤ rc := by
    unfold spBackC
    split
    · exact Nat.le_refl _
    · split
      · exact Nat.le_refl _
      · omega
  have := h.1
  exact ⟨by omega, fun r hr => h.2 r (by omega)⟩
end IW
/-! fewest does not hang on what its row held -/
theorem fwL_congr {fw fw' t : Nat → Int32} {to : Nat} (h31 : to < 2 ^ 31) (h : ∀ j, j < to → fw j = fw' j) : ∀ k, fwL fw t to k = fwL fw' t to k
  | 0 => rfl
  | k + 1 => by
    rw [fwL, fwL, fwL_congr h31 h k]
    by_cases q : ¬ t k ≤ 0 ∧ t k ≤ nI to
    · obtain ⟨y, y1, y2⟩ := le_nat (n := to) (M := nI to) (nI_toInt h31) (fun z => q.1 (Int32.le_of_lt z)) q.2
      have e : ix (t k) = y := by rw [y2]; exact ix_nI (by omega)
      have y0 : 0 < y := Nat.pos_of_ne_zero (fun z => q.1 (by rw [y2, z]; exact Int32.le_refl _))
      rw [e, h (to - y) (by omega)]
    · rw [if_neg (fun z => q ⟨z.1, z.2.1⟩), if_neg (fun z => q ⟨z.1, z.2.1⟩)]
theorem cT_congr (fw fw' t : Nat → Int32) (nn : Nat) : ∀ k, k < 2 ^ 30 → ∀ j, j ≤ k → cT fw t nn k j = cT fw' t nn k j
  | 0, _, j, hj => by
    have e : j = 0 := by omega
    subst e
    exact pk_us.trans pk_us.symm
  | k + 1, hk, j, hj => by
    rw [cT, cT]
    by_cases e : j = k + 1
    · subst e
      rw [pk_us, pk_us]
      exact fwL_congr (by omega) (fun j hj => cT_congr fw fw' t nn k (by omega) j (by omega)) nn
    · rw [pk_un e, pk_un e]
      exact cT_congr fw fw' t nn k (by omega) j (by omega)
theorem E_fewest {sheet lane i n d th la so : Int32} {ln : Nat} {ce fw fw' : Nat → Int32} (h1 : th = thM so) (h2 : ¬ so = -9 → la = so) : spFewest sheet lane i n d th la ln ce fw = spFewest sheet lane i n d (thM so) so ln ce fw' := by
  unfold spFewest
  rw [rt_congr h1 h2]
  by_cases c : rtK sheet lane i n (if feT n d then 1 else 0) (thM so) so ln = 0
  · rw [if_neg (not_not_intro c), if_neg (not_not_intro c)]
    have hT : feT n d := by
      have := (rtK_0 c).2.2.1
      by_cases q : feT n d
      · exact q
      · rw [if_neg q] at this; exact absurd rfl this
    obtain ⟨y, y1, y2⟩ := le_nat (n := 999) (M := 999) rfl hT.2.2.1 hT.2.2.2
    have e : ix d = y := by rw [y2]; exact ix_nI (by omega)
    rw [e, cT_congr fw fw' _ _ y (by omega) y (Nat.le_refl _)]
  · rw [if_pos c, if_pos c]
/-! added -/
theorem E_added {n : Nat} {mo : Int32} {kd mn pu ro wo kd' mn' pu' : Nat → Int32} (h : Iw n mo kd mn pu ro wo kd' mn' pu') {sheet lane i x what th la so : Int32} {ln : Nat} {ce : Nat → Int32} (h1 : th = thM so) (h2 : ¬ so = -9 → la = so) :
    spAdded sheet lane i x what th la ln ce n mo pu ro wo = spAdded sheet lane i x what (thM so) so ln ce n (woF kd' mn' n - 1) pu' (rmF kd' mn') (woF kd' mn') := by
  unfold spAdded
  rw [rt_congr h1 h2]
  by_cases c : rtK sheet lane i (2 * x) (if adT x what then 1 else 0) (thM so) so ln = 0
  · rw [if_neg (not_not_intro c), if_neg (not_not_intro c)]
    by_cases z : n = 0
    · rw [if_pos z, if_pos z]
    · rw [if_neg z, if_neg z]
      by_cases v : vwP ce (ix i) n (ix x)
      · rw [if_neg (not_not_intro v), if_neg (not_not_intro v), h.num, h.2.2.1 (by omega)]
        have hst : ∀ y, stP ce (ix i) (ix x) ro wo y ↔ stP ce (ix i) (ix x) (rmF kd' mn') (woF kd' mn') y := by
          intro y
          constructor
          · intro a q hq
            have hj := ix_lt (v q hq) h.le
            have := a q hq
            rw [h.ros _ hj, h.wos _ hj] at this
            exact this
          · intro a q hq
            have hj := ix_lt (v q hq) h.le
            have := a q hq
            rw [← h.ros _ hj, ← h.wos _ hj] at this
            exact this
        have hA : ∀ num k, adF ce (ix i) (ix x) ro wo num k = adF ce (ix i) (ix x) (rmF kd' mn') (woF kd' mn') num k := by
          intro num k
          induction k with
          | zero => rfl
          | succ k ih =>
            rw [adF, adF, ih]
            by_cases q : stP ce (ix i) (ix x) ro wo (num + nI k)
            · rw [if_pos q, if_pos ((hst _).mp q)]
            · rw [if_neg q, if_neg (fun y => q ((hst _).mpr y))]
        rw [hA]
      · rw [if_pos v, if_pos v]
  · rw [if_pos c, if_pos c]
theorem orM_pu {sheet lane i n k th la : Int32} {ln : Nat} {ce : Nat → Int32} {nw : Nat} {kd mn pu pu' : Nat → Int32} (h : ∀ w, w < nw → pu w = pu' w) : orM sheet lane i n k th la ln ce nw kd mn pu = orM sheet lane i n k th la ln ce nw kd mn pu' := by
  have e : numF pu (woF kd mn) nw = numF pu' (woF kd mn) nw := numF_congr h (fun _ _ => rfl)
  unfold orM orC
  rw [e]
theorem E_order {n : Nat} {mo : Int32} {kd mn pu ro wo kd' mn' pu' : Nat → Int32} (h : Iw n mo kd mn pu ro wo kd' mn' pu') {sheet lane i x k th la so : Int32} {ln : Nat} {ce sm nx sb : Nat → Int32} (h1 : th = thM so) (h2 : ¬ so = -9 → la = so) :
    spOrder sheet lane i x k th la ln ce n mo pu ro wo sm nx sb = orM sheet lane i x k (thM so) so ln ce n kd' mn' pu' := by
  rw [spOrder_orM h.1 h.ros h.wos h.2.2.1, orM_pu h.pus]
  unfold orM
  rw [rt_congr h1 h2]
