set_option maxHeartbeats 4000000 in
set_option maxRecDepth 100000 in
theorem c_X7_digit (l : Launch) (E : gE) (sz : Nat) (m0 : Nat) (lf : Int32) (tr : Int32) (z0 : Nat) (z1 : Nat) (z2 : Nat) (n : Nat) (y0 : Nat) (y1 : Nat) (y2 : Nat) (at_ : Nat) (rwi : Nat) (y3 : Nat) (y4 : Nat) (sl : Int32) (cr : Int32) (gr : Int32) (y5 : Nat) (y6 : Nat) (rc : Nat) (x0 : Nat) (x1 : Nat) (x2 : Nat) (x3 : Nat) (cc : Nat → Int32) (e_ : Nat) (lo : Int32) (hi : Int32) (he : e_ ≤ 240) (hat : at_ ≤ e_) : Met l yX7_digit wsX7_digit ({ frames := 1, cells := 0, slots := 0, locals := 22 }) (PW E [.ref m0, .int (nI e_), .int lo, .int hi] [ob m0 7 [.int lf, .int tr, .ref z0, .ref z1, .ref z2, .int (nI n), .ref y0, .ref y1, .ref y2, .int (nI at_), .int (nI rwi), .ref y3, .ref y4, .int sl, .int cr, .int gr, .ref y5, .ref y6, .int (nI rc), .ref x0, .ref x1, .ref x2, .ref x3], ar E z2 240 cc] sz) (QWi E (fun r _ => r = if dgP cc at_ e_ lo hi then cc at_ - 48 else -9) (fun (_ : Unit) => [ob m0 7 [.int lf, .int tr, .ref z0, .ref z1, .ref z2, .int (nI n), .ref y0, .ref y1, .ref y2, .int (nI (if dgP cc at_ e_ lo hi then at_ + 1 else at_)), .int (nI rwi), .ref y3, .ref y4, .int sl, .int cr, .int gr, .ref y5, .ref y6, .int (nI rc), .ref x0, .ref x1, .ref x2, .ref x3], ar E z2 240 cc]) (va_A [ob m0 7 [.int lf, .int tr, .ref z0, .ref z1, .ref z2, .int (nI n), .ref y0, .ref y1, .ref y2, .int (nI at_), .int (nI rwi), .ref y3, .ref y4, .int sl, .int cr, .int gr, .ref y5, .ref y6, .int (nI rc), .ref x0, .ref x1, .ref x2, .ref x3], ar E z2 240 cc] sz)) 0 0 (va_A [ob m0 7 [.int lf, .int tr, .ref z0, .ref z1, .ref z2, .int (nI n), .ref y0, .ref y1, .ref y2, .int (nI at_), .int (nI rwi), .ref y3, .ref y4, .int sl, .int cr, .int gr, .ref y5, .ref y6, .int (nI rc), .ref x0, .ref x1, .ref x2, .ref x3], ar E z2 240 cc] sz) := by
  refine mkWi (cc := cX7_digit) (maxL := 4) (by decide) rfl (Nat.le_of_ble_eq_true rfl) ?_
  intro p e s m args below meth c QQ A hx hb hml hown hmn hts hK hA hP hD hS hret ls hl
  have hown : s.vm.findClass RX7 = some m.cls := hown
  have hl : lv_has ls 4 [(0, .ref m0), (1, .int (nI e_)), (2, .int lo), (3, .int hi)] := hl
  have hinX7 : ∀ w ∈ wsX70, w ∈ wsX7_digit := by decide +kernel
  have fl_16 := hts (.fieldLink RX7 16 "GuardAbacusModel" "cells" "[I") (by decide +kernel)
  have fl_65 := hts (.fieldLink RX7 65 "GuardAbacusModel" "at" "I") (by decide +kernel)
  refine lv_aload_n hx hb dX7_digit_0 rfl (lv_at hl 0 rfl) ?_
  refine va_get (D := E.1) (ci := 7) (v := .int (nI at_)) (C := RX7) (T := TX7) (N := 23) hx hb hts hinX7 hown hK.1 hP 0 rfl rfl 9 (by decide) fl_65 (fun _ h9 => h9) rfl dX7_digit_1 ?_
  refine lv_iload_n hx hb dX7_digit_4 rfl (lv_at hl 1 rfl) ?_
  refine icmpN_ge (tgt := 31) (a := at_) (b := e_) hx hb rfl rfl (by omega) (by omega) dX7_digit_5 (by decide) (fun c_1 => ?_) (fun c_1 => ?_)
  ·
    refine lv_bipush (v := (-9)) hx hb dX7_digit_31 (by decide) ?_
    have hdg : ¬ dgP cc at_ e_ lo hi := fun h => absurd h.1 (by omega)
    exact hret _ _ _ _ _ () dX7_digit_33 hS (by rw [if_neg hdg]; exact hP) (if_neg hdg).symm
  ·
    refine lv_aload_n hx hb dX7_digit_8 rfl (lv_at hl 0 rfl) ?_
    refine va_get (D := E.1) (ci := 7) (v := .ref z2) (C := RX7) (T := TX7) (N := 23) hx hb hts hinX7 hown hK.1 hP 0 rfl rfl 4 (by decide) fl_16 (fun _ h9 => h9) rfl dX7_digit_9 ?_
    refine lv_aload_n hx hb dX7_digit_12 rfl (lv_at hl 0 rfl) ?_
    refine va_get (D := E.1) (ci := 7) (v := .int (nI at_)) (C := RX7) (T := TX7) (N := 23) hx hb hts hinX7 hown hK.1 hP 0 rfl rfl 9 (by decide) fl_65 (fun _ h9 => h9) rfl dX7_digit_13 ?_
    refine ild hx hb hK hP 1 rfl (j := at_) rfl (by omega) (by decide) dX7_digit_16 ?_
    refine lv_bipush (v := 48) hx hb dX7_digit_17 (by decide) ?_
    refine lv_iload_n hx hb dX7_digit_19 rfl (lv_at hl 2 rfl) ?_
    refine lv_iadd hx hb dX7_digit_20 ?_
    refine lv_bipush (v := 48) hx hb dX7_digit_21 (by decide) ?_
    refine lv_iload_n hx hb dX7_digit_23 rfl (lv_at hl 3 rfl) ?_
    refine lv_iadd hx hb dX7_digit_24 ?_
    refine crS (As := [.int (cc at_), .int (48 + lo), .int (48 + hi)]) (rest := []) ⟨hx, hb, hml, hown, hts⟩ (c_X7_within l E (cc at_) (48 + lo) (48 + hi)) (va_cwS 3 hts gX7_digit_X7_within rfl rfl rfl (by decide +kernel) ⟨Nat.le_of_ble_eq_true rfl, Nat.le_of_ble_eq_true rfl⟩) hK hP [] rfl rfl hl.1 rfl (catLe (Nat.le_of_ble_eq_true rfl)) dX7_digit_25 ⟨Nat.zero_le _, Nat.zero_le _⟩ (fun r_2 hr_2 => ?_)
    subst hr_2
    refine ifB_ne (P := wiP (cc at_) (48 + lo) (48 + hi)) (tgt := 34) hx hb dX7_digit_28 (by decide) (fun c_3 => ?_) (fun c_3 => ?_)
    ·
      refine lv_aload_n hx hb dX7_digit_34 rfl (lv_at hl 0 rfl) ?_
      refine lv_dup hx hb dX7_digit_35 rfl ?_
      refine va_get (D := E.1) (ci := 7) (v := .int (nI at_)) (C := RX7) (T := TX7) (N := 23) hx hb hts hinX7 hown hK.1 hP 0 rfl rfl 9 (by decide) fl_65 (fun _ h9 => h9) rfl dX7_digit_36 ?_
      refine lv_iconst (v := 1) hx hb dX7_digit_39 (by decide) ?_
      refine N_iadd (a := at_) (b := 1) hx hb rfl rfl dX7_digit_40 ?_
      refine va_put (D := E.1) (ci := 7) (v := .int (nI (at_ + 1))) (ty := .int) (C := RX7) (T := TX7) (N := 23) hx hb hts hinX7 tyX7 tyX7_ok nmX7 hown hK.1 hP hD hS 0 rfl rfl 9 (by decide) fl_65 (fun _ h9 => h9) rfl (by decide +kernel) rfl rfl (Nat.le_of_ble_eq_true rfl) dX7_digit_41 (fun H locs hP hD hS => ?_)
      have hP : va_P E.1 vwCl [ob m0 7 [.int lf, .int tr, .ref z0, .ref z1, .ref z2, .int (nI n), .ref y0, .ref y1, .ref y2, .int (nI (at_ + 1)), .int (nI rwi), .ref y3, .ref y4, .int sl, .int cr, .int gr, .ref y5, .ref y6, .int (nI rc), .ref x0, .ref x1, .ref x2, .ref x3], ar E z2 240 cc] H := hP
      have hD : va_D A [ob m0 7 [.int lf, .int tr, .ref z0, .ref z1, .ref z2, .int (nI n), .ref y0, .ref y1, .ref y2, .int (nI (at_ + 1)), .int (nI rwi), .ref y3, .ref y4, .int sl, .int cr, .int gr, .ref y5, .ref y6, .int (nI rc), .ref x0, .ref x1, .ref x2, .ref x3], ar E z2 240 cc] := hD
      refine lv_aload_n hx hb dX7_digit_44 rfl (lv_at hl 0 rfl) ?_
      refine va_get (D := E.1) (ci := 7) (v := .ref z2) (C := RX7) (T := TX7) (N := 23) hx hb hts hinX7 hown hK.1 hP 0 rfl rfl 4 (by decide) fl_16 (fun _ h9 => h9) rfl dX7_digit_45 ?_
      refine lv_aload_n hx hb dX7_digit_48 rfl (lv_at hl 0 rfl) ?_
      refine va_get (D := E.1) (ci := 7) (v := .int (nI (at_ + 1))) (C := RX7) (T := TX7) (N := 23) hx hb hts hinX7 hown hK.1 hP 0 rfl rfl 9 (by decide) fl_65 (fun _ h9 => h9) rfl dX7_digit_49 ?_
      refine lv_iconst (v := 1) hx hb dX7_digit_52 (by decide) ?_
      refine N_isub (a := at_ + 1) (b := 1) hx hb rfl rfl (by omega) dX7_digit_53 ?_
      refine ild hx hb hK hP 1 rfl (j := (at_ + 1) - 1) rfl (by omega) (by decide) dX7_digit_54 ?_
      refine lv_bipush (v := 48) hx hb dX7_digit_55 (by decide) ?_
      refine lv_isub hx hb dX7_digit_57 ?_
      have hdg : dgP cc at_ e_ lo hi := ⟨by omega, c_3⟩
      exact hret _ _ _ _ _ () dX7_digit_58 hS (by rw [if_pos hdg]; exact hP) (if_pos hdg).symm
    ·
      refine lv_bipush (v := (-9)) hx hb dX7_digit_31 (by decide) ?_
      have hdg : ¬ dgP cc at_ e_ lo hi := fun h => c_3 h.2
      exact hret _ _ _ _ _ () dX7_digit_33 hS (by rw [if_neg hdg]; exact hP) (if_neg hdg).symm
set_option maxHeartbeats 4000000 in
set_option maxRecDepth 100000 in
theorem c_X7_isSign (l : Launch) (E : gE) (sz : Nat) (m0 : Nat) (lf : Int32) (tr : Int32) (z0 : Nat) (z1 : Nat) (z2 : Nat) (n : Nat) (y0 : Nat) (y1 : Nat) (y2 : Nat) (at_ : Nat) (rwi : Nat) (y3 : Nat) (y4 : Nat) (sl : Int32) (cr : Int32) (gr : Int32) (y5 : Nat) (y6 : Nat) (rc : Nat) (x0 : Nat) (x1 : Nat) (x2 : Nat) (x3 : Nat) (cc : Nat → Int32) (e_ : Nat) (cd : Int32) (he : e_ ≤ 240) (hat : at_ ≤ e_) : Met l yX7_isSign wsX7_isSign ({ frames := 0, cells := 0, slots := 0, locals := 0 }) (PW E [.ref m0, .int (nI e_), .int cd] [ob m0 7 [.int lf, .int tr, .ref z0, .ref z1, .ref z2, .int (nI n), .ref y0, .ref y1, .ref y2, .int (nI at_), .int (nI rwi), .ref y3, .ref y4, .int sl, .int cr, .int gr, .ref y5, .ref y6, .int (nI rc), .ref x0, .ref x1, .ref x2, .ref x3], ar E z2 240 cc] sz) (QWi E (fun r _ => r = if at_ < e_ ∧ cc at_ = cd then 1 else 0) (fun (_ : Unit) => [ob m0 7 [.int lf, .int tr, .ref z0, .ref z1, .ref z2, .int (nI n), .ref y0, .ref y1, .ref y2, .int (nI (if at_ < e_ ∧ cc at_ = cd then at_ + 1 else at_)), .int (nI rwi), .ref y3, .ref y4, .int sl, .int cr, .int gr, .ref y5, .ref y6, .int (nI rc), .ref x0, .ref x1, .ref x2, .ref x3], ar E z2 240 cc]) (va_A [ob m0 7 [.int lf, .int tr, .ref z0, .ref z1, .ref z2, .int (nI n), .ref y0, .ref y1, .ref y2, .int (nI at_), .int (nI rwi), .ref y3, .ref y4, .int sl, .int cr, .int gr, .ref y5, .ref y6, .int (nI rc), .ref x0, .ref x1, .ref x2, .ref x3], ar E z2 240 cc] sz)) 0 0 (va_A [ob m0 7 [.int lf, .int tr, .ref z0, .ref z1, .ref z2, .int (nI n), .ref y0, .ref y1, .ref y2, .int (nI at_), .int (nI rwi), .ref y3, .ref y4, .int sl, .int cr, .int gr, .ref y5, .ref y6, .int (nI rc), .ref x0, .ref x1, .ref x2, .ref x3], ar E z2 240 cc] sz) := by
  refine mkWz (cc := cX7_isSign) (maxL := 3) (by decide) rfl (Nat.le_of_ble_eq_true rfl) ?_
  intro p e s m args below meth c QQ A hx hb hml hown hmn hts hK hA hP hD hS hret ls hl
  have hown : s.vm.findClass RX7 = some m.cls := hown
  have hl : lv_has ls 3 [(0, .ref m0), (1, .int (nI e_)), (2, .int cd)] := hl
  have hinX7 : ∀ w ∈ wsX70, w ∈ wsX7_isSign := by decide +kernel
  have fl_16 := hts (.fieldLink RX7 16 "GuardAbacusModel" "cells" "[I") (by decide +kernel)
  have fl_65 := hts (.fieldLink RX7 65 "GuardAbacusModel" "at" "I") (by decide +kernel)
  refine lv_aload_n hx hb dX7_isSign_0 rfl (lv_at hl 0 rfl) ?_
  refine va_get (D := E.1) (ci := 7) (v := .int (nI at_)) (C := RX7) (T := TX7) (N := 23) hx hb hts hinX7 hown hK.1 hP 0 rfl rfl 9 (by decide) fl_65 (fun _ h9 => h9) rfl dX7_isSign_1 ?_
  refine lv_iload_n hx hb dX7_isSign_4 rfl (lv_at hl 1 rfl) ?_
  refine icmpN_ge (tgt := 21) (a := at_) (b := e_) hx hb rfl rfl (by omega) (by omega) dX7_isSign_5 (by decide) (fun c_1 => ?_) (fun c_1 => ?_)
  ·
    refine lv_iconst (v := 0) hx hb dX7_isSign_21 (by decide) ?_
    have hdg : ¬ (at_ < e_ ∧ cc at_ = cd) := fun h => absurd h.1 (by omega)
    exact hret _ _ _ _ _ () dX7_isSign_22 rfl hS (by rw [if_neg hdg]; exact hP) (if_neg hdg).symm
  ·
    refine lv_aload_n hx hb dX7_isSign_8 rfl (lv_at hl 0 rfl) ?_
    refine va_get (D := E.1) (ci := 7) (v := .ref z2) (C := RX7) (T := TX7) (N := 23) hx hb hts hinX7 hown hK.1 hP 0 rfl rfl 4 (by decide) fl_16 (fun _ h9 => h9) rfl dX7_isSign_9 ?_
    refine lv_aload_n hx hb dX7_isSign_12 rfl (lv_at hl 0 rfl) ?_
    refine va_get (D := E.1) (ci := 7) (v := .int (nI at_)) (C := RX7) (T := TX7) (N := 23) hx hb hts hinX7 hown hK.1 hP 0 rfl rfl 9 (by decide) fl_65 (fun _ h9 => h9) rfl dX7_isSign_13 ?_
    refine ild hx hb hK hP 1 rfl (j := at_) rfl (by omega) (by decide) dX7_isSign_16 ?_
    refine lv_iload_n hx hb dX7_isSign_17 rfl (lv_at hl 2 rfl) ?_
    refine lv_icmp_eq (tgt := 23) hx hb dX7_isSign_18 (by decide) (fun c_2 => ?_) (fun c_2 => ?_)
    ·
      refine lv_aload_n hx hb dX7_isSign_23 rfl (lv_at hl 0 rfl) ?_
      refine lv_dup hx hb dX7_isSign_24 rfl ?_
      refine va_get (D := E.1) (ci := 7) (v := .int (nI at_)) (C := RX7) (T := TX7) (N := 23) hx hb hts hinX7 hown hK.1 hP 0 rfl rfl 9 (by decide) fl_65 (fun _ h9 => h9) rfl dX7_isSign_25 ?_
      refine lv_iconst (v := 1) hx hb dX7_isSign_28 (by decide) ?_
      refine N_iadd (a := at_) (b := 1) hx hb rfl rfl dX7_isSign_29 ?_
      refine va_put (D := E.1) (ci := 7) (v := .int (nI (at_ + 1))) (ty := .int) (C := RX7) (T := TX7) (N := 23) hx hb hts hinX7 tyX7 tyX7_ok nmX7 hown hK.1 hP hD hS 0 rfl rfl 9 (by decide) fl_65 (fun _ h9 => h9) rfl (by decide +kernel) rfl rfl (Nat.le_of_ble_eq_true rfl) dX7_isSign_30 (fun H locs hP hD hS => ?_)
      have hP : va_P E.1 vwCl [ob m0 7 [.int lf, .int tr, .ref z0, .ref z1, .ref z2, .int (nI n), .ref y0, .ref y1, .ref y2, .int (nI (at_ + 1)), .int (nI rwi), .ref y3, .ref y4, .int sl, .int cr, .int gr, .ref y5, .ref y6, .int (nI rc), .ref x0, .ref x1, .ref x2, .ref x3], ar E z2 240 cc] H := hP
      have hD : va_D A [ob m0 7 [.int lf, .int tr, .ref z0, .ref z1, .ref z2, .int (nI n), .ref y0, .ref y1, .ref y2, .int (nI (at_ + 1)), .int (nI rwi), .ref y3, .ref y4, .int sl, .int cr, .int gr, .ref y5, .ref y6, .int (nI rc), .ref x0, .ref x1, .ref x2, .ref x3], ar E z2 240 cc] := hD
      refine lv_iconst (v := 1) hx hb dX7_isSign_33 (by decide) ?_
      have hdg : at_ < e_ ∧ cc at_ = cd := ⟨by omega, c_2⟩
      exact hret _ _ _ _ _ () dX7_isSign_34 rfl hS (by rw [if_pos hdg]; exact hP) (if_pos hdg).symm
    ·
      refine lv_iconst (v := 0) hx hb dX7_isSign_21 (by decide) ?_
      have hdg : ¬ (at_ < e_ ∧ cc at_ = cd) := fun h => c_2 h.2
      exact hret _ _ _ _ _ () dX7_isSign_22 rfl hS (by rw [if_neg hdg]; exact hP) (if_neg hdg).symm
set_option maxHeartbeats 4000000 in
set_option maxRecDepth 100000 in
theorem c_X7_readWire (l : Launch) (E : gE) (sz : Nat) (m0 : Nat) (lf : Int32) (tr : Int32) (z0 : Nat) (z1 : Nat) (z2 : Nat) (n : Nat) (y0 : Nat) (y1 : Nat) (y2 : Nat) (at_ : Nat) (rwi : Nat) (y3 : Nat) (y4 : Nat) (sl : Int32) (cr : Int32) (gr : Int32) (y5 : Nat) (y6 : Nat) (rc : Nat) (x0 : Nat) (x1 : Nat) (x2 : Nat) (x3 : Nat) (cc : Nat → Int32) (rd : Nat → Int32) (e_ : Nat) (he : e_ ≤ 240) (hat : at_ ≤ e_) (hrw : rwi < 6) : Met l yX7_readWire wsX7_readWire ({ frames := 2, cells := 0, slots := 0, locals := 45 }) (PW E [.ref m0, .int (nI e_)] [ob m0 7 [.int lf, .int tr, .ref z0, .ref z1, .ref z2, .int (nI n), .ref y0, .ref y1, .ref y2, .int (nI at_), .int (nI rwi), .ref y3, .ref y4, .int sl, .int cr, .int gr, .ref y5, .ref y6, .int (nI rc), .ref x0, .ref x1, .ref x2, .ref x3], ar E z2 240 cc, ar E y3 18 rd] sz) (QWi E (fun r u => r = (if rwA cc at_ e_ = at_ + 3 then 1 else 0) ∧ (rwA cc at_ e_ = at_ + 3 → u.2 = nI (rwi + 1) ∧ u.1 = upd (upd (upd rd (3 * rwi) (kdF (cc at_))) (3 * rwi + 1) (cc (at_ + 1) - 48)) (3 * rwi + 2) (cc (at_ + 2) - 48))) (fun (u : (Nat → Int32) × (Int32)) => [ob m0 7 [.int lf, .int tr, .ref z0, .ref z1, .ref z2, .int (nI n), .ref y0, .ref y1, .ref y2, .int (nI (rwA cc at_ e_)), .int u.2, .ref y3, .ref y4, .int sl, .int cr, .int gr, .ref y5, .ref y6, .int (nI rc), .ref x0, .ref x1, .ref x2, .ref x3], ar E z2 240 cc, ar E y3 18 u.1]) (va_A [ob m0 7 [.int lf, .int tr, .ref z0, .ref z1, .ref z2, .int (nI n), .ref y0, .ref y1, .ref y2, .int (nI at_), .int (nI rwi), .ref y3, .ref y4, .int sl, .int cr, .int gr, .ref y5, .ref y6, .int (nI rc), .ref x0, .ref x1, .ref x2, .ref x3], ar E z2 240 cc, ar E y3 18 rd] sz)) 0 0 (va_A [ob m0 7 [.int lf, .int tr, .ref z0, .ref z1, .ref z2, .int (nI n), .ref y0, .ref y1, .ref y2, .int (nI at_), .int (nI rwi), .ref y3, .ref y4, .int sl, .int cr, .int gr, .ref y5, .ref y6, .int (nI rc), .ref x0, .ref x1, .ref x2, .ref x3], ar E z2 240 cc, ar E y3 18 rd] sz) := by
  refine mkWz (cc := cX7_readWire) (maxL := 5) (by decide) rfl (Nat.le_of_ble_eq_true rfl) ?_
  intro p e s m args below meth c QQ A hx hb hml hown hmn hts hK hA hP hD hS hret ls hl
  have hown : s.vm.findClass RX7 = some m.cls := hown
  have hl : lv_has ls 5 [(0, .ref m0), (1, .int (nI e_))] := hl
  have hinX7 : ∀ w ∈ wsX70, w ∈ wsX7_readWire := by decide +kernel
  have fl_16 := hts (.fieldLink RX7 16 "GuardAbacusModel" "cells" "[I") (by decide +kernel)
  have fl_28 := hts (.fieldLink RX7 28 "GuardAbacusModel" "read" "[I") (by decide +kernel)
  have fl_65 := hts (.fieldLink RX7 65 "GuardAbacusModel" "at" "I") (by decide +kernel)
  have fl_86 := hts (.fieldLink RX7 86 "GuardAbacusModel" "readWires" "I") (by decide +kernel)
  refine lv_aload_n hx hb dX7_readWire_0 rfl (lv_at hl 0 rfl) ?_
  refine va_get (D := E.1) (ci := 7) (v := .int (nI at_)) (C := RX7) (T := TX7) (N := 23) hx hb hts hinX7 hown hK.1 hP 0 rfl rfl 9 (by decide) fl_65 (fun _ h9 => h9) rfl dX7_readWire_1 ?_
  refine lv_iload_n hx hb dX7_readWire_4 rfl (lv_at hl 1 rfl) ?_
  refine icmpN_ge (tgt := 20) (a := at_) (b := e_) hx hb rfl rfl (by omega) (by omega) dX7_readWire_5 (by decide) (fun c_1 => ?_) (fun c_1 => ?_)
  ·
    refine lv_iconst (v := 0) hx hb dX7_readWire_20 (by decide) ?_
    refine lv_istore_n (lv' := [(2, .int 0), (0, .ref m0), (1, .int (nI e_))]) hx hb dX7_readWire_21 rfl hl (by decide) rfl (fun ls hl => ?_)
    refine lv_iconst (v := 3) hx hb dX7_readWire_22 (by decide) ?_
    refine lv_aload_n hx hb dX7_readWire_23 rfl (lv_at hl 1 rfl) ?_
    refine va_get (D := E.1) (ci := 7) (v := .int (nI rwi)) (C := RX7) (T := TX7) (N := 23) hx hb hts hinX7 hown hK.1 hP 0 rfl rfl 10 (by decide) fl_86 (fun _ h9 => h9) rfl dX7_readWire_24 ?_
    refine N_imul (a := 3) (b := rwi) hx hb rfl rfl dX7_readWire_27 ?_
    refine lv_istore_n (lv' := [(3, .int (nI (3 * rwi))), (2, .int 0), (0, .ref m0), (1, .int (nI e_))]) hx hb dX7_readWire_28 rfl hl (by decide) rfl (fun ls hl => ?_)
    refine lv_aload_n hx hb dX7_readWire_29 rfl (lv_at hl 2 rfl) ?_
    refine va_get (D := E.1) (ci := 7) (v := .ref y3) (C := RX7) (T := TX7) (N := 23) hx hb hts hinX7 hown hK.1 hP 0 rfl rfl 11 (by decide) fl_28 (fun _ h9 => h9) rfl dX7_readWire_30 ?_
    refine lv_iload_n hx hb dX7_readWire_33 rfl (lv_at hl 0 rfl) ?_
    refine lv_iload_n hx hb dX7_readWire_34 rfl (lv_at hl 1 rfl) ?_
    refine lv_bipush (v := 119) hx hb dX7_readWire_35 (by decide) ?_
    refine icmpN_ne (tgt := 44) (a := 0) (b := 119) hx hb rfl rfl (by omega) (by omega) dX7_readWire_37 (by decide) (fun c_2 => ?_) (fun c_2 => ?_)
    ·
      refine lv_iload_n hx hb dX7_readWire_44 rfl (lv_at hl 1 rfl) ?_
      refine lv_bipush (v := 108) hx hb dX7_readWire_45 (by decide) ?_
      refine icmpN_ne (tgt := 54) (a := 0) (b := 108) hx hb rfl rfl (by omega) (by omega) dX7_readWire_47 (by decide) (fun c_3 => ?_) (fun c_3 => ?_)
      ·
        refine lv_iload_n hx hb dX7_readWire_54 rfl (lv_at hl 1 rfl) ?_
        refine lv_bipush (v := 111) hx hb dX7_readWire_55 (by decide) ?_
        refine icmpN_ne (tgt := 64) (a := 0) (b := 111) hx hb rfl rfl (by omega) (by omega) dX7_readWire_57 (by decide) (fun c_4 => ?_) (fun c_4 => ?_)
        ·
          refine lv_bipush (v := (-9)) hx hb dX7_readWire_64 (by decide) ?_
          refine ist hx hb hK hP hD hS 2 rfl (j := 3 * rwi) rfl (by omega) (by decide) dX7_readWire_66 (fun H locs hP hD hS => ?_)
          have hP : va_P E.1 vwCl [ob m0 7 [.int lf, .int tr, .ref z0, .ref z1, .ref z2, .int (nI n), .ref y0, .ref y1, .ref y2, .int (nI at_), .int (nI rwi), .ref y3, .ref y4, .int sl, .int cr, .int gr, .ref y5, .ref y6, .int (nI rc), .ref x0, .ref x1, .ref x2, .ref x3], ar E z2 240 cc, ar E y3 18 (upd rd (3 * rwi) (-9))] H := hP
          have hD : va_D A [ob m0 7 [.int lf, .int tr, .ref z0, .ref z1, .ref z2, .int (nI n), .ref y0, .ref y1, .ref y2, .int (nI at_), .int (nI rwi), .ref y3, .ref y4, .int sl, .int cr, .int gr, .ref y5, .ref y6, .int (nI rc), .ref x0, .ref x1, .ref x2, .ref x3], ar E z2 240 cc, ar E y3 18 (upd rd (3 * rwi) (-9))] := hD
          refine lv_aload_n hx hb dX7_readWire_67 rfl (lv_at hl 2 rfl) ?_
          refine va_get (D := E.1) (ci := 7) (v := .ref y3) (C := RX7) (T := TX7) (N := 23) hx hb hts hinX7 hown hK.1 hP 0 rfl rfl 11 (by decide) fl_28 (fun _ h9 => h9) rfl dX7_readWire_68 ?_
          refine lv_iload_n hx hb dX7_readWire_71 rfl (lv_at hl 0 rfl) ?_
          refine ild hx hb hK hP 2 rfl (j := 3 * rwi) rfl (by omega) (by decide) dX7_readWire_72 ?_
          rw [pk_us]
          refine lv_bipush (v := (-9)) hx hb dX7_readWire_73 (by decide) ?_
          refine lv_icmp_ne (tgt := 80) hx hb dX7_readWire_75 (by decide) (fun c_5 => ?_) (fun c_5 => ?_)
          ·
            exact absurd rfl c_5
          ·
            refine lv_iconst (v := 0) hx hb dX7_readWire_78 (by decide) ?_
            have er : rwA cc at_ e_ = at_ := by rw [rwA, if_pos (fun h => absurd h.1 (by omega))]
            have hne : ¬ rwA cc at_ e_ = at_ + 3 := by rw [er]; omega
            exact hret _ _ _ _ _ (upd rd (3 * rwi) (-9), nI rwi) dX7_readWire_79 rfl hS (by rw [er]; exact hP) ⟨(if_neg hne).symm, fun h => absurd h hne⟩
        ·
          exact absurd c_4 (by decide)
      ·
        exact absurd c_3 (by decide)
    ·
      exact absurd c_2 (by decide)
  ·
    refine lv_aload_n hx hb dX7_readWire_8 rfl (lv_at hl 0 rfl) ?_
    refine va_get (D := E.1) (ci := 7) (v := .ref z2) (C := RX7) (T := TX7) (N := 23) hx hb hts hinX7 hown hK.1 hP 0 rfl rfl 4 (by decide) fl_16 (fun _ h9 => h9) rfl dX7_readWire_9 ?_
    refine lv_aload_n hx hb dX7_readWire_12 rfl (lv_at hl 0 rfl) ?_
    refine va_get (D := E.1) (ci := 7) (v := .int (nI at_)) (C := RX7) (T := TX7) (N := 23) hx hb hts hinX7 hown hK.1 hP 0 rfl rfl 9 (by decide) fl_65 (fun _ h9 => h9) rfl dX7_readWire_13 ?_
    refine ild hx hb hK hP 1 rfl (j := at_) rfl (by omega) (by decide) dX7_readWire_16 ?_
    refine lv_goto (tgt := 21) hx hb dX7_readWire_17 (by decide) ?_
    refine lv_istore_n (lv' := [(2, .int (cc at_)), (0, .ref m0), (1, .int (nI e_))]) hx hb dX7_readWire_21 rfl hl (by decide) rfl (fun ls hl => ?_)
    refine lv_iconst (v := 3) hx hb dX7_readWire_22 (by decide) ?_
    refine lv_aload_n hx hb dX7_readWire_23 rfl (lv_at hl 1 rfl) ?_
    refine va_get (D := E.1) (ci := 7) (v := .int (nI rwi)) (C := RX7) (T := TX7) (N := 23) hx hb hts hinX7 hown hK.1 hP 0 rfl rfl 10 (by decide) fl_86 (fun _ h9 => h9) rfl dX7_readWire_24 ?_
    refine N_imul (a := 3) (b := rwi) hx hb rfl rfl dX7_readWire_27 ?_
    refine lv_istore_n (lv' := [(3, .int (nI (3 * rwi))), (2, .int (cc at_)), (0, .ref m0), (1, .int (nI e_))]) hx hb dX7_readWire_28 rfl hl (by decide) rfl (fun ls hl => ?_)
    refine lv_aload_n hx hb dX7_readWire_29 rfl (lv_at hl 2 rfl) ?_
    refine va_get (D := E.1) (ci := 7) (v := .ref y3) (C := RX7) (T := TX7) (N := 23) hx hb hts hinX7 hown hK.1 hP 0 rfl rfl 11 (by decide) fl_28 (fun _ h9 => h9) rfl dX7_readWire_30 ?_
    refine lv_iload_n hx hb dX7_readWire_33 rfl (lv_at hl 0 rfl) ?_
    refine lv_iload_n hx hb dX7_readWire_34 rfl (lv_at hl 1 rfl) ?_
    refine lv_bipush (v := 119) hx hb dX7_readWire_35 (by decide) ?_
    refine lv_icmp_ne (tgt := 44) hx hb dX7_readWire_37 (by decide) (fun c_6 => ?_) (fun c_6 => ?_)
    ·
      refine lv_iload_n hx hb dX7_readWire_44 rfl (lv_at hl 1 rfl) ?_
      refine lv_bipush (v := 108) hx hb dX7_readWire_45 (by decide) ?_
      refine lv_icmp_ne (tgt := 54) hx hb dX7_readWire_47 (by decide) (fun c_7 => ?_) (fun c_7 => ?_)
      ·
        refine lv_iload_n hx hb dX7_readWire_54 rfl (lv_at hl 1 rfl) ?_
        refine lv_bipush (v := 111) hx hb dX7_readWire_55 (by decide) ?_
        refine lv_icmp_ne (tgt := 64) hx hb dX7_readWire_57 (by decide) (fun c_8 => ?_) (fun c_8 => ?_)
        ·
          refine lv_bipush (v := (-9)) hx hb dX7_readWire_64 (by decide) ?_
          have hkd : kdF (cc at_) = -9 := by rw [kdF, if_neg c_7, if_neg c_8, if_neg c_6]
          refine ist hx hb hK hP hD hS 2 rfl (j := 3 * rwi) rfl (by omega) (by decide) dX7_readWire_66 (fun H locs hP hD hS => ?_)
          have hP : va_P E.1 vwCl [ob m0 7 [.int lf, .int tr, .ref z0, .ref z1, .ref z2, .int (nI n), .ref y0, .ref y1, .ref y2, .int (nI at_), .int (nI rwi), .ref y3, .ref y4, .int sl, .int cr, .int gr, .ref y5, .ref y6, .int (nI rc), .ref x0, .ref x1, .ref x2, .ref x3], ar E z2 240 cc, ar E y3 18 (upd rd (3 * rwi) (-9))] H := hP
          have hD : va_D A [ob m0 7 [.int lf, .int tr, .ref z0, .ref z1, .ref z2, .int (nI n), .ref y0, .ref y1, .ref y2, .int (nI at_), .int (nI rwi), .ref y3, .ref y4, .int sl, .int cr, .int gr, .ref y5, .ref y6, .int (nI rc), .ref x0, .ref x1, .ref x2, .ref x3], ar E z2 240 cc, ar E y3 18 (upd rd (3 * rwi) (-9))] := hD
          refine lv_aload_n hx hb dX7_readWire_67 rfl (lv_at hl 2 rfl) ?_
          refine va_get (D := E.1) (ci := 7) (v := .ref y3) (C := RX7) (T := TX7) (N := 23) hx hb hts hinX7 hown hK.1 hP 0 rfl rfl 11 (by decide) fl_28 (fun _ h9 => h9) rfl dX7_readWire_68 ?_
          refine lv_iload_n hx hb dX7_readWire_71 rfl (lv_at hl 0 rfl) ?_
          refine ild hx hb hK hP 2 rfl (j := 3 * rwi) rfl (by omega) (by decide) dX7_readWire_72 ?_
          rw [pk_us]
          refine lv_bipush (v := (-9)) hx hb dX7_readWire_73 (by decide) ?_
          refine lv_icmp_ne (tgt := 80) hx hb dX7_readWire_75 (by decide) (fun c_9 => ?_) (fun c_9 => ?_)
          ·
            exact absurd rfl c_9
          ·
            refine lv_iconst (v := 0) hx hb dX7_readWire_78 (by decide) ?_
            have er : rwA cc at_ e_ = at_ := by rw [rwA, if_pos (fun h => h.2 hkd)]
            have hne : ¬ rwA cc at_ e_ = at_ + 3 := by rw [er]; omega
            exact hret _ _ _ _ _ (upd rd (3 * rwi) (-9), nI rwi) dX7_readWire_79 rfl hS (by rw [er]; exact hP) ⟨(if_neg hne).symm, fun h => absurd h hne⟩
        ·
          refine lv_iconst (v := 2) hx hb dX7_readWire_60 (by decide) ?_
          refine lv_goto (tgt := 66) hx hb dX7_readWire_61 (by decide) ?_
          have hkd : kdF (cc at_) = 2 := by rw [c_8]; rfl
          refine ist hx hb hK hP hD hS 2 rfl (j := 3 * rwi) rfl (by omega) (by decide) dX7_readWire_66 (fun H locs hP hD hS => ?_)
          have hP : va_P E.1 vwCl [ob m0 7 [.int lf, .int tr, .ref z0, .ref z1, .ref z2, .int (nI n), .ref y0, .ref y1, .ref y2, .int (nI at_), .int (nI rwi), .ref y3, .ref y4, .int sl, .int cr, .int gr, .ref y5, .ref y6, .int (nI rc), .ref x0, .ref x1, .ref x2, .ref x3], ar E z2 240 cc, ar E y3 18 (upd rd (3 * rwi) 2)] H := hP
          have hD : va_D A [ob m0 7 [.int lf, .int tr, .ref z0, .ref z1, .ref z2, .int (nI n), .ref y0, .ref y1, .ref y2, .int (nI at_), .int (nI rwi), .ref y3, .ref y4, .int sl, .int cr, .int gr, .ref y5, .ref y6, .int (nI rc), .ref x0, .ref x1, .ref x2, .ref x3], ar E z2 240 cc, ar E y3 18 (upd rd (3 * rwi) 2)] := hD
          refine lv_aload_n hx hb dX7_readWire_67 rfl (lv_at hl 2 rfl) ?_
          refine va_get (D := E.1) (ci := 7) (v := .ref y3) (C := RX7) (T := TX7) (N := 23) hx hb hts hinX7 hown hK.1 hP 0 rfl rfl 11 (by decide) fl_28 (fun _ h9 => h9) rfl dX7_readWire_68 ?_
          refine lv_iload_n hx hb dX7_readWire_71 rfl (lv_at hl 0 rfl) ?_
          refine ild hx hb hK hP 2 rfl (j := 3 * rwi) rfl (by omega) (by decide) dX7_readWire_72 ?_
          rw [pk_us]
          refine lv_bipush (v := (-9)) hx hb dX7_readWire_73 (by decide) ?_
          refine lv_icmp_ne (tgt := 80) hx hb dX7_readWire_75 (by decide) (fun c_10 => ?_) (fun c_10 => ?_)
          ·
            refine lv_aload_n hx hb dX7_readWire_80 rfl (lv_at hl 2 rfl) ?_
            refine lv_dup hx hb dX7_readWire_81 rfl ?_
            refine va_get (D := E.1) (ci := 7) (v := .int (nI at_)) (C := RX7) (T := TX7) (N := 23) hx hb hts hinX7 hown hK.1 hP 0 rfl rfl 9 (by decide) fl_65 (fun _ h9 => h9) rfl dX7_readWire_82 ?_
            refine lv_iconst (v := 1) hx hb dX7_readWire_85 (by decide) ?_
            refine N_iadd (a := at_) (b := 1) hx hb rfl rfl dX7_readWire_86 ?_
            refine va_put (D := E.1) (ci := 7) (v := .int (nI (at_ + 1))) (ty := .int) (C := RX7) (T := TX7) (N := 23) hx hb hts hinX7 tyX7 tyX7_ok nmX7 hown hK.1 hP hD hS 0 rfl rfl 9 (by decide) fl_65 (fun _ h9 => h9) rfl (by decide +kernel) rfl rfl (Nat.le_of_ble_eq_true rfl) dX7_readWire_87 (fun H locs hP hD hS => ?_)
            have hP : va_P E.1 vwCl [ob m0 7 [.int lf, .int tr, .ref z0, .ref z1, .ref z2, .int (nI n), .ref y0, .ref y1, .ref y2, .int (nI (at_ + 1)), .int (nI rwi), .ref y3, .ref y4, .int sl, .int cr, .int gr, .ref y5, .ref y6, .int (nI rc), .ref x0, .ref x1, .ref x2, .ref x3], ar E z2 240 cc, ar E y3 18 (upd rd (3 * rwi) 2)] H := hP
            have hD : va_D A [ob m0 7 [.int lf, .int tr, .ref z0, .ref z1, .ref z2, .int (nI n), .ref y0, .ref y1, .ref y2, .int (nI (at_ + 1)), .int (nI rwi), .ref y3, .ref y4, .int sl, .int cr, .int gr, .ref y5, .ref y6, .int (nI rc), .ref x0, .ref x1, .ref x2, .ref x3], ar E z2 240 cc, ar E y3 18 (upd rd (3 * rwi) 2)] := hD
            refine lv_aload_n hx hb dX7_readWire_90 rfl (lv_at hl 2 rfl) ?_
            refine va_get (D := E.1) (ci := 7) (v := .ref y3) (C := RX7) (T := TX7) (N := 23) hx hb hts hinX7 hown hK.1 hP 0 rfl rfl 11 (by decide) fl_28 (fun _ h9 => h9) rfl dX7_readWire_91 ?_
            refine lv_iload_n hx hb dX7_readWire_94 rfl (lv_at hl 0 rfl) ?_
            refine lv_iconst (v := 1) hx hb dX7_readWire_95 (by decide) ?_
            refine N_iadd (a := 3 * rwi) (b := 1) hx hb rfl rfl dX7_readWire_96 ?_
            refine lv_aload_n hx hb dX7_readWire_97 rfl (lv_at hl 2 rfl) ?_
            refine lv_iload_n hx hb dX7_readWire_98 rfl (lv_at hl 3 rfl) ?_
            refine lv_iconst (v := 1) hx hb dX7_readWire_99 (by decide) ?_
            refine lv_bipush (v := 9) hx hb dX7_readWire_100 (by decide) ?_
            refine cwVi (As := [.int (nI e_), .int 1, .int 9]) (rest := [.int (nI ((3 * rwi) + 1)), .ref y3]) ⟨hx, hb, hml, hown, hts⟩ (c_X7_digit l E _ m0 lf tr z0 z1 z2 n y0 y1 y2 (at_ + 1) rwi y3 y4 sl cr gr y5 y6 rc x0 x1 x2 x3 cc e_ 1 9 (by first | assumption | omega) (by first | assumption | omega)) (cwV 3 hts gX7_readWire_X7_digit rfl rfl rfl (by decide +kernel) ⟨Nat.le_of_ble_eq_true rfl, Nat.le_of_ble_eq_true rfl⟩) hK hP hD hS hA [0, 1] (by decide) rfl [m0, z2] (fun _ => rfl) rfl 0 rfl rfl rfl rfl hl.1 rfl (catLe (Nat.le_of_ble_eq_true rfl)) dX7_readWire_102 ⟨Nat.zero_le _, Nat.zero_le _⟩ (fun r_11 u_12 H locs hwr_11 hP hD hS => ?_)
            have hP : va_P E.1 vwCl [ob m0 7 [.int lf, .int tr, .ref z0, .ref z1, .ref z2, .int (nI n), .ref y0, .ref y1, .ref y2, .int (nI (if dgP cc (at_ + 1) e_ 1 9 then (at_ + 1) + 1 else (at_ + 1))), .int (nI rwi), .ref y3, .ref y4, .int sl, .int cr, .int gr, .ref y5, .ref y6, .int (nI rc), .ref x0, .ref x1, .ref x2, .ref x3], ar E z2 240 cc, ar E y3 18 (upd rd (3 * rwi) 2)] H := hP
            have hD : va_D A [ob m0 7 [.int lf, .int tr, .ref z0, .ref z1, .ref z2, .int (nI n), .ref y0, .ref y1, .ref y2, .int (nI (if dgP cc (at_ + 1) e_ 1 9 then (at_ + 1) + 1 else (at_ + 1))), .int (nI rwi), .ref y3, .ref y4, .int sl, .int cr, .int gr, .ref y5, .ref y6, .int (nI rc), .ref x0, .ref x1, .ref x2, .ref x3], ar E z2 240 cc, ar E y3 18 (upd rd (3 * rwi) 2)] := hD
            subst hwr_11
            refine ist hx hb hK hP hD hS 2 rfl (j := (3 * rwi) + 1) rfl (by omega) (by decide) dX7_readWire_105 (fun H locs hP hD hS => ?_)
            have hP : va_P E.1 vwCl [ob m0 7 [.int lf, .int tr, .ref z0, .ref z1, .ref z2, .int (nI n), .ref y0, .ref y1, .ref y2, .int (nI (if dgP cc (at_ + 1) e_ 1 9 then (at_ + 1) + 1 else (at_ + 1))), .int (nI rwi), .ref y3, .ref y4, .int sl, .int cr, .int gr, .ref y5, .ref y6, .int (nI rc), .ref x0, .ref x1, .ref x2, .ref x3], ar E z2 240 cc, ar E y3 18 (upd (upd rd (3 * rwi) 2) ((3 * rwi) + 1) (if dgP cc (at_ + 1) e_ 1 9 then cc (at_ + 1) - 48 else -9))] H := hP
            have hD : va_D A [ob m0 7 [.int lf, .int tr, .ref z0, .ref z1, .ref z2, .int (nI n), .ref y0, .ref y1, .ref y2, .int (nI (if dgP cc (at_ + 1) e_ 1 9 then (at_ + 1) + 1 else (at_ + 1))), .int (nI rwi), .ref y3, .ref y4, .int sl, .int cr, .int gr, .ref y5, .ref y6, .int (nI rc), .ref x0, .ref x1, .ref x2, .ref x3], ar E z2 240 cc, ar E y3 18 (upd (upd rd (3 * rwi) 2) ((3 * rwi) + 1) (if dgP cc (at_ + 1) e_ 1 9 then cc (at_ + 1) - 48 else -9))] := hD
            refine lv_aload_n hx hb dX7_readWire_106 rfl (lv_at hl 2 rfl) ?_
            refine va_get (D := E.1) (ci := 7) (v := .ref y3) (C := RX7) (T := TX7) (N := 23) hx hb hts hinX7 hown hK.1 hP 0 rfl rfl 11 (by decide) fl_28 (fun _ h9 => h9) rfl dX7_readWire_107 ?_
            refine lv_iload_n hx hb dX7_readWire_110 rfl (lv_at hl 0 rfl) ?_
            refine lv_iconst (v := 1) hx hb dX7_readWire_111 (by decide) ?_
            refine N_iadd (a := 3 * rwi) (b := 1) hx hb rfl rfl dX7_readWire_112 ?_
            refine ild hx hb hK hP 2 rfl (j := (3 * rwi) + 1) rfl (by omega) (by decide) dX7_readWire_113 ?_
            rw [pk_us]
            refine lv_bipush (v := (-9)) hx hb dX7_readWire_114 (by decide) ?_
            refine lv_icmp_ne (tgt := 121) hx hb dX7_readWire_116 (by decide) (fun c_13 => ?_) (fun c_13 => ?_)
            ·
              have hd1 := dg_of c_13
              have hd1a := hd1.1
              rw [if_pos hd1, if_pos hd1] at hP hD
              have hP : va_P E.1 vwCl [ob m0 7 [.int lf, .int tr, .ref z0, .ref z1, .ref z2, .int (nI n), .ref y0, .ref y1, .ref y2, .int (nI (at_ + 1 + 1)), .int (nI rwi), .ref y3, .ref y4, .int sl, .int cr, .int gr, .ref y5, .ref y6, .int (nI rc), .ref x0, .ref x1, .ref x2, .ref x3], ar E z2 240 cc, ar E y3 18 (upd (upd rd (3 * rwi) 2) ((3 * rwi) + 1) (cc (at_ + 1) - 48))] H := hP
              have hD : va_D A [ob m0 7 [.int lf, .int tr, .ref z0, .ref z1, .ref z2, .int (nI n), .ref y0, .ref y1, .ref y2, .int (nI (at_ + 1 + 1)), .int (nI rwi), .ref y3, .ref y4, .int sl, .int cr, .int gr, .ref y5, .ref y6, .int (nI rc), .ref x0, .ref x1, .ref x2, .ref x3], ar E z2 240 cc, ar E y3 18 (upd (upd rd (3 * rwi) 2) ((3 * rwi) + 1) (cc (at_ + 1) - 48))] := hD
              refine lv_aload_n hx hb dX7_readWire_121 rfl (lv_at hl 2 rfl) ?_
              refine va_get (D := E.1) (ci := 7) (v := .ref y3) (C := RX7) (T := TX7) (N := 23) hx hb hts hinX7 hown hK.1 hP 0 rfl rfl 11 (by decide) fl_28 (fun _ h9 => h9) rfl dX7_readWire_122 ?_
              refine lv_iload_n hx hb dX7_readWire_125 rfl (lv_at hl 0 rfl) ?_
              refine ild hx hb hK hP 2 rfl (j := 3 * rwi) rfl (by omega) (by decide) dX7_readWire_126 ?_
              rw [pk_un (by omega), pk_us]
              refine lv_aload_n hx hb dX7_readWire_127 rfl (lv_at hl 2 rfl) ?_
              refine va_get (D := E.1) (ci := 7) (v := .ref y3) (C := RX7) (T := TX7) (N := 23) hx hb hts hinX7 hown hK.1 hP 0 rfl rfl 11 (by decide) fl_28 (fun _ h9 => h9) rfl dX7_readWire_128 ?_
              refine lv_iload_n hx hb dX7_readWire_131 rfl (lv_at hl 0 rfl) ?_
              refine lv_iconst (v := 1) hx hb dX7_readWire_132 (by decide) ?_
              refine N_iadd (a := 3 * rwi) (b := 1) hx hb rfl rfl dX7_readWire_133 ?_
              refine ild hx hb hK hP 2 rfl (j := (3 * rwi) + 1) rfl (by omega) (by decide) dX7_readWire_134 ?_
              rw [pk_us]
              refine crS (As := [.int 2, .int (cc (at_ + 1) - 48)]) (rest := []) ⟨hx, hb, hml, hown, hts⟩ (c_X7_roomFor l E 2 (cc (at_ + 1) - 48) (by decide)) (va_cwS 2 hts gX7_readWire_X7_roomFor rfl rfl rfl (by decide +kernel) ⟨Nat.le_of_ble_eq_true rfl, Nat.le_of_ble_eq_true rfl⟩) hK hP [] rfl rfl hl.1 rfl (catLe (Nat.le_of_ble_eq_true rfl)) dX7_readWire_135 ⟨Nat.zero_le _, Nat.zero_le _⟩ (fun r_14 hr_14 => ?_)
              subst hr_14
              refine lv_istore (lv' := [(4, .int (roomF 2 (cc (at_ + 1) - 48))), (3, .int (nI (3 * rwi))), (2, .int (cc at_)), (0, .ref m0), (1, .int (nI e_))]) hx hb dX7_readWire_138 hl (by decide) rfl (fun ls hl => ?_)
              refine lv_aload_n hx hb dX7_readWire_140 rfl (lv_at hl 3 rfl) ?_
              refine va_get (D := E.1) (ci := 7) (v := .ref y3) (C := RX7) (T := TX7) (N := 23) hx hb hts hinX7 hown hK.1 hP 0 rfl rfl 11 (by decide) fl_28 (fun _ h9 => h9) rfl dX7_readWire_141 ?_
              refine lv_iload_n hx hb dX7_readWire_144 rfl (lv_at hl 1 rfl) ?_
              refine lv_iconst (v := 2) hx hb dX7_readWire_145 (by decide) ?_
              refine N_iadd (a := 3 * rwi) (b := 2) hx hb rfl rfl dX7_readWire_146 ?_
              refine lv_aload_n hx hb dX7_readWire_147 rfl (lv_at hl 3 rfl) ?_
              refine lv_iload_n hx hb dX7_readWire_148 rfl (lv_at hl 4 rfl) ?_
              refine lv_iconst (v := 0) hx hb dX7_readWire_149 (by decide) ?_
              refine lv_iload hx hb dX7_readWire_150 (lv_at hl 0 rfl) ?_
              refine lv_bipush (v := 9) hx hb dX7_readWire_152 (by decide) ?_
              refine lv_icmp_le (tgt := 162) hx hb dX7_readWire_154 (by decide) (fun c_15 => ?_) (fun c_15 => ?_)
              ·
                have c_15b := Int32.not_lt.mpr c_15
                refine lv_iload hx hb dX7_readWire_162 (lv_at hl 0 rfl) ?_
                refine cwVi (As := [.int (nI e_), .int 0, .int (roomF 2 (cc (at_ + 1) - 48))]) (rest := [.int (nI ((3 * rwi) + 2)), .ref y3]) ⟨hx, hb, hml, hown, hts⟩ (c_X7_digit l E _ m0 lf tr z0 z1 z2 n y0 y1 y2 (at_ + 1 + 1) rwi y3 y4 sl cr gr y5 y6 rc x0 x1 x2 x3 cc e_ 0 (roomF 2 (cc (at_ + 1) - 48)) (by first | assumption | omega) (by first | assumption | omega)) (cwV 3 hts gX7_readWire_X7_digit rfl rfl rfl (by decide +kernel) ⟨Nat.le_of_ble_eq_true rfl, Nat.le_of_ble_eq_true rfl⟩) hK hP hD hS hA [0, 1] (by decide) rfl [m0, z2] (fun _ => rfl) rfl 0 rfl rfl rfl rfl hl.1 rfl (catLe (Nat.le_of_ble_eq_true rfl)) dX7_readWire_164 ⟨Nat.zero_le _, Nat.zero_le _⟩ (fun r_16 u_17 H locs hwr_16 hP hD hS => ?_)
                have hP : va_P E.1 vwCl [ob m0 7 [.int lf, .int tr, .ref z0, .ref z1, .ref z2, .int (nI n), .ref y0, .ref y1, .ref y2, .int (nI (if dgP cc (at_ + 1 + 1) e_ 0 (roomF 2 (cc (at_ + 1) - 48)) then (at_ + 1 + 1) + 1 else (at_ + 1 + 1))), .int (nI rwi), .ref y3, .ref y4, .int sl, .int cr, .int gr, .ref y5, .ref y6, .int (nI rc), .ref x0, .ref x1, .ref x2, .ref x3], ar E z2 240 cc, ar E y3 18 (upd (upd rd (3 * rwi) 2) ((3 * rwi) + 1) (cc (at_ + 1) - 48))] H := hP
                have hD : va_D A [ob m0 7 [.int lf, .int tr, .ref z0, .ref z1, .ref z2, .int (nI n), .ref y0, .ref y1, .ref y2, .int (nI (if dgP cc (at_ + 1 + 1) e_ 0 (roomF 2 (cc (at_ + 1) - 48)) then (at_ + 1 + 1) + 1 else (at_ + 1 + 1))), .int (nI rwi), .ref y3, .ref y4, .int sl, .int cr, .int gr, .ref y5, .ref y6, .int (nI rc), .ref x0, .ref x1, .ref x2, .ref x3], ar E z2 240 cc, ar E y3 18 (upd (upd rd (3 * rwi) 2) ((3 * rwi) + 1) (cc (at_ + 1) - 48))] := hD
                subst hwr_16
                refine ist hx hb hK hP hD hS 2 rfl (j := (3 * rwi) + 2) rfl (by omega) (by decide) dX7_readWire_167 (fun H locs hP hD hS => ?_)
                have hP : va_P E.1 vwCl [ob m0 7 [.int lf, .int tr, .ref z0, .ref z1, .ref z2, .int (nI n), .ref y0, .ref y1, .ref y2, .int (nI (if dgP cc (at_ + 1 + 1) e_ 0 (roomF 2 (cc (at_ + 1) - 48)) then (at_ + 1 + 1) + 1 else (at_ + 1 + 1))), .int (nI rwi), .ref y3, .ref y4, .int sl, .int cr, .int gr, .ref y5, .ref y6, .int (nI rc), .ref x0, .ref x1, .ref x2, .ref x3], ar E z2 240 cc, ar E y3 18 (upd (upd (upd rd (3 * rwi) 2) ((3 * rwi) + 1) (cc (at_ + 1) - 48)) ((3 * rwi) + 2) (if dgP cc (at_ + 1 + 1) e_ 0 (roomF 2 (cc (at_ + 1) - 48)) then cc (at_ + 1 + 1) - 48 else -9))] H := hP
                have hD : va_D A [ob m0 7 [.int lf, .int tr, .ref z0, .ref z1, .ref z2, .int (nI n), .ref y0, .ref y1, .ref y2, .int (nI (if dgP cc (at_ + 1 + 1) e_ 0 (roomF 2 (cc (at_ + 1) - 48)) then (at_ + 1 + 1) + 1 else (at_ + 1 + 1))), .int (nI rwi), .ref y3, .ref y4, .int sl, .int cr, .int gr, .ref y5, .ref y6, .int (nI rc), .ref x0, .ref x1, .ref x2, .ref x3], ar E z2 240 cc, ar E y3 18 (upd (upd (upd rd (3 * rwi) 2) ((3 * rwi) + 1) (cc (at_ + 1) - 48)) ((3 * rwi) + 2) (if dgP cc (at_ + 1 + 1) e_ 0 (roomF 2 (cc (at_ + 1) - 48)) then cc (at_ + 1 + 1) - 48 else -9))] := hD
                refine lv_aload_n hx hb dX7_readWire_168 rfl (lv_at hl 3 rfl) ?_
                refine lv_dup hx hb dX7_readWire_169 rfl ?_
                refine va_get (D := E.1) (ci := 7) (v := .int (nI rwi)) (C := RX7) (T := TX7) (N := 23) hx hb hts hinX7 hown hK.1 hP 0 rfl rfl 10 (by decide) fl_86 (fun _ h9 => h9) rfl dX7_readWire_170 ?_
                refine lv_iconst (v := 1) hx hb dX7_readWire_173 (by decide) ?_
                refine N_iadd (a := rwi) (b := 1) hx hb rfl rfl dX7_readWire_174 ?_
                refine va_put (D := E.1) (ci := 7) (v := .int (nI (rwi + 1))) (ty := .int) (C := RX7) (T := TX7) (N := 23) hx hb hts hinX7 tyX7 tyX7_ok nmX7 hown hK.1 hP hD hS 0 rfl rfl 10 (by decide) fl_86 (fun _ h9 => h9) rfl (by decide +kernel) rfl rfl (Nat.le_of_ble_eq_true rfl) dX7_readWire_175 (fun H locs hP hD hS => ?_)
                have hP : va_P E.1 vwCl [ob m0 7 [.int lf, .int tr, .ref z0, .ref z1, .ref z2, .int (nI n), .ref y0, .ref y1, .ref y2, .int (nI (if dgP cc (at_ + 1 + 1) e_ 0 (roomF 2 (cc (at_ + 1) - 48)) then (at_ + 1 + 1) + 1 else (at_ + 1 + 1))), .int (nI (rwi + 1)), .ref y3, .ref y4, .int sl, .int cr, .int gr, .ref y5, .ref y6, .int (nI rc), .ref x0, .ref x1, .ref x2, .ref x3], ar E z2 240 cc, ar E y3 18 (upd (upd (upd rd (3 * rwi) 2) ((3 * rwi) + 1) (cc (at_ + 1) - 48)) ((3 * rwi) + 2) (if dgP cc (at_ + 1 + 1) e_ 0 (roomF 2 (cc (at_ + 1) - 48)) then cc (at_ + 1 + 1) - 48 else -9))] H := hP
                have hD : va_D A [ob m0 7 [.int lf, .int tr, .ref z0, .ref z1, .ref z2, .int (nI n), .ref y0, .ref y1, .ref y2, .int (nI (if dgP cc (at_ + 1 + 1) e_ 0 (roomF 2 (cc (at_ + 1) - 48)) then (at_ + 1 + 1) + 1 else (at_ + 1 + 1))), .int (nI (rwi + 1)), .ref y3, .ref y4, .int sl, .int cr, .int gr, .ref y5, .ref y6, .int (nI rc), .ref x0, .ref x1, .ref x2, .ref x3], ar E z2 240 cc, ar E y3 18 (upd (upd (upd rd (3 * rwi) 2) ((3 * rwi) + 1) (cc (at_ + 1) - 48)) ((3 * rwi) + 2) (if dgP cc (at_ + 1 + 1) e_ 0 (roomF 2 (cc (at_ + 1) - 48)) then cc (at_ + 1 + 1) - 48 else -9))] := hD
                refine lv_aload_n hx hb dX7_readWire_178 rfl (lv_at hl 3 rfl) ?_
                refine va_get (D := E.1) (ci := 7) (v := .ref y3) (C := RX7) (T := TX7) (N := 23) hx hb hts hinX7 hown hK.1 hP 0 rfl rfl 11 (by decide) fl_28 (fun _ h9 => h9) rfl dX7_readWire_179 ?_
                refine lv_iload_n hx hb dX7_readWire_182 rfl (lv_at hl 1 rfl) ?_
                refine lv_iconst (v := 2) hx hb dX7_readWire_183 (by decide) ?_
                refine N_iadd (a := 3 * rwi) (b := 2) hx hb rfl rfl dX7_readWire_184 ?_
                refine ild hx hb hK hP 2 rfl (j := (3 * rwi) + 2) rfl (by omega) (by decide) dX7_readWire_185 ?_
                rw [pk_us]
                refine lv_bipush (v := (-9)) hx hb dX7_readWire_186 (by decide) ?_
                refine lv_icmp_eq (tgt := 195) hx hb dX7_readWire_188 (by decide) (fun c_18 => ?_) (fun c_18 => ?_)
                ·
                  have hd2 := dg_no (by decide) (le9 c_15) c_18
                  rw [if_neg hd2, if_neg hd2] at hP hD
                  have hP : va_P E.1 vwCl [ob m0 7 [.int lf, .int tr, .ref z0, .ref z1, .ref z2, .int (nI n), .ref y0, .ref y1, .ref y2, .int (nI (at_ + 1 + 1)), .int (nI (rwi + 1)), .ref y3, .ref y4, .int sl, .int cr, .int gr, .ref y5, .ref y6, .int (nI rc), .ref x0, .ref x1, .ref x2, .ref x3], ar E z2 240 cc, ar E y3 18 (upd (upd (upd rd (3 * rwi) 2) ((3 * rwi) + 1) (cc (at_ + 1) - 48)) ((3 * rwi) + 2) (-9))] H := hP
                  have hD : va_D A [ob m0 7 [.int lf, .int tr, .ref z0, .ref z1, .ref z2, .int (nI n), .ref y0, .ref y1, .ref y2, .int (nI (at_ + 1 + 1)), .int (nI (rwi + 1)), .ref y3, .ref y4, .int sl, .int cr, .int gr, .ref y5, .ref y6, .int (nI rc), .ref x0, .ref x1, .ref x2, .ref x3], ar E z2 240 cc, ar E y3 18 (upd (upd (upd rd (3 * rwi) 2) ((3 * rwi) + 1) (cc (at_ + 1) - 48)) ((3 * rwi) + 2) (-9))] := hD
                  refine lv_iconst (v := 0) hx hb dX7_readWire_195 (by decide) ?_
                  have e9 : mn9 (roomF 2 (cc (at_ + 1) - 48)) = roomF 2 (cc (at_ + 1) - 48) := if_pos c_15
                  have hd3 : ¬ dgP cc (at_ + 2) e_ 0 (roomF 2 (cc (at_ + 1) - 48)) := hd2
                  have er : rwA cc at_ e_ = at_ + 2 := by rw [rwA, if_neg (not_not_intro (show at_ < e_ ∧ ¬ kdF (cc at_) = -9 from ⟨by omega, by rw [hkd]; decide⟩)), if_neg (not_not_intro hd1), hkd, e9, if_pos hd3]
                  have hne : ¬ rwA cc at_ e_ = at_ + 3 := by rw [er]; omega
                  exact hret _ _ _ _ _ (upd (upd (upd rd (3 * rwi) 2) ((3 * rwi) + 1) (cc (at_ + 1) - 48)) ((3 * rwi) + 2) (-9), nI (rwi + 1)) dX7_readWire_196 rfl hS (by rw [er]; exact hP) ⟨(if_neg hne).symm, fun h => absurd h hne⟩
                ·
                  have hd2 := dg_of c_18
                  rw [if_pos hd2, if_pos hd2] at hP hD
                  have hP : va_P E.1 vwCl [ob m0 7 [.int lf, .int tr, .ref z0, .ref z1, .ref z2, .int (nI n), .ref y0, .ref y1, .ref y2, .int (nI (at_ + 1 + 1 + 1)), .int (nI (rwi + 1)), .ref y3, .ref y4, .int sl, .int cr, .int gr, .ref y5, .ref y6, .int (nI rc), .ref x0, .ref x1, .ref x2, .ref x3], ar E z2 240 cc, ar E y3 18 (upd (upd (upd rd (3 * rwi) 2) ((3 * rwi) + 1) (cc (at_ + 1) - 48)) ((3 * rwi) + 2) (cc (at_ + 1 + 1) - 48))] H := hP
                  have hD : va_D A [ob m0 7 [.int lf, .int tr, .ref z0, .ref z1, .ref z2, .int (nI n), .ref y0, .ref y1, .ref y2, .int (nI (at_ + 1 + 1 + 1)), .int (nI (rwi + 1)), .ref y3, .ref y4, .int sl, .int cr, .int gr, .ref y5, .ref y6, .int (nI rc), .ref x0, .ref x1, .ref x2, .ref x3], ar E z2 240 cc, ar E y3 18 (upd (upd (upd rd (3 * rwi) 2) ((3 * rwi) + 1) (cc (at_ + 1) - 48)) ((3 * rwi) + 2) (cc (at_ + 1 + 1) - 48))] := hD
                  refine lv_iconst (v := 1) hx hb dX7_readWire_191 (by decide) ?_
                  refine lv_goto (tgt := 196) hx hb dX7_readWire_192 (by decide) ?_
                  have e9 : mn9 (roomF 2 (cc (at_ + 1) - 48)) = roomF 2 (cc (at_ + 1) - 48) := if_pos c_15
                  have hd3 : dgP cc (at_ + 2) e_ 0 (roomF 2 (cc (at_ + 1) - 48)) := hd2
                  have er : rwA cc at_ e_ = at_ + 3 := by rw [rwA, if_neg (not_not_intro (show at_ < e_ ∧ ¬ kdF (cc at_) = -9 from ⟨by omega, by rw [hkd]; decide⟩)), if_neg (not_not_intro hd1), hkd, e9, if_neg (not_not_intro hd3)]
                  exact hret _ _ _ _ _ (upd (upd (upd rd (3 * rwi) 2) ((3 * rwi) + 1) (cc (at_ + 1) - 48)) ((3 * rwi) + 2) (cc (at_ + 1 + 1) - 48), nI (rwi + 1)) dX7_readWire_196 rfl hS (by rw [er]; exact hP) ⟨(if_pos er).symm, fun _ => ⟨rfl, congrArg (fun z => upd (upd (upd rd (3 * rwi) z) (3 * rwi + 1) (cc (at_ + 1) - 48)) (3 * rwi + 2) (cc (at_ + 2) - 48)) hkd.symm⟩⟩
              ·
                have c_15b := Int32.not_le.mp c_15
                refine lv_bipush (v := 9) hx hb dX7_readWire_157 (by decide) ?_
                refine lv_goto (tgt := 164) hx hb dX7_readWire_159 (by decide) ?_
                refine cwVi (As := [.int (nI e_), .int 0, .int 9]) (rest := [.int (nI ((3 * rwi) + 2)), .ref y3]) ⟨hx, hb, hml, hown, hts⟩ (c_X7_digit l E _ m0 lf tr z0 z1 z2 n y0 y1 y2 (at_ + 1 + 1) rwi y3 y4 sl cr gr y5 y6 rc x0 x1 x2 x3 cc e_ 0 9 (by first | assumption | omega) (by first | assumption | omega)) (cwV 3 hts gX7_readWire_X7_digit rfl rfl rfl (by decide +kernel) ⟨Nat.le_of_ble_eq_true rfl, Nat.le_of_ble_eq_true rfl⟩) hK hP hD hS hA [0, 1] (by decide) rfl [m0, z2] (fun _ => rfl) rfl 0 rfl rfl rfl rfl hl.1 rfl (catLe (Nat.le_of_ble_eq_true rfl)) dX7_readWire_164 ⟨Nat.zero_le _, Nat.zero_le _⟩ (fun r_19 u_20 H locs hwr_19 hP hD hS => ?_)
                have hP : va_P E.1 vwCl [ob m0 7 [.int lf, .int tr, .ref z0, .ref z1, .ref z2, .int (nI n), .ref y0, .ref y1, .ref y2, .int (nI (if dgP cc (at_ + 1 + 1) e_ 0 9 then (at_ + 1 + 1) + 1 else (at_ + 1 + 1))), .int (nI rwi), .ref y3, .ref y4, .int sl, .int cr, .int gr, .ref y5, .ref y6, .int (nI rc), .ref x0, .ref x1, .ref x2, .ref x3], ar E z2 240 cc, ar E y3 18 (upd (upd rd (3 * rwi) 2) ((3 * rwi) + 1) (cc (at_ + 1) - 48))] H := hP
                have hD : va_D A [ob m0 7 [.int lf, .int tr, .ref z0, .ref z1, .ref z2, .int (nI n), .ref y0, .ref y1, .ref y2, .int (nI (if dgP cc (at_ + 1 + 1) e_ 0 9 then (at_ + 1 + 1) + 1 else (at_ + 1 + 1))), .int (nI rwi), .ref y3, .ref y4, .int sl, .int cr, .int gr, .ref y5, .ref y6, .int (nI rc), .ref x0, .ref x1, .ref x2, .ref x3], ar E z2 240 cc, ar E y3 18 (upd (upd rd (3 * rwi) 2) ((3 * rwi) + 1) (cc (at_ + 1) - 48))] := hD
                subst hwr_19
                refine ist hx hb hK hP hD hS 2 rfl (j := (3 * rwi) + 2) rfl (by omega) (by decide) dX7_readWire_167 (fun H locs hP hD hS => ?_)
                have hP : va_P E.1 vwCl [ob m0 7 [.int lf, .int tr, .ref z0, .ref z1, .ref z2, .int (nI n), .ref y0, .ref y1, .ref y2, .int (nI (if dgP cc (at_ + 1 + 1) e_ 0 9 then (at_ + 1 + 1) + 1 else (at_ + 1 + 1))), .int (nI rwi), .ref y3, .ref y4, .int sl, .int cr, .int gr, .ref y5, .ref y6, .int (nI rc), .ref x0, .ref x1, .ref x2, .ref x3], ar E z2 240 cc, ar E y3 18 (upd (upd (upd rd (3 * rwi) 2) ((3 * rwi) + 1) (cc (at_ + 1) - 48)) ((3 * rwi) + 2) (if dgP cc (at_ + 1 + 1) e_ 0 9 then cc (at_ + 1 + 1) - 48 else -9))] H := hP
                have hD : va_D A [ob m0 7 [.int lf, .int tr, .ref z0, .ref z1, .ref z2, .int (nI n), .ref y0, .ref y1, .ref y2, .int (nI (if dgP cc (at_ + 1 + 1) e_ 0 9 then (at_ + 1 + 1) + 1 else (at_ + 1 + 1))), .int (nI rwi), .ref y3, .ref y4, .int sl, .int cr, .int gr, .ref y5, .ref y6, .int (nI rc), .ref x0, .ref x1, .ref x2, .ref x3], ar E z2 240 cc, ar E y3 18 (upd (upd (upd rd (3 * rwi) 2) ((3 * rwi) + 1) (cc (at_ + 1) - 48)) ((3 * rwi) + 2) (if dgP cc (at_ + 1 + 1) e_ 0 9 then cc (at_ + 1 + 1) - 48 else -9))] := hD
                refine lv_aload_n hx hb dX7_readWire_168 rfl (lv_at hl 3 rfl) ?_
                refine lv_dup hx hb dX7_readWire_169 rfl ?_
                refine va_get (D := E.1) (ci := 7) (v := .int (nI rwi)) (C := RX7) (T := TX7) (N := 23) hx hb hts hinX7 hown hK.1 hP 0 rfl rfl 10 (by decide) fl_86 (fun _ h9 => h9) rfl dX7_readWire_170 ?_
                refine lv_iconst (v := 1) hx hb dX7_readWire_173 (by decide) ?_
                refine N_iadd (a := rwi) (b := 1) hx hb rfl rfl dX7_readWire_174 ?_
                refine va_put (D := E.1) (ci := 7) (v := .int (nI (rwi + 1))) (ty := .int) (C := RX7) (T := TX7) (N := 23) hx hb hts hinX7 tyX7 tyX7_ok nmX7 hown hK.1 hP hD hS 0 rfl rfl 10 (by decide) fl_86 (fun _ h9 => h9) rfl (by decide +kernel) rfl rfl (Nat.le_of_ble_eq_true rfl) dX7_readWire_175 (fun H locs hP hD hS => ?_)
                have hP : va_P E.1 vwCl [ob m0 7 [.int lf, .int tr, .ref z0, .ref z1, .ref z2, .int (nI n), .ref y0, .ref y1, .ref y2, .int (nI (if dgP cc (at_ + 1 + 1) e_ 0 9 then (at_ + 1 + 1) + 1 else (at_ + 1 + 1))), .int (nI (rwi + 1)), .ref y3, .ref y4, .int sl, .int cr, .int gr, .ref y5, .ref y6, .int (nI rc), .ref x0, .ref x1, .ref x2, .ref x3], ar E z2 240 cc, ar E y3 18 (upd (upd (upd rd (3 * rwi) 2) ((3 * rwi) + 1) (cc (at_ + 1) - 48)) ((3 * rwi) + 2) (if dgP cc (at_ + 1 + 1) e_ 0 9 then cc (at_ + 1 + 1) - 48 else -9))] H := hP
                have hD : va_D A [ob m0 7 [.int lf, .int tr, .ref z0, .ref z1, .ref z2, .int (nI n), .ref y0, .ref y1, .ref y2, .int (nI (if dgP cc (at_ + 1 + 1) e_ 0 9 then (at_ + 1 + 1) + 1 else (at_ + 1 + 1))), .int (nI (rwi + 1)), .ref y3, .ref y4, .int sl, .int cr, .int gr, .ref y5, .ref y6, .int (nI rc), .ref x0, .ref x1, .ref x2, .ref x3], ar E z2 240 cc, ar E y3 18 (upd (upd (upd rd (3 * rwi) 2) ((3 * rwi) + 1) (cc (at_ + 1) - 48)) ((3 * rwi) + 2) (if dgP cc (at_ + 1 + 1) e_ 0 9 then cc (at_ + 1 + 1) - 48 else -9))] := hD
                refine lv_aload_n hx hb dX7_readWire_178 rfl (lv_at hl 3 rfl) ?_
                refine va_get (D := E.1) (ci := 7) (v := .ref y3) (C := RX7) (T := TX7) (N := 23) hx hb hts hinX7 hown hK.1 hP 0 rfl rfl 11 (by decide) fl_28 (fun _ h9 => h9) rfl dX7_readWire_179 ?_
                refine lv_iload_n hx hb dX7_readWire_182 rfl (lv_at hl 1 rfl) ?_
                refine lv_iconst (v := 2) hx hb dX7_readWire_183 (by decide) ?_
                refine N_iadd (a := 3 * rwi) (b := 2) hx hb rfl rfl dX7_readWire_184 ?_
                refine ild hx hb hK hP 2 rfl (j := (3 * rwi) + 2) rfl (by omega) (by decide) dX7_readWire_185 ?_
                rw [pk_us]
                refine lv_bipush (v := (-9)) hx hb dX7_readWire_186 (by decide) ?_
                refine lv_icmp_eq (tgt := 195) hx hb dX7_readWire_188 (by decide) (fun c_21 => ?_) (fun c_21 => ?_)
                ·
                  have hd2 := dg_no (by decide) (by decide) c_21
                  rw [if_neg hd2, if_neg hd2] at hP hD
                  have hP : va_P E.1 vwCl [ob m0 7 [.int lf, .int tr, .ref z0, .ref z1, .ref z2, .int (nI n), .ref y0, .ref y1, .ref y2, .int (nI (at_ + 1 + 1)), .int (nI (rwi + 1)), .ref y3, .ref y4, .int sl, .int cr, .int gr, .ref y5, .ref y6, .int (nI rc), .ref x0, .ref x1, .ref x2, .ref x3], ar E z2 240 cc, ar E y3 18 (upd (upd (upd rd (3 * rwi) 2) ((3 * rwi) + 1) (cc (at_ + 1) - 48)) ((3 * rwi) + 2) (-9))] H := hP
                  have hD : va_D A [ob m0 7 [.int lf, .int tr, .ref z0, .ref z1, .ref z2, .int (nI n), .ref y0, .ref y1, .ref y2, .int (nI (at_ + 1 + 1)), .int (nI (rwi + 1)), .ref y3, .ref y4, .int sl, .int cr, .int gr, .ref y5, .ref y6, .int (nI rc), .ref x0, .ref x1, .ref x2, .ref x3], ar E z2 240 cc, ar E y3 18 (upd (upd (upd rd (3 * rwi) 2) ((3 * rwi) + 1) (cc (at_ + 1) - 48)) ((3 * rwi) + 2) (-9))] := hD
                  refine lv_iconst (v := 0) hx hb dX7_readWire_195 (by decide) ?_
                  have e9 : mn9 (roomF 2 (cc (at_ + 1) - 48)) = 9 := if_neg c_15
                  have hd3 : ¬ dgP cc (at_ + 2) e_ 0 (9) := hd2
                  have er : rwA cc at_ e_ = at_ + 2 := by rw [rwA, if_neg (not_not_intro (show at_ < e_ ∧ ¬ kdF (cc at_) = -9 from ⟨by omega, by rw [hkd]; decide⟩)), if_neg (not_not_intro hd1), hkd, e9, if_pos hd3]
                  have hne : ¬ rwA cc at_ e_ = at_ + 3 := by rw [er]; omega
                  exact hret _ _ _ _ _ (upd (upd (upd rd (3 * rwi) 2) ((3 * rwi) + 1) (cc (at_ + 1) - 48)) ((3 * rwi) + 2) (-9), nI (rwi + 1)) dX7_readWire_196 rfl hS (by rw [er]; exact hP) ⟨(if_neg hne).symm, fun h => absurd h hne⟩
                ·
                  have hd2 := dg_of c_21
                  rw [if_pos hd2, if_pos hd2] at hP hD
                  have hP : va_P E.1 vwCl [ob m0 7 [.int lf, .int tr, .ref z0, .ref z1, .ref z2, .int (nI n), .ref y0, .ref y1, .ref y2, .int (nI (at_ + 1 + 1 + 1)), .int (nI (rwi + 1)), .ref y3, .ref y4, .int sl, .int cr, .int gr, .ref y5, .ref y6, .int (nI rc), .ref x0, .ref x1, .ref x2, .ref x3], ar E z2 240 cc, ar E y3 18 (upd (upd (upd rd (3 * rwi) 2) ((3 * rwi) + 1) (cc (at_ + 1) - 48)) ((3 * rwi) + 2) (cc (at_ + 1 + 1) - 48))] H := hP
                  have hD : va_D A [ob m0 7 [.int lf, .int tr, .ref z0, .ref z1, .ref z2, .int (nI n), .ref y0, .ref y1, .ref y2, .int (nI (at_ + 1 + 1 + 1)), .int (nI (rwi + 1)), .ref y3, .ref y4, .int sl, .int cr, .int gr, .ref y5, .ref y6, .int (nI rc), .ref x0, .ref x1, .ref x2, .ref x3], ar E z2 240 cc, ar E y3 18 (upd (upd (upd rd (3 * rwi) 2) ((3 * rwi) + 1) (cc (at_ + 1) - 48)) ((3 * rwi) + 2) (cc (at_ + 1 + 1) - 48))] := hD
                  refine lv_iconst (v := 1) hx hb dX7_readWire_191 (by decide) ?_
                  refine lv_goto (tgt := 196) hx hb dX7_readWire_192 (by decide) ?_
                  have e9 : mn9 (roomF 2 (cc (at_ + 1) - 48)) = 9 := if_neg c_15
                  have hd3 : dgP cc (at_ + 2) e_ 0 (9) := hd2
                  have er : rwA cc at_ e_ = at_ + 3 := by rw [rwA, if_neg (not_not_intro (show at_ < e_ ∧ ¬ kdF (cc at_) = -9 from ⟨by omega, by rw [hkd]; decide⟩)), if_neg (not_not_intro hd1), hkd, e9, if_neg (not_not_intro hd3)]
                  exact hret _ _ _ _ _ (upd (upd (upd rd (3 * rwi) 2) ((3 * rwi) + 1) (cc (at_ + 1) - 48)) ((3 * rwi) + 2) (cc (at_ + 1 + 1) - 48), nI (rwi + 1)) dX7_readWire_196 rfl hS (by rw [er]; exact hP) ⟨(if_pos er).symm, fun _ => ⟨rfl, congrArg (fun z => upd (upd (upd rd (3 * rwi) z) (3 * rwi + 1) (cc (at_ + 1) - 48)) (3 * rwi + 2) (cc (at_ + 2) - 48)) hkd.symm⟩⟩
            ·
              have hd1 := dg_no (by decide) (by decide) c_13
              rw [if_neg hd1, if_neg hd1] at hP hD
              have hP : va_P E.1 vwCl [ob m0 7 [.int lf, .int tr, .ref z0, .ref z1, .ref z2, .int (nI n), .ref y0, .ref y1, .ref y2, .int (nI (at_ + 1)), .int (nI rwi), .ref y3, .ref y4, .int sl, .int cr, .int gr, .ref y5, .ref y6, .int (nI rc), .ref x0, .ref x1, .ref x2, .ref x3], ar E z2 240 cc, ar E y3 18 (upd (upd rd (3 * rwi) 2) ((3 * rwi) + 1) (-9))] H := hP
              have hD : va_D A [ob m0 7 [.int lf, .int tr, .ref z0, .ref z1, .ref z2, .int (nI n), .ref y0, .ref y1, .ref y2, .int (nI (at_ + 1)), .int (nI rwi), .ref y3, .ref y4, .int sl, .int cr, .int gr, .ref y5, .ref y6, .int (nI rc), .ref x0, .ref x1, .ref x2, .ref x3], ar E z2 240 cc, ar E y3 18 (upd (upd rd (3 * rwi) 2) ((3 * rwi) + 1) (-9))] := hD
              refine lv_iconst (v := 0) hx hb dX7_readWire_119 (by decide) ?_
              have er : rwA cc at_ e_ = at_ + 1 := by rw [rwA, if_neg (not_not_intro (show at_ < e_ ∧ ¬ kdF (cc at_) = -9 from ⟨by omega, by rw [hkd]; decide⟩)), if_pos hd1]
              have hne : ¬ rwA cc at_ e_ = at_ + 3 := by rw [er]; omega
              exact hret _ _ _ _ _ (upd (upd rd (3 * rwi) 2) ((3 * rwi) + 1) (-9), nI rwi) dX7_readWire_120 rfl hS (by rw [er]; exact hP) ⟨(if_neg hne).symm, fun h => absurd h hne⟩
          ·
            exact absurd c_10 (by decide)
      ·
        refine lv_iconst (v := 1) hx hb dX7_readWire_50 (by decide) ?_
        refine lv_goto (tgt := 66) hx hb dX7_readWire_51 (by decide) ?_
        have hkd : kdF (cc at_) = 1 := by rw [c_7]; rfl
        refine ist hx hb hK hP hD hS 2 rfl (j := 3 * rwi) rfl (by omega) (by decide) dX7_readWire_66 (fun H locs hP hD hS => ?_)
        have hP : va_P E.1 vwCl [ob m0 7 [.int lf, .int tr, .ref z0, .ref z1, .ref z2, .int (nI n), .ref y0, .ref y1, .ref y2, .int (nI at_), .int (nI rwi), .ref y3, .ref y4, .int sl, .int cr, .int gr, .ref y5, .ref y6, .int (nI rc), .ref x0, .ref x1, .ref x2, .ref x3], ar E z2 240 cc, ar E y3 18 (upd rd (3 * rwi) 1)] H := hP
        have hD : va_D A [ob m0 7 [.int lf, .int tr, .ref z0, .ref z1, .ref z2, .int (nI n), .ref y0, .ref y1, .ref y2, .int (nI at_), .int (nI rwi), .ref y3, .ref y4, .int sl, .int cr, .int gr, .ref y5, .ref y6, .int (nI rc), .ref x0, .ref x1, .ref x2, .ref x3], ar E z2 240 cc, ar E y3 18 (upd rd (3 * rwi) 1)] := hD
        refine lv_aload_n hx hb dX7_readWire_67 rfl (lv_at hl 2 rfl) ?_
        refine va_get (D := E.1) (ci := 7) (v := .ref y3) (C := RX7) (T := TX7) (N := 23) hx hb hts hinX7 hown hK.1 hP 0 rfl rfl 11 (by decide) fl_28 (fun _ h9 => h9) rfl dX7_readWire_68 ?_
        refine lv_iload_n hx hb dX7_readWire_71 rfl (lv_at hl 0 rfl) ?_
        refine ild hx hb hK hP 2 rfl (j := 3 * rwi) rfl (by omega) (by decide) dX7_readWire_72 ?_
        rw [pk_us]
        refine lv_bipush (v := (-9)) hx hb dX7_readWire_73 (by decide) ?_
        refine lv_icmp_ne (tgt := 80) hx hb dX7_readWire_75 (by decide) (fun c_22 => ?_) (fun c_22 => ?_)
        ·
          refine lv_aload_n hx hb dX7_readWire_80 rfl (lv_at hl 2 rfl) ?_
          refine lv_dup hx hb dX7_readWire_81 rfl ?_
          refine va_get (D := E.1) (ci := 7) (v := .int (nI at_)) (C := RX7) (T := TX7) (N := 23) hx hb hts hinX7 hown hK.1 hP 0 rfl rfl 9 (by decide) fl_65 (fun _ h9 => h9) rfl dX7_readWire_82 ?_
          refine lv_iconst (v := 1) hx hb dX7_readWire_85 (by decide) ?_
          refine N_iadd (a := at_) (b := 1) hx hb rfl rfl dX7_readWire_86 ?_
          refine va_put (D := E.1) (ci := 7) (v := .int (nI (at_ + 1))) (ty := .int) (C := RX7) (T := TX7) (N := 23) hx hb hts hinX7 tyX7 tyX7_ok nmX7 hown hK.1 hP hD hS 0 rfl rfl 9 (by decide) fl_65 (fun _ h9 => h9) rfl (by decide +kernel) rfl rfl (Nat.le_of_ble_eq_true rfl) dX7_readWire_87 (fun H locs hP hD hS => ?_)
          have hP : va_P E.1 vwCl [ob m0 7 [.int lf, .int tr, .ref z0, .ref z1, .ref z2, .int (nI n), .ref y0, .ref y1, .ref y2, .int (nI (at_ + 1)), .int (nI rwi), .ref y3, .ref y4, .int sl, .int cr, .int gr, .ref y5, .ref y6, .int (nI rc), .ref x0, .ref x1, .ref x2, .ref x3], ar E z2 240 cc, ar E y3 18 (upd rd (3 * rwi) 1)] H := hP
          have hD : va_D A [ob m0 7 [.int lf, .int tr, .ref z0, .ref z1, .ref z2, .int (nI n), .ref y0, .ref y1, .ref y2, .int (nI (at_ + 1)), .int (nI rwi), .ref y3, .ref y4, .int sl, .int cr, .int gr, .ref y5, .ref y6, .int (nI rc), .ref x0, .ref x1, .ref x2, .ref x3], ar E z2 240 cc, ar E y3 18 (upd rd (3 * rwi) 1)] := hD
          refine lv_aload_n hx hb dX7_readWire_90 rfl (lv_at hl 2 rfl) ?_
          refine va_get (D := E.1) (ci := 7) (v := .ref y3) (C := RX7) (T := TX7) (N := 23) hx hb hts hinX7 hown hK.1 hP 0 rfl rfl 11 (by decide) fl_28 (fun _ h9 => h9) rfl dX7_readWire_91 ?_
          refine lv_iload_n hx hb dX7_readWire_94 rfl (lv_at hl 0 rfl) ?_
          refine lv_iconst (v := 1) hx hb dX7_readWire_95 (by decide) ?_
          refine N_iadd (a := 3 * rwi) (b := 1) hx hb rfl rfl dX7_readWire_96 ?_
          refine lv_aload_n hx hb dX7_readWire_97 rfl (lv_at hl 2 rfl) ?_
          refine lv_iload_n hx hb dX7_readWire_98 rfl (lv_at hl 3 rfl) ?_
          refine lv_iconst (v := 1) hx hb dX7_readWire_99 (by decide) ?_
          refine lv_bipush (v := 9) hx hb dX7_readWire_100 (by decide) ?_
          refine cwVi (As := [.int (nI e_), .int 1, .int 9]) (rest := [.int (nI ((3 * rwi) + 1)), .ref y3]) ⟨hx, hb, hml, hown, hts⟩ (c_X7_digit l E _ m0 lf tr z0 z1 z2 n y0 y1 y2 (at_ + 1) rwi y3 y4 sl cr gr y5 y6 rc x0 x1 x2 x3 cc e_ 1 9 (by first | assumption | omega) (by first | assumption | omega)) (cwV 3 hts gX7_readWire_X7_digit rfl rfl rfl (by decide +kernel) ⟨Nat.le_of_ble_eq_true rfl, Nat.le_of_ble_eq_true rfl⟩) hK hP hD hS hA [0, 1] (by decide) rfl [m0, z2] (fun _ => rfl) rfl 0 rfl rfl rfl rfl hl.1 rfl (catLe (Nat.le_of_ble_eq_true rfl)) dX7_readWire_102 ⟨Nat.zero_le _, Nat.zero_le _⟩ (fun r_23 u_24 H locs hwr_23 hP hD hS => ?_)
          have hP : va_P E.1 vwCl [ob m0 7 [.int lf, .int tr, .ref z0, .ref z1, .ref z2, .int (nI n), .ref y0, .ref y1, .ref y2, .int (nI (if dgP cc (at_ + 1) e_ 1 9 then (at_ + 1) + 1 else (at_ + 1))), .int (nI rwi), .ref y3, .ref y4, .int sl, .int cr, .int gr, .ref y5, .ref y6, .int (nI rc), .ref x0, .ref x1, .ref x2, .ref x3], ar E z2 240 cc, ar E y3 18 (upd rd (3 * rwi) 1)] H := hP
          have hD : va_D A [ob m0 7 [.int lf, .int tr, .ref z0, .ref z1, .ref z2, .int (nI n), .ref y0, .ref y1, .ref y2, .int (nI (if dgP cc (at_ + 1) e_ 1 9 then (at_ + 1) + 1 else (at_ + 1))), .int (nI rwi), .ref y3, .ref y4, .int sl, .int cr, .int gr, .ref y5, .ref y6, .int (nI rc), .ref x0, .ref x1, .ref x2, .ref x3], ar E z2 240 cc, ar E y3 18 (upd rd (3 * rwi) 1)] := hD
          subst hwr_23
          refine ist hx hb hK hP hD hS 2 rfl (j := (3 * rwi) + 1) rfl (by omega) (by decide) dX7_readWire_105 (fun H locs hP hD hS => ?_)
          have hP : va_P E.1 vwCl [ob m0 7 [.int lf, .int tr, .ref z0, .ref z1, .ref z2, .int (nI n), .ref y0, .ref y1, .ref y2, .int (nI (if dgP cc (at_ + 1) e_ 1 9 then (at_ + 1) + 1 else (at_ + 1))), .int (nI rwi), .ref y3, .ref y4, .int sl, .int cr, .int gr, .ref y5, .ref y6, .int (nI rc), .ref x0, .ref x1, .ref x2, .ref x3], ar E z2 240 cc, ar E y3 18 (upd (upd rd (3 * rwi) 1) ((3 * rwi) + 1) (if dgP cc (at_ + 1) e_ 1 9 then cc (at_ + 1) - 48 else -9))] H := hP
          have hD : va_D A [ob m0 7 [.int lf, .int tr, .ref z0, .ref z1, .ref z2, .int (nI n), .ref y0, .ref y1, .ref y2, .int (nI (if dgP cc (at_ + 1) e_ 1 9 then (at_ + 1) + 1 else (at_ + 1))), .int (nI rwi), .ref y3, .ref y4, .int sl, .int cr, .int gr, .ref y5, .ref y6, .int (nI rc), .ref x0, .ref x1, .ref x2, .ref x3], ar E z2 240 cc, ar E y3 18 (upd (upd rd (3 * rwi) 1) ((3 * rwi) + 1) (if dgP cc (at_ + 1) e_ 1 9 then cc (at_ + 1) - 48 else -9))] := hD
          refine lv_aload_n hx hb dX7_readWire_106 rfl (lv_at hl 2 rfl) ?_
          refine va_get (D := E.1) (ci := 7) (v := .ref y3) (C := RX7) (T := TX7) (N := 23) hx hb hts hinX7 hown hK.1 hP 0 rfl rfl 11 (by decide) fl_28 (fun _ h9 => h9) rfl dX7_readWire_107 ?_
          refine lv_iload_n hx hb dX7_readWire_110 rfl (lv_at hl 0 rfl) ?_
          refine lv_iconst (v := 1) hx hb dX7_readWire_111 (by decide) ?_
          refine N_iadd (a := 3 * rwi) (b := 1) hx hb rfl rfl dX7_readWire_112 ?_
          refine ild hx hb hK hP 2 rfl (j := (3 * rwi) + 1) rfl (by omega) (by decide) dX7_readWire_113 ?_
          rw [pk_us]
          refine lv_bipush (v := (-9)) hx hb dX7_readWire_114 (by decide) ?_
          refine lv_icmp_ne (tgt := 121) hx hb dX7_readWire_116 (by decide) (fun c_25 => ?_) (fun c_25 => ?_)
          ·
            have hd1 := dg_of c_25
            have hd1a := hd1.1
            rw [if_pos hd1, if_pos hd1] at hP hD
            have hP : va_P E.1 vwCl [ob m0 7 [.int lf, .int tr, .ref z0, .ref z1, .ref z2, .int (nI n), .ref y0, .ref y1, .ref y2, .int (nI (at_ + 1 + 1)), .int (nI rwi), .ref y3, .ref y4, .int sl, .int cr, .int gr, .ref y5, .ref y6, .int (nI rc), .ref x0, .ref x1, .ref x2, .ref x3], ar E z2 240 cc, ar E y3 18 (upd (upd rd (3 * rwi) 1) ((3 * rwi) + 1) (cc (at_ + 1) - 48))] H := hP
            have hD : va_D A [ob m0 7 [.int lf, .int tr, .ref z0, .ref z1, .ref z2, .int (nI n), .ref y0, .ref y1, .ref y2, .int (nI (at_ + 1 + 1)), .int (nI rwi), .ref y3, .ref y4, .int sl, .int cr, .int gr, .ref y5, .ref y6, .int (nI rc), .ref x0, .ref x1, .ref x2, .ref x3], ar E z2 240 cc, ar E y3 18 (upd (upd rd (3 * rwi) 1) ((3 * rwi) + 1) (cc (at_ + 1) - 48))] := hD
            refine lv_aload_n hx hb dX7_readWire_121 rfl (lv_at hl 2 rfl) ?_
            refine va_get (D := E.1) (ci := 7) (v := .ref y3) (C := RX7) (T := TX7) (N := 23) hx hb hts hinX7 hown hK.1 hP 0 rfl rfl 11 (by decide) fl_28 (fun _ h9 => h9) rfl dX7_readWire_122 ?_
            refine lv_iload_n hx hb dX7_readWire_125 rfl (lv_at hl 0 rfl) ?_
            refine ild hx hb hK hP 2 rfl (j := 3 * rwi) rfl (by omega) (by decide) dX7_readWire_126 ?_
            rw [pk_un (by omega), pk_us]
            refine lv_aload_n hx hb dX7_readWire_127 rfl (lv_at hl 2 rfl) ?_
            refine va_get (D := E.1) (ci := 7) (v := .ref y3) (C := RX7) (T := TX7) (N := 23) hx hb hts hinX7 hown hK.1 hP 0 rfl rfl 11 (by decide) fl_28 (fun _ h9 => h9) rfl dX7_readWire_128 ?_
            refine lv_iload_n hx hb dX7_readWire_131 rfl (lv_at hl 0 rfl) ?_
            refine lv_iconst (v := 1) hx hb dX7_readWire_132 (by decide) ?_
            refine N_iadd (a := 3 * rwi) (b := 1) hx hb rfl rfl dX7_readWire_133 ?_
            refine ild hx hb hK hP 2 rfl (j := (3 * rwi) + 1) rfl (by omega) (by decide) dX7_readWire_134 ?_
            rw [pk_us]
            refine crS (As := [.int 1, .int (cc (at_ + 1) - 48)]) (rest := []) ⟨hx, hb, hml, hown, hts⟩ (c_X7_roomFor l E 1 (cc (at_ + 1) - 48) (by decide)) (va_cwS 2 hts gX7_readWire_X7_roomFor rfl rfl rfl (by decide +kernel) ⟨Nat.le_of_ble_eq_true rfl, Nat.le_of_ble_eq_true rfl⟩) hK hP [] rfl rfl hl.1 rfl (catLe (Nat.le_of_ble_eq_true rfl)) dX7_readWire_135 ⟨Nat.zero_le _, Nat.zero_le _⟩ (fun r_26 hr_26 => ?_)
            subst hr_26
            refine lv_istore (lv' := [(4, .int (roomF 1 (cc (at_ + 1) - 48))), (3, .int (nI (3 * rwi))), (2, .int (cc at_)), (0, .ref m0), (1, .int (nI e_))]) hx hb dX7_readWire_138 hl (by decide) rfl (fun ls hl => ?_)
            refine lv_aload_n hx hb dX7_readWire_140 rfl (lv_at hl 3 rfl) ?_
            refine va_get (D := E.1) (ci := 7) (v := .ref y3) (C := RX7) (T := TX7) (N := 23) hx hb hts hinX7 hown hK.1 hP 0 rfl rfl 11 (by decide) fl_28 (fun _ h9 => h9) rfl dX7_readWire_141 ?_
            refine lv_iload_n hx hb dX7_readWire_144 rfl (lv_at hl 1 rfl) ?_
            refine lv_iconst (v := 2) hx hb dX7_readWire_145 (by decide) ?_
            refine N_iadd (a := 3 * rwi) (b := 2) hx hb rfl rfl dX7_readWire_146 ?_
            refine lv_aload_n hx hb dX7_readWire_147 rfl (lv_at hl 3 rfl) ?_
            refine lv_iload_n hx hb dX7_readWire_148 rfl (lv_at hl 4 rfl) ?_
            refine lv_iconst (v := 0) hx hb dX7_readWire_149 (by decide) ?_
            refine lv_iload hx hb dX7_readWire_150 (lv_at hl 0 rfl) ?_
            refine lv_bipush (v := 9) hx hb dX7_readWire_152 (by decide) ?_
            refine lv_icmp_le (tgt := 162) hx hb dX7_readWire_154 (by decide) (fun c_27 => ?_) (fun c_27 => ?_)
            ·
              have c_27b := Int32.not_lt.mpr c_27
              refine lv_iload hx hb dX7_readWire_162 (lv_at hl 0 rfl) ?_
              refine cwVi (As := [.int (nI e_), .int 0, .int (roomF 1 (cc (at_ + 1) - 48))]) (rest := [.int (nI ((3 * rwi) + 2)), .ref y3]) ⟨hx, hb, hml, hown, hts⟩ (c_X7_digit l E _ m0 lf tr z0 z1 z2 n y0 y1 y2 (at_ + 1 + 1) rwi y3 y4 sl cr gr y5 y6 rc x0 x1 x2 x3 cc e_ 0 (roomF 1 (cc (at_ + 1) - 48)) (by first | assumption | omega) (by first | assumption | omega)) (cwV 3 hts gX7_readWire_X7_digit rfl rfl rfl (by decide +kernel) ⟨Nat.le_of_ble_eq_true rfl, Nat.le_of_ble_eq_true rfl⟩) hK hP hD hS hA [0, 1] (by decide) rfl [m0, z2] (fun _ => rfl) rfl 0 rfl rfl rfl rfl hl.1 rfl (catLe (Nat.le_of_ble_eq_true rfl)) dX7_readWire_164 ⟨Nat.zero_le _, Nat.zero_le _⟩ (fun r_28 u_29 H locs hwr_28 hP hD hS => ?_)
              have hP : va_P E.1 vwCl [ob m0 7 [.int lf, .int tr, .ref z0, .ref z1, .ref z2, .int (nI n), .ref y0, .ref y1, .ref y2, .int (nI (if dgP cc (at_ + 1 + 1) e_ 0 (roomF 1 (cc (at_ + 1) - 48)) then (at_ + 1 + 1) + 1 else (at_ + 1 + 1))), .int (nI rwi), .ref y3, .ref y4, .int sl, .int cr, .int gr, .ref y5, .ref y6, .int (nI rc), .ref x0, .ref x1, .ref x2, .ref x3], ar E z2 240 cc, ar E y3 18 (upd (upd rd (3 * rwi) 1) ((3 * rwi) + 1) (cc (at_ + 1) - 48))] H := hP
              have hD : va_D A [ob m0 7 [.int lf, .int tr, .ref z0, .ref z1, .ref z2, .int (nI n), .ref y0, .ref y1, .ref y2, .int (nI (if dgP cc (at_ + 1 + 1) e_ 0 (roomF 1 (cc (at_ + 1) - 48)) then (at_ + 1 + 1) + 1 else (at_ + 1 + 1))), .int (nI rwi), .ref y3, .ref y4, .int sl, .int cr, .int gr, .ref y5, .ref y6, .int (nI rc), .ref x0, .ref x1, .ref x2, .ref x3], ar E z2 240 cc, ar E y3 18 (upd (upd rd (3 * rwi) 1) ((3 * rwi) + 1) (cc (at_ + 1) - 48))] := hD
              subst hwr_28
              refine ist hx hb hK hP hD hS 2 rfl (j := (3 * rwi) + 2) rfl (by omega) (by decide) dX7_readWire_167 (fun H locs hP hD hS => ?_)
              have hP : va_P E.1 vwCl [ob m0 7 [.int lf, .int tr, .ref z0, .ref z1, .ref z2, .int (nI n), .ref y0, .ref y1, .ref y2, .int (nI (if dgP cc (at_ + 1 + 1) e_ 0 (roomF 1 (cc (at_ + 1) - 48)) then (at_ + 1 + 1) + 1 else (at_ + 1 + 1))), .int (nI rwi), .ref y3, .ref y4, .int sl, .int cr, .int gr, .ref y5, .ref y6, .int (nI rc), .ref x0, .ref x1, .ref x2, .ref x3], ar E z2 240 cc, ar E y3 18 (upd (upd (upd rd (3 * rwi) 1) ((3 * rwi) + 1) (cc (at_ + 1) - 48)) ((3 * rwi) + 2) (if dgP cc (at_ + 1 + 1) e_ 0 (roomF 1 (cc (at_ + 1) - 48)) then cc (at_ + 1 + 1) - 48 else -9))] H := hP
              have hD : va_D A [ob m0 7 [.int lf, .int tr, .ref z0, .ref z1, .ref z2, .int (nI n), .ref y0, .ref y1, .ref y2, .int (nI (if dgP cc (at_ + 1 + 1) e_ 0 (roomF 1 (cc (at_ + 1) - 48)) then (at_ + 1 + 1) + 1 else (at_ + 1 + 1))), .int (nI rwi), .ref y3, .ref y4, .int sl, .int cr, .int gr, .ref y5, .ref y6, .int (nI rc), .ref x0, .ref x1, .ref x2, .ref x3], ar E z2 240 cc, ar E y3 18 (upd (upd (upd rd (3 * rwi) 1) ((3 * rwi) + 1) (cc (at_ + 1) - 48)) ((3 * rwi) + 2) (if dgP cc (at_ + 1 + 1) e_ 0 (roomF 1 (cc (at_ + 1) - 48)) then cc (at_ + 1 + 1) - 48 else -9))] := hD
              refine lv_aload_n hx hb dX7_readWire_168 rfl (lv_at hl 3 rfl) ?_
              refine lv_dup hx hb dX7_readWire_169 rfl ?_
              refine va_get (D := E.1) (ci := 7) (v := .int (nI rwi)) (C := RX7) (T := TX7) (N := 23) hx hb hts hinX7 hown hK.1 hP 0 rfl rfl 10 (by decide) fl_86 (fun _ h9 => h9) rfl dX7_readWire_170 ?_
              refine lv_iconst (v := 1) hx hb dX7_readWire_173 (by decide) ?_
              refine N_iadd (a := rwi) (b := 1) hx hb rfl rfl dX7_readWire_174 ?_
              refine va_put (D := E.1) (ci := 7) (v := .int (nI (rwi + 1))) (ty := .int) (C := RX7) (T := TX7) (N := 23) hx hb hts hinX7 tyX7 tyX7_ok nmX7 hown hK.1 hP hD hS 0 rfl rfl 10 (by decide) fl_86 (fun _ h9 => h9) rfl (by decide +kernel) rfl rfl (Nat.le_of_ble_eq_true rfl) dX7_readWire_175 (fun H locs hP hD hS => ?_)
              have hP : va_P E.1 vwCl [ob m0 7 [.int lf, .int tr, .ref z0, .ref z1, .ref z2, .int (nI n), .ref y0, .ref y1, .ref y2, .int (nI (if dgP cc (at_ + 1 + 1) e_ 0 (roomF 1 (cc (at_ + 1) - 48)) then (at_ + 1 + 1) + 1 else (at_ + 1 + 1))), .int (nI (rwi + 1)), .ref y3, .ref y4, .int sl, .int cr, .int gr, .ref y5, .ref y6, .int (nI rc), .ref x0, .ref x1, .ref x2, .ref x3], ar E z2 240 cc, ar E y3 18 (upd (upd (upd rd (3 * rwi) 1) ((3 * rwi) + 1) (cc (at_ + 1) - 48)) ((3 * rwi) + 2) (if dgP cc (at_ + 1 + 1) e_ 0 (roomF 1 (cc (at_ + 1) - 48)) then cc (at_ + 1 + 1) - 48 else -9))] H := hP
              have hD : va_D A [ob m0 7 [.int lf, .int tr, .ref z0, .ref z1, .ref z2, .int (nI n), .ref y0, .ref y1, .ref y2, .int (nI (if dgP cc (at_ + 1 + 1) e_ 0 (roomF 1 (cc (at_ + 1) - 48)) then (at_ + 1 + 1) + 1 else (at_ + 1 + 1))), .int (nI (rwi + 1)), .ref y3, .ref y4, .int sl, .int cr, .int gr, .ref y5, .ref y6, .int (nI rc), .ref x0, .ref x1, .ref x2, .ref x3], ar E z2 240 cc, ar E y3 18 (upd (upd (upd rd (3 * rwi) 1) ((3 * rwi) + 1) (cc (at_ + 1) - 48)) ((3 * rwi) + 2) (if dgP cc (at_ + 1 + 1) e_ 0 (roomF 1 (cc (at_ + 1) - 48)) then cc (at_ + 1 + 1) - 48 else -9))] := hD
              refine lv_aload_n hx hb dX7_readWire_178 rfl (lv_at hl 3 rfl) ?_
              refine va_get (D := E.1) (ci := 7) (v := .ref y3) (C := RX7) (T := TX7) (N := 23) hx hb hts hinX7 hown hK.1 hP 0 rfl rfl 11 (by decide) fl_28 (fun _ h9 => h9) rfl dX7_readWire_179 ?_
              refine lv_iload_n hx hb dX7_readWire_182 rfl (lv_at hl 1 rfl) ?_
              refine lv_iconst (v := 2) hx hb dX7_readWire_183 (by decide) ?_
              refine N_iadd (a := 3 * rwi) (b := 2) hx hb rfl rfl dX7_readWire_184 ?_
              refine ild hx hb hK hP 2 rfl (j := (3 * rwi) + 2) rfl (by omega) (by decide) dX7_readWire_185 ?_
              rw [pk_us]
              refine lv_bipush (v := (-9)) hx hb dX7_readWire_186 (by decide) ?_
              refine lv_icmp_eq (tgt := 195) hx hb dX7_readWire_188 (by decide) (fun c_30 => ?_) (fun c_30 => ?_)
              ·
                have hd2 := dg_no (by decide) (le9 c_27) c_30
                rw [if_neg hd2, if_neg hd2] at hP hD
                have hP : va_P E.1 vwCl [ob m0 7 [.int lf, .int tr, .ref z0, .ref z1, .ref z2, .int (nI n), .ref y0, .ref y1, .ref y2, .int (nI (at_ + 1 + 1)), .int (nI (rwi + 1)), .ref y3, .ref y4, .int sl, .int cr, .int gr, .ref y5, .ref y6, .int (nI rc), .ref x0, .ref x1, .ref x2, .ref x3], ar E z2 240 cc, ar E y3 18 (upd (upd (upd rd (3 * rwi) 1) ((3 * rwi) + 1) (cc (at_ + 1) - 48)) ((3 * rwi) + 2) (-9))] H := hP
                have hD : va_D A [ob m0 7 [.int lf, .int tr, .ref z0, .ref z1, .ref z2, .int (nI n), .ref y0, .ref y1, .ref y2, .int (nI (at_ + 1 + 1)), .int (nI (rwi + 1)), .ref y3, .ref y4, .int sl, .int cr, .int gr, .ref y5, .ref y6, .int (nI rc), .ref x0, .ref x1, .ref x2, .ref x3], ar E z2 240 cc, ar E y3 18 (upd (upd (upd rd (3 * rwi) 1) ((3 * rwi) + 1) (cc (at_ + 1) - 48)) ((3 * rwi) + 2) (-9))] := hD
                refine lv_iconst (v := 0) hx hb dX7_readWire_195 (by decide) ?_
                have e9 : mn9 (roomF 1 (cc (at_ + 1) - 48)) = roomF 1 (cc (at_ + 1) - 48) := if_pos c_27
                have hd3 : ¬ dgP cc (at_ + 2) e_ 0 (roomF 1 (cc (at_ + 1) - 48)) := hd2
                have er : rwA cc at_ e_ = at_ + 2 := by rw [rwA, if_neg (not_not_intro (show at_ < e_ ∧ ¬ kdF (cc at_) = -9 from ⟨by omega, by rw [hkd]; decide⟩)), if_neg (not_not_intro hd1), hkd, e9, if_pos hd3]
                have hne : ¬ rwA cc at_ e_ = at_ + 3 := by rw [er]; omega
                exact hret _ _ _ _ _ (upd (upd (upd rd (3 * rwi) 1) ((3 * rwi) + 1) (cc (at_ + 1) - 48)) ((3 * rwi) + 2) (-9), nI (rwi + 1)) dX7_readWire_196 rfl hS (by rw [er]; exact hP) ⟨(if_neg hne).symm, fun h => absurd h hne⟩
              ·
                have hd2 := dg_of c_30
                rw [if_pos hd2, if_pos hd2] at hP hD
                have hP : va_P E.1 vwCl [ob m0 7 [.int lf, .int tr, .ref z0, .ref z1, .ref z2, .int (nI n), .ref y0, .ref y1, .ref y2, .int (nI (at_ + 1 + 1 + 1)), .int (nI (rwi + 1)), .ref y3, .ref y4, .int sl, .int cr, .int gr, .ref y5, .ref y6, .int (nI rc), .ref x0, .ref x1, .ref x2, .ref x3], ar E z2 240 cc, ar E y3 18 (upd (upd (upd rd (3 * rwi) 1) ((3 * rwi) + 1) (cc (at_ + 1) - 48)) ((3 * rwi) + 2) (cc (at_ + 1 + 1) - 48))] H := hP
                have hD : va_D A [ob m0 7 [.int lf, .int tr, .ref z0, .ref z1, .ref z2, .int (nI n), .ref y0, .ref y1, .ref y2, .int (nI (at_ + 1 + 1 + 1)), .int (nI (rwi + 1)), .ref y3, .ref y4, .int sl, .int cr, .int gr, .ref y5, .ref y6, .int (nI rc), .ref x0, .ref x1, .ref x2, .ref x3], ar E z2 240 cc, ar E y3 18 (upd (upd (upd rd (3 * rwi) 1) ((3 * rwi) + 1) (cc (at_ + 1) - 48)) ((3 * rwi) + 2) (cc (at_ + 1 + 1) - 48))] := hD
                refine lv_iconst (v := 1) hx hb dX7_readWire_191 (by decide) ?_
                refine lv_goto (tgt := 196) hx hb dX7_readWire_192 (by decide) ?_
                have e9 : mn9 (roomF 1 (cc (at_ + 1) - 48)) = roomF 1 (cc (at_ + 1) - 48) := if_pos c_27
                have hd3 : dgP cc (at_ + 2) e_ 0 (roomF 1 (cc (at_ + 1) - 48)) := hd2
                have er : rwA cc at_ e_ = at_ + 3 := by rw [rwA, if_neg (not_not_intro (show at_ < e_ ∧ ¬ kdF (cc at_) = -9 from ⟨by omega, by rw [hkd]; decide⟩)), if_neg (not_not_intro hd1), hkd, e9, if_neg (not_not_intro hd3)]
                exact hret _ _ _ _ _ (upd (upd (upd rd (3 * rwi) 1) ((3 * rwi) + 1) (cc (at_ + 1) - 48)) ((3 * rwi) + 2) (cc (at_ + 1 + 1) - 48), nI (rwi + 1)) dX7_readWire_196 rfl hS (by rw [er]; exact hP) ⟨(if_pos er).symm, fun _ => ⟨rfl, congrArg (fun z => upd (upd (upd rd (3 * rwi) z) (3 * rwi + 1) (cc (at_ + 1) - 48)) (3 * rwi + 2) (cc (at_ + 2) - 48)) hkd.symm⟩⟩
            ·
              have c_27b := Int32.not_le.mp c_27
              refine lv_bipush (v := 9) hx hb dX7_readWire_157 (by decide) ?_
              refine lv_goto (tgt := 164) hx hb dX7_readWire_159 (by decide) ?_
              refine cwVi (As := [.int (nI e_), .int 0, .int 9]) (rest := [.int (nI ((3 * rwi) + 2)), .ref y3]) ⟨hx, hb, hml, hown, hts⟩ (c_X7_digit l E _ m0 lf tr z0 z1 z2 n y0 y1 y2 (at_ + 1 + 1) rwi y3 y4 sl cr gr y5 y6 rc x0 x1 x2 x3 cc e_ 0 9 (by first | assumption | omega) (by first | assumption | omega)) (cwV 3 hts gX7_readWire_X7_digit rfl rfl rfl (by decide +kernel) ⟨Nat.le_of_ble_eq_true rfl, Nat.le_of_ble_eq_true rfl⟩) hK hP hD hS hA [0, 1] (by decide) rfl [m0, z2] (fun _ => rfl) rfl 0 rfl rfl rfl rfl hl.1 rfl (catLe (Nat.le_of_ble_eq_true rfl)) dX7_readWire_164 ⟨Nat.zero_le _, Nat.zero_le _⟩ (fun r_31 u_32 H locs hwr_31 hP hD hS => ?_)
              have hP : va_P E.1 vwCl [ob m0 7 [.int lf, .int tr, .ref z0, .ref z1, .ref z2, .int (nI n), .ref y0, .ref y1, .ref y2, .int (nI (if dgP cc (at_ + 1 + 1) e_ 0 9 then (at_ + 1 + 1) + 1 else (at_ + 1 + 1))), .int (nI rwi), .ref y3, .ref y4, .int sl, .int cr, .int gr, .ref y5, .ref y6, .int (nI rc), .ref x0, .ref x1, .ref x2, .ref x3], ar E z2 240 cc, ar E y3 18 (upd (upd rd (3 * rwi) 1) ((3 * rwi) + 1) (cc (at_ + 1) - 48))] H := hP
              have hD : va_D A [ob m0 7 [.int lf, .int tr, .ref z0, .ref z1, .ref z2, .int (nI n), .ref y0, .ref y1, .ref y2, .int (nI (if dgP cc (at_ + 1 + 1) e_ 0 9 then (at_ + 1 + 1) + 1 else (at_ + 1 + 1))), .int (nI rwi), .ref y3, .ref y4, .int sl, .int cr, .int gr, .ref y5, .ref y6, .int (nI rc), .ref x0, .ref x1, .ref x2, .ref x3], ar E z2 240 cc, ar E y3 18 (upd (upd rd (3 * rwi) 1) ((3 * rwi) + 1) (cc (at_ + 1) - 48))] := hD
              subst hwr_31
              refine ist hx hb hK hP hD hS 2 rfl (j := (3 * rwi) + 2) rfl (by omega) (by decide) dX7_readWire_167 (fun H locs hP hD hS => ?_)
              have hP : va_P E.1 vwCl [ob m0 7 [.int lf, .int tr, .ref z0, .ref z1, .ref z2, .int (nI n), .ref y0, .ref y1, .ref y2, .int (nI (if dgP cc (at_ + 1 + 1) e_ 0 9 then (at_ + 1 + 1) + 1 else (at_ + 1 + 1))), .int (nI rwi), .ref y3, .ref y4, .int sl, .int cr, .int gr, .ref y5, .ref y6, .int (nI rc), .ref x0, .ref x1, .ref x2, .ref x3], ar E z2 240 cc, ar E y3 18 (upd (upd (upd rd (3 * rwi) 1) ((3 * rwi) + 1) (cc (at_ + 1) - 48)) ((3 * rwi) + 2) (if dgP cc (at_ + 1 + 1) e_ 0 9 then cc (at_ + 1 + 1) - 48 else -9))] H := hP
              have hD : va_D A [ob m0 7 [.int lf, .int tr, .ref z0, .ref z1, .ref z2, .int (nI n), .ref y0, .ref y1, .ref y2, .int (nI (if dgP cc (at_ + 1 + 1) e_ 0 9 then (at_ + 1 + 1) + 1 else (at_ + 1 + 1))), .int (nI rwi), .ref y3, .ref y4, .int sl, .int cr, .int gr, .ref y5, .ref y6, .int (nI rc), .ref x0, .ref x1, .ref x2, .ref x3], ar E z2 240 cc, ar E y3 18 (upd (upd (upd rd (3 * rwi) 1) ((3 * rwi) + 1) (cc (at_ + 1) - 48)) ((3 * rwi) + 2) (if dgP cc (at_ + 1 + 1) e_ 0 9 then cc (at_ + 1 + 1) - 48 else -9))] := hD
              refine lv_aload_n hx hb dX7_readWire_168 rfl (lv_at hl 3 rfl) ?_
              refine lv_dup hx hb dX7_readWire_169 rfl ?_
              refine va_get (D := E.1) (ci := 7) (v := .int (nI rwi)) (C := RX7) (T := TX7) (N := 23) hx hb hts hinX7 hown hK.1 hP 0 rfl rfl 10 (by decide) fl_86 (fun _ h9 => h9) rfl dX7_readWire_170 ?_
              refine lv_iconst (v := 1) hx hb dX7_readWire_173 (by decide) ?_
              refine N_iadd (a := rwi) (b := 1) hx hb rfl rfl dX7_readWire_174 ?_
              refine va_put (D := E.1) (ci := 7) (v := .int (nI (rwi + 1))) (ty := .int) (C := RX7) (T := TX7) (N := 23) hx hb hts hinX7 tyX7 tyX7_ok nmX7 hown hK.1 hP hD hS 0 rfl rfl 10 (by decide) fl_86 (fun _ h9 => h9) rfl (by decide +kernel) rfl rfl (Nat.le_of_ble_eq_true rfl) dX7_readWire_175 (fun H locs hP hD hS => ?_)
              have hP : va_P E.1 vwCl [ob m0 7 [.int lf, .int tr, .ref z0, .ref z1, .ref z2, .int (nI n), .ref y0, .ref y1, .ref y2, .int (nI (if dgP cc (at_ + 1 + 1) e_ 0 9 then (at_ + 1 + 1) + 1 else (at_ + 1 + 1))), .int (nI (rwi + 1)), .ref y3, .ref y4, .int sl, .int cr, .int gr, .ref y5, .ref y6, .int (nI rc), .ref x0, .ref x1, .ref x2, .ref x3], ar E z2 240 cc, ar E y3 18 (upd (upd (upd rd (3 * rwi) 1) ((3 * rwi) + 1) (cc (at_ + 1) - 48)) ((3 * rwi) + 2) (if dgP cc (at_ + 1 + 1) e_ 0 9 then cc (at_ + 1 + 1) - 48 else -9))] H := hP
              have hD : va_D A [ob m0 7 [.int lf, .int tr, .ref z0, .ref z1, .ref z2, .int (nI n), .ref y0, .ref y1, .ref y2, .int (nI (if dgP cc (at_ + 1 + 1) e_ 0 9 then (at_ + 1 + 1) + 1 else (at_ + 1 + 1))), .int (nI (rwi + 1)), .ref y3, .ref y4, .int sl, .int cr, .int gr, .ref y5, .ref y6, .int (nI rc), .ref x0, .ref x1, .ref x2, .ref x3], ar E z2 240 cc, ar E y3 18 (upd (upd (upd rd (3 * rwi) 1) ((3 * rwi) + 1) (cc (at_ + 1) - 48)) ((3 * rwi) + 2) (if dgP cc (at_ + 1 + 1) e_ 0 9 then cc (at_ + 1 + 1) - 48 else -9))] := hD
              refine lv_aload_n hx hb dX7_readWire_178 rfl (lv_at hl 3 rfl) ?_
              refine va_get (D := E.1) (ci := 7) (v := .ref y3) (C := RX7) (T := TX7) (N := 23) hx hb hts hinX7 hown hK.1 hP 0 rfl rfl 11 (by decide) fl_28 (fun _ h9 => h9) rfl dX7_readWire_179 ?_
              refine lv_iload_n hx hb dX7_readWire_182 rfl (lv_at hl 1 rfl) ?_
              refine lv_iconst (v := 2) hx hb dX7_readWire_183 (by decide) ?_
              refine N_iadd (a := 3 * rwi) (b := 2) hx hb rfl rfl dX7_readWire_184 ?_
              refine ild hx hb hK hP 2 rfl (j := (3 * rwi) + 2) rfl (by omega) (by decide) dX7_readWire_185 ?_
              rw [pk_us]
              refine lv_bipush (v := (-9)) hx hb dX7_readWire_186 (by decide) ?_
              refine lv_icmp_eq (tgt := 195) hx hb dX7_readWire_188 (by decide) (fun c_33 => ?_) (fun c_33 => ?_)
              ·
                have hd2 := dg_no (by decide) (by decide) c_33
                rw [if_neg hd2, if_neg hd2] at hP hD
                have hP : va_P E.1 vwCl [ob m0 7 [.int lf, .int tr, .ref z0, .ref z1, .ref z2, .int (nI n), .ref y0, .ref y1, .ref y2, .int (nI (at_ + 1 + 1)), .int (nI (rwi + 1)), .ref y3, .ref y4, .int sl, .int cr, .int gr, .ref y5, .ref y6, .int (nI rc), .ref x0, .ref x1, .ref x2, .ref x3], ar E z2 240 cc, ar E y3 18 (upd (upd (upd rd (3 * rwi) 1) ((3 * rwi) + 1) (cc (at_ + 1) - 48)) ((3 * rwi) + 2) (-9))] H := hP
                have hD : va_D A [ob m0 7 [.int lf, .int tr, .ref z0, .ref z1, .ref z2, .int (nI n), .ref y0, .ref y1, .ref y2, .int (nI (at_ + 1 + 1)), .int (nI (rwi + 1)), .ref y3, .ref y4, .int sl, .int cr, .int gr, .ref y5, .ref y6, .int (nI rc), .ref x0, .ref x1, .ref x2, .ref x3], ar E z2 240 cc, ar E y3 18 (upd (upd (upd rd (3 * rwi) 1) ((3 * rwi) + 1) (cc (at_ + 1) - 48)) ((3 * rwi) + 2) (-9))] := hD
                refine lv_iconst (v := 0) hx hb dX7_readWire_195 (by decide) ?_
                have e9 : mn9 (roomF 1 (cc (at_ + 1) - 48)) = 9 := if_neg c_27
                have hd3 : ¬ dgP cc (at_ + 2) e_ 0 (9) := hd2
                have er : rwA cc at_ e_ = at_ + 2 := by rw [rwA, if_neg (not_not_intro (show at_ < e_ ∧ ¬ kdF (cc at_) = -9 from ⟨by omega, by rw [hkd]; decide⟩)), if_neg (not_not_intro hd1), hkd, e9, if_pos hd3]
                have hne : ¬ rwA cc at_ e_ = at_ + 3 := by rw [er]; omega
                exact hret _ _ _ _ _ (upd (upd (upd rd (3 * rwi) 1) ((3 * rwi) + 1) (cc (at_ + 1) - 48)) ((3 * rwi) + 2) (-9), nI (rwi + 1)) dX7_readWire_196 rfl hS (by rw [er]; exact hP) ⟨(if_neg hne).symm, fun h => absurd h hne⟩
              ·
                have hd2 := dg_of c_33
                rw [if_pos hd2, if_pos hd2] at hP hD
                have hP : va_P E.1 vwCl [ob m0 7 [.int lf, .int tr, .ref z0, .ref z1, .ref z2, .int (nI n), .ref y0, .ref y1, .ref y2, .int (nI (at_ + 1 + 1 + 1)), .int (nI (rwi + 1)), .ref y3, .ref y4, .int sl, .int cr, .int gr, .ref y5, .ref y6, .int (nI rc), .ref x0, .ref x1, .ref x2, .ref x3], ar E z2 240 cc, ar E y3 18 (upd (upd (upd rd (3 * rwi) 1) ((3 * rwi) + 1) (cc (at_ + 1) - 48)) ((3 * rwi) + 2) (cc (at_ + 1 + 1) - 48))] H := hP
                have hD : va_D A [ob m0 7 [.int lf, .int tr, .ref z0, .ref z1, .ref z2, .int (nI n), .ref y0, .ref y1, .ref y2, .int (nI (at_ + 1 + 1 + 1)), .int (nI (rwi + 1)), .ref y3, .ref y4, .int sl, .int cr, .int gr, .ref y5, .ref y6, .int (nI rc), .ref x0, .ref x1, .ref x2, .ref x3], ar E z2 240 cc, ar E y3 18 (upd (upd (upd rd (3 * rwi) 1) ((3 * rwi) + 1) (cc (at_ + 1) - 48)) ((3 * rwi) + 2) (cc (at_ + 1 + 1) - 48))] := hD
                refine lv_iconst (v := 1) hx hb dX7_readWire_191 (by decide) ?_
                refine lv_goto (tgt := 196) hx hb dX7_readWire_192 (by decide) ?_
                have e9 : mn9 (roomF 1 (cc (at_ + 1) - 48)) = 9 := if_neg c_27
                have hd3 : dgP cc (at_ + 2) e_ 0 (9) := hd2
                have er : rwA cc at_ e_ = at_ + 3 := by rw [rwA, if_neg (not_not_intro (show at_ < e_ ∧ ¬ kdF (cc at_) = -9 from ⟨by omega, by rw [hkd]; decide⟩)), if_neg (not_not_intro hd1), hkd, e9, if_neg (not_not_intro hd3)]
                exact hret _ _ _ _ _ (upd (upd (upd rd (3 * rwi) 1) ((3 * rwi) + 1) (cc (at_ + 1) - 48)) ((3 * rwi) + 2) (cc (at_ + 1 + 1) - 48), nI (rwi + 1)) dX7_readWire_196 rfl hS (by rw [er]; exact hP) ⟨(if_pos er).symm, fun _ => ⟨rfl, congrArg (fun z => upd (upd (upd rd (3 * rwi) z) (3 * rwi + 1) (cc (at_ + 1) - 48)) (3 * rwi + 2) (cc (at_ + 2) - 48)) hkd.symm⟩⟩
          ·
            have hd1 := dg_no (by decide) (by decide) c_25
            rw [if_neg hd1, if_neg hd1] at hP hD
            have hP : va_P E.1 vwCl [ob m0 7 [.int lf, .int tr, .ref z0, .ref z1, .ref z2, .int (nI n), .ref y0, .ref y1, .ref y2, .int (nI (at_ + 1)), .int (nI rwi), .ref y3, .ref y4, .int sl, .int cr, .int gr, .ref y5, .ref y6, .int (nI rc), .ref x0, .ref x1, .ref x2, .ref x3], ar E z2 240 cc, ar E y3 18 (upd (upd rd (3 * rwi) 1) ((3 * rwi) + 1) (-9))] H := hP
            have hD : va_D A [ob m0 7 [.int lf, .int tr, .ref z0, .ref z1, .ref z2, .int (nI n), .ref y0, .ref y1, .ref y2, .int (nI (at_ + 1)), .int (nI rwi), .ref y3, .ref y4, .int sl, .int cr, .int gr, .ref y5, .ref y6, .int (nI rc), .ref x0, .ref x1, .ref x2, .ref x3], ar E z2 240 cc, ar E y3 18 (upd (upd rd (3 * rwi) 1) ((3 * rwi) + 1) (-9))] := hD
            refine lv_iconst (v := 0) hx hb dX7_readWire_119 (by decide) ?_
            have er : rwA cc at_ e_ = at_ + 1 := by rw [rwA, if_neg (not_not_intro (show at_ < e_ ∧ ¬ kdF (cc at_) = -9 from ⟨by omega, by rw [hkd]; decide⟩)), if_pos hd1]
            have hne : ¬ rwA cc at_ e_ = at_ + 3 := by rw [er]; omega
            exact hret _ _ _ _ _ (upd (upd rd (3 * rwi) 1) ((3 * rwi) + 1) (-9), nI rwi) dX7_readWire_120 rfl hS (by rw [er]; exact hP) ⟨(if_neg hne).symm, fun h => absurd h hne⟩
        ·
          exact absurd c_22 (by decide)
    ·
      refine lv_iconst (v := 0) hx hb dX7_readWire_40 (by decide) ?_
      refine lv_goto (tgt := 66) hx hb dX7_readWire_41 (by decide) ?_
      have hkd : kdF (cc at_) = 0 := by rw [c_6]; rfl
      refine ist hx hb hK hP hD hS 2 rfl (j := 3 * rwi) rfl (by omega) (by decide) dX7_readWire_66 (fun H locs hP hD hS => ?_)
      have hP : va_P E.1 vwCl [ob m0 7 [.int lf, .int tr, .ref z0, .ref z1, .ref z2, .int (nI n), .ref y0, .ref y1, .ref y2, .int (nI at_), .int (nI rwi), .ref y3, .ref y4, .int sl, .int cr, .int gr, .ref y5, .ref y6, .int (nI rc), .ref x0, .ref x1, .ref x2, .ref x3], ar E z2 240 cc, ar E y3 18 (upd rd (3 * rwi) 0)] H := hP
      have hD : va_D A [ob m0 7 [.int lf, .int tr, .ref z0, .ref z1, .ref z2, .int (nI n), .ref y0, .ref y1, .ref y2, .int (nI at_), .int (nI rwi), .ref y3, .ref y4, .int sl, .int cr, .int gr, .ref y5, .ref y6, .int (nI rc), .ref x0, .ref x1, .ref x2, .ref x3], ar E z2 240 cc, ar E y3 18 (upd rd (3 * rwi) 0)] := hD
      refine lv_aload_n hx hb dX7_readWire_67 rfl (lv_at hl 2 rfl) ?_
      refine va_get (D := E.1) (ci := 7) (v := .ref y3) (C := RX7) (T := TX7) (N := 23) hx hb hts hinX7 hown hK.1 hP 0 rfl rfl 11 (by decide) fl_28 (fun _ h9 => h9) rfl dX7_readWire_68 ?_
      refine lv_iload_n hx hb dX7_readWire_71 rfl (lv_at hl 0 rfl) ?_
      refine ild hx hb hK hP 2 rfl (j := 3 * rwi) rfl (by omega) (by decide) dX7_readWire_72 ?_
      rw [pk_us]
      refine lv_bipush (v := (-9)) hx hb dX7_readWire_73 (by decide) ?_
      refine lv_icmp_ne (tgt := 80) hx hb dX7_readWire_75 (by decide) (fun c_34 => ?_) (fun c_34 => ?_)
      ·
        refine lv_aload_n hx hb dX7_readWire_80 rfl (lv_at hl 2 rfl) ?_
        refine lv_dup hx hb dX7_readWire_81 rfl ?_
        refine va_get (D := E.1) (ci := 7) (v := .int (nI at_)) (C := RX7) (T := TX7) (N := 23) hx hb hts hinX7 hown hK.1 hP 0 rfl rfl 9 (by decide) fl_65 (fun _ h9 => h9) rfl dX7_readWire_82 ?_
        refine lv_iconst (v := 1) hx hb dX7_readWire_85 (by decide) ?_
        refine N_iadd (a := at_) (b := 1) hx hb rfl rfl dX7_readWire_86 ?_
        refine va_put (D := E.1) (ci := 7) (v := .int (nI (at_ + 1))) (ty := .int) (C := RX7) (T := TX7) (N := 23) hx hb hts hinX7 tyX7 tyX7_ok nmX7 hown hK.1 hP hD hS 0 rfl rfl 9 (by decide) fl_65 (fun _ h9 => h9) rfl (by decide +kernel) rfl rfl (Nat.le_of_ble_eq_true rfl) dX7_readWire_87 (fun H locs hP hD hS => ?_)
        have hP : va_P E.1 vwCl [ob m0 7 [.int lf, .int tr, .ref z0, .ref z1, .ref z2, .int (nI n), .ref y0, .ref y1, .ref y2, .int (nI (at_ + 1)), .int (nI rwi), .ref y3, .ref y4, .int sl, .int cr, .int gr, .ref y5, .ref y6, .int (nI rc), .ref x0, .ref x1, .ref x2, .ref x3], ar E z2 240 cc, ar E y3 18 (upd rd (3 * rwi) 0)] H := hP
        have hD : va_D A [ob m0 7 [.int lf, .int tr, .ref z0, .ref z1, .ref z2, .int (nI n), .ref y0, .ref y1, .ref y2, .int (nI (at_ + 1)), .int (nI rwi), .ref y3, .ref y4, .int sl, .int cr, .int gr, .ref y5, .ref y6, .int (nI rc), .ref x0, .ref x1, .ref x2, .ref x3], ar E z2 240 cc, ar E y3 18 (upd rd (3 * rwi) 0)] := hD
        refine lv_aload_n hx hb dX7_readWire_90 rfl (lv_at hl 2 rfl) ?_
        refine va_get (D := E.1) (ci := 7) (v := .ref y3) (C := RX7) (T := TX7) (N := 23) hx hb hts hinX7 hown hK.1 hP 0 rfl rfl 11 (by decide) fl_28 (fun _ h9 => h9) rfl dX7_readWire_91 ?_
        refine lv_iload_n hx hb dX7_readWire_94 rfl (lv_at hl 0 rfl) ?_
        refine lv_iconst (v := 1) hx hb dX7_readWire_95 (by decide) ?_
        refine N_iadd (a := 3 * rwi) (b := 1) hx hb rfl rfl dX7_readWire_96 ?_
        refine lv_aload_n hx hb dX7_readWire_97 rfl (lv_at hl 2 rfl) ?_
        refine lv_iload_n hx hb dX7_readWire_98 rfl (lv_at hl 3 rfl) ?_
        refine lv_iconst (v := 1) hx hb dX7_readWire_99 (by decide) ?_
        refine lv_bipush (v := 9) hx hb dX7_readWire_100 (by decide) ?_
        refine cwVi (As := [.int (nI e_), .int 1, .int 9]) (rest := [.int (nI ((3 * rwi) + 1)), .ref y3]) ⟨hx, hb, hml, hown, hts⟩ (c_X7_digit l E _ m0 lf tr z0 z1 z2 n y0 y1 y2 (at_ + 1) rwi y3 y4 sl cr gr y5 y6 rc x0 x1 x2 x3 cc e_ 1 9 (by first | assumption | omega) (by first | assumption | omega)) (cwV 3 hts gX7_readWire_X7_digit rfl rfl rfl (by decide +kernel) ⟨Nat.le_of_ble_eq_true rfl, Nat.le_of_ble_eq_true rfl⟩) hK hP hD hS hA [0, 1] (by decide) rfl [m0, z2] (fun _ => rfl) rfl 0 rfl rfl rfl rfl hl.1 rfl (catLe (Nat.le_of_ble_eq_true rfl)) dX7_readWire_102 ⟨Nat.zero_le _, Nat.zero_le _⟩ (fun r_35 u_36 H locs hwr_35 hP hD hS => ?_)
        have hP : va_P E.1 vwCl [ob m0 7 [.int lf, .int tr, .ref z0, .ref z1, .ref z2, .int (nI n), .ref y0, .ref y1, .ref y2, .int (nI (if dgP cc (at_ + 1) e_ 1 9 then (at_ + 1) + 1 else (at_ + 1))), .int (nI rwi), .ref y3, .ref y4, .int sl, .int cr, .int gr, .ref y5, .ref y6, .int (nI rc), .ref x0, .ref x1, .ref x2, .ref x3], ar E z2 240 cc, ar E y3 18 (upd rd (3 * rwi) 0)] H := hP
        have hD : va_D A [ob m0 7 [.int lf, .int tr, .ref z0, .ref z1, .ref z2, .int (nI n), .ref y0, .ref y1, .ref y2, .int (nI (if dgP cc (at_ + 1) e_ 1 9 then (at_ + 1) + 1 else (at_ + 1))), .int (nI rwi), .ref y3, .ref y4, .int sl, .int cr, .int gr, .ref y5, .ref y6, .int (nI rc), .ref x0, .ref x1, .ref x2, .ref x3], ar E z2 240 cc, ar E y3 18 (upd rd (3 * rwi) 0)] := hD
        subst hwr_35
        refine ist hx hb hK hP hD hS 2 rfl (j := (3 * rwi) + 1) rfl (by omega) (by decide) dX7_readWire_105 (fun H locs hP hD hS => ?_)
        have hP : va_P E.1 vwCl [ob m0 7 [.int lf, .int tr, .ref z0, .ref z1, .ref z2, .int (nI n), .ref y0, .ref y1, .ref y2, .int (nI (if dgP cc (at_ + 1) e_ 1 9 then (at_ + 1) + 1 else (at_ + 1))), .int (nI rwi), .ref y3, .ref y4, .int sl, .int cr, .int gr, .ref y5, .ref y6, .int (nI rc), .ref x0, .ref x1, .ref x2, .ref x3], ar E z2 240 cc, ar E y3 18 (upd (upd rd (3 * rwi) 0) ((3 * rwi) + 1) (if dgP cc (at_ + 1) e_ 1 9 then cc (at_ + 1) - 48 else -9))] H := hP
        have hD : va_D A [ob m0 7 [.int lf, .int tr, .ref z0, .ref z1, .ref z2, .int (nI n), .ref y0, .ref y1, .ref y2, .int (nI (if dgP cc (at_ + 1) e_ 1 9 then (at_ + 1) + 1 else (at_ + 1))), .int (nI rwi), .ref y3, .ref y4, .int sl, .int cr, .int gr, .ref y5, .ref y6, .int (nI rc), .ref x0, .ref x1, .ref x2, .ref x3], ar E z2 240 cc, ar E y3 18 (upd (upd rd (3 * rwi) 0) ((3 * rwi) + 1) (if dgP cc (at_ + 1) e_ 1 9 then cc (at_ + 1) - 48 else -9))] := hD
        refine lv_aload_n hx hb dX7_readWire_106 rfl (lv_at hl 2 rfl) ?_
        refine va_get (D := E.1) (ci := 7) (v := .ref y3) (C := RX7) (T := TX7) (N := 23) hx hb hts hinX7 hown hK.1 hP 0 rfl rfl 11 (by decide) fl_28 (fun _ h9 => h9) rfl dX7_readWire_107 ?_
        refine lv_iload_n hx hb dX7_readWire_110 rfl (lv_at hl 0 rfl) ?_
        refine lv_iconst (v := 1) hx hb dX7_readWire_111 (by decide) ?_
        refine N_iadd (a := 3 * rwi) (b := 1) hx hb rfl rfl dX7_readWire_112 ?_
        refine ild hx hb hK hP 2 rfl (j := (3 * rwi) + 1) rfl (by omega) (by decide) dX7_readWire_113 ?_
        rw [pk_us]
        refine lv_bipush (v := (-9)) hx hb dX7_readWire_114 (by decide) ?_
        refine lv_icmp_ne (tgt := 121) hx hb dX7_readWire_116 (by decide) (fun c_37 => ?_) (fun c_37 => ?_)
        ·
          have hd1 := dg_of c_37
          have hd1a := hd1.1
          rw [if_pos hd1, if_pos hd1] at hP hD
          have hP : va_P E.1 vwCl [ob m0 7 [.int lf, .int tr, .ref z0, .ref z1, .ref z2, .int (nI n), .ref y0, .ref y1, .ref y2, .int (nI (at_ + 1 + 1)), .int (nI rwi), .ref y3, .ref y4, .int sl, .int cr, .int gr, .ref y5, .ref y6, .int (nI rc), .ref x0, .ref x1, .ref x2, .ref x3], ar E z2 240 cc, ar E y3 18 (upd (upd rd (3 * rwi) 0) ((3 * rwi) + 1) (cc (at_ + 1) - 48))] H := hP
          have hD : va_D A [ob m0 7 [.int lf, .int tr, .ref z0, .ref z1, .ref z2, .int (nI n), .ref y0, .ref y1, .ref y2, .int (nI (at_ + 1 + 1)), .int (nI rwi), .ref y3, .ref y4, .int sl, .int cr, .int gr, .ref y5, .ref y6, .int (nI rc), .ref x0, .ref x1, .ref x2, .ref x3], ar E z2 240 cc, ar E y3 18 (upd (upd rd (3 * rwi) 0) ((3 * rwi) + 1) (cc (at_ + 1) - 48))] := hD
          refine lv_aload_n hx hb dX7_readWire_121 rfl (lv_at hl 2 rfl) ?_
          refine va_get (D := E.1) (ci := 7) (v := .ref y3) (C := RX7) (T := TX7) (N := 23) hx hb hts hinX7 hown hK.1 hP 0 rfl rfl 11 (by decide) fl_28 (fun _ h9 => h9) rfl dX7_readWire_122 ?_
          refine lv_iload_n hx hb dX7_readWire_125 rfl (lv_at hl 0 rfl) ?_
          refine ild hx hb hK hP 2 rfl (j := 3 * rwi) rfl (by omega) (by decide) dX7_readWire_126 ?_
          rw [pk_un (by omega), pk_us]
          refine lv_aload_n hx hb dX7_readWire_127 rfl (lv_at hl 2 rfl) ?_
          refine va_get (D := E.1) (ci := 7) (v := .ref y3) (C := RX7) (T := TX7) (N := 23) hx hb hts hinX7 hown hK.1 hP 0 rfl rfl 11 (by decide) fl_28 (fun _ h9 => h9) rfl dX7_readWire_128 ?_
          refine lv_iload_n hx hb dX7_readWire_131 rfl (lv_at hl 0 rfl) ?_
          refine lv_iconst (v := 1) hx hb dX7_readWire_132 (by decide) ?_
          refine N_iadd (a := 3 * rwi) (b := 1) hx hb rfl rfl dX7_readWire_133 ?_
          refine ild hx hb hK hP 2 rfl (j := (3 * rwi) + 1) rfl (by omega) (by decide) dX7_readWire_134 ?_
          rw [pk_us]
          refine crS (As := [.int 0, .int (cc (at_ + 1) - 48)]) (rest := []) ⟨hx, hb, hml, hown, hts⟩ (c_X7_roomFor l E 0 (cc (at_ + 1) - 48) (by decide)) (va_cwS 2 hts gX7_readWire_X7_roomFor rfl rfl rfl (by decide +kernel) ⟨Nat.le_of_ble_eq_true rfl, Nat.le_of_ble_eq_true rfl⟩) hK hP [] rfl rfl hl.1 rfl (catLe (Nat.le_of_ble_eq_true rfl)) dX7_readWire_135 ⟨Nat.zero_le _, Nat.zero_le _⟩ (fun r_38 hr_38 => ?_)
          subst hr_38
          refine lv_istore (lv' := [(4, .int (roomF 0 (cc (at_ + 1) - 48))), (3, .int (nI (3 * rwi))), (2, .int (cc at_)), (0, .ref m0), (1, .int (nI e_))]) hx hb dX7_readWire_138 hl (by decide) rfl (fun ls hl => ?_)
          refine lv_aload_n hx hb dX7_readWire_140 rfl (lv_at hl 3 rfl) ?_
          refine va_get (D := E.1) (ci := 7) (v := .ref y3) (C := RX7) (T := TX7) (N := 23) hx hb hts hinX7 hown hK.1 hP 0 rfl rfl 11 (by decide) fl_28 (fun _ h9 => h9) rfl dX7_readWire_141 ?_
          refine lv_iload_n hx hb dX7_readWire_144 rfl (lv_at hl 1 rfl) ?_
          refine lv_iconst (v := 2) hx hb dX7_readWire_145 (by decide) ?_
          refine N_iadd (a := 3 * rwi) (b := 2) hx hb rfl rfl dX7_readWire_146 ?_
          refine lv_aload_n hx hb dX7_readWire_147 rfl (lv_at hl 3 rfl) ?_
          refine lv_iload_n hx hb dX7_readWire_148 rfl (lv_at hl 4 rfl) ?_
          refine lv_iconst (v := 0) hx hb dX7_readWire_149 (by decide) ?_
          refine lv_iload hx hb dX7_readWire_150 (lv_at hl 0 rfl) ?_
          refine lv_bipush (v := 9) hx hb dX7_readWire_152 (by decide) ?_
          refine lv_icmp_le (tgt := 162) hx hb dX7_readWire_154 (by decide) (fun c_39 => ?_) (fun c_39 => ?_)
          ·
            have c_39b := Int32.not_lt.mpr c_39
            refine lv_iload hx hb dX7_readWire_162 (lv_at hl 0 rfl) ?_
            refine cwVi (As := [.int (nI e_), .int 0, .int (roomF 0 (cc (at_ + 1) - 48))]) (rest := [.int (nI ((3 * rwi) + 2)), .ref y3]) ⟨hx, hb, hml, hown, hts⟩ (c_X7_digit l E _ m0 lf tr z0 z1 z2 n y0 y1 y2 (at_ + 1 + 1) rwi y3 y4 sl cr gr y5 y6 rc x0 x1 x2 x3 cc e_ 0 (roomF 0 (cc (at_ + 1) - 48)) (by first | assumption | omega) (by first | assumption | omega)) (cwV 3 hts gX7_readWire_X7_digit rfl rfl rfl (by decide +kernel) ⟨Nat.le_of_ble_eq_true rfl, Nat.le_of_ble_eq_true rfl⟩) hK hP hD hS hA [0, 1] (by decide) rfl [m0, z2] (fun _ => rfl) rfl 0 rfl rfl rfl rfl hl.1 rfl (catLe (Nat.le_of_ble_eq_true rfl)) dX7_readWire_164 ⟨Nat.zero_le _, Nat.zero_le _⟩ (fun r_40 u_41 H locs hwr_40 hP hD hS => ?_)
            have hP : va_P E.1 vwCl [ob m0 7 [.int lf, .int tr, .ref z0, .ref z1, .ref z2, .int (nI n), .ref y0, .ref y1, .ref y2, .int (nI (if dgP cc (at_ + 1 + 1) e_ 0 (roomF 0 (cc (at_ + 1) - 48)) then (at_ + 1 + 1) + 1 else (at_ + 1 + 1))), .int (nI rwi), .ref y3, .ref y4, .int sl, .int cr, .int gr, .ref y5, .ref y6, .int (nI rc), .ref x0, .ref x1, .ref x2, .ref x3], ar E z2 240 cc, ar E y3 18 (upd (upd rd (3 * rwi) 0) ((3 * rwi) + 1) (cc (at_ + 1) - 48))] H := hP
            have hD : va_D A [ob m0 7 [.int lf, .int tr, .ref z0, .ref z1, .ref z2, .int (nI n), .ref y0, .ref y1, .ref y2, .int (nI (if dgP cc (at_ + 1 + 1) e_ 0 (roomF 0 (cc (at_ + 1) - 48)) then (at_ + 1 + 1) + 1 else (at_ + 1 + 1))), .int (nI rwi), .ref y3, .ref y4, .int sl, .int cr, .int gr, .ref y5, .ref y6, .int (nI rc), .ref x0, .ref x1, .ref x2, .ref x3], ar E z2 240 cc, ar E y3 18 (upd (upd rd (3 * rwi) 0) ((3 * rwi) + 1) (cc (at_ + 1) - 48))] := hD
            subst hwr_40
            refine ist hx hb hK hP hD hS 2 rfl (j := (3 * rwi) + 2) rfl (by omega) (by decide) dX7_readWire_167 (fun H locs hP hD hS => ?_)
            have hP : va_P E.1 vwCl [ob m0 7 [.int lf, .int tr, .ref z0, .ref z1, .ref z2, .int (nI n), .ref y0, .ref y1, .ref y2, .int (nI (if dgP cc (at_ + 1 + 1) e_ 0 (roomF 0 (cc (at_ + 1) - 48)) then (at_ + 1 + 1) + 1 else (at_ + 1 + 1))), .int (nI rwi), .ref y3, .ref y4, .int sl, .int cr, .int gr, .ref y5, .ref y6, .int (nI rc), .ref x0, .ref x1, .ref x2, .ref x3], ar E z2 240 cc, ar E y3 18 (upd (upd (upd rd (3 * rwi) 0) ((3 * rwi) + 1) (cc (at_ + 1) - 48)) ((3 * rwi) + 2) (if dgP cc (at_ + 1 + 1) e_ 0 (roomF 0 (cc (at_ + 1) - 48)) then cc (at_ + 1 + 1) - 48 else -9))] H := hP
            have hD : va_D A [ob m0 7 [.int lf, .int tr, .ref z0, .ref z1, .ref z2, .int (nI n), .ref y0, .ref y1, .ref y2, .int (nI (if dgP cc (at_ + 1 + 1) e_ 0 (roomF 0 (cc (at_ + 1) - 48)) then (at_ + 1 + 1) + 1 else (at_ + 1 + 1))), .int (nI rwi), .ref y3, .ref y4, .int sl, .int cr, .int gr, .ref y5, .ref y6, .int (nI rc), .ref x0, .ref x1, .ref x2, .ref x3], ar E z2 240 cc, ar E y3 18 (upd (upd (upd rd (3 * rwi) 0) ((3 * rwi) + 1) (cc (at_ + 1) - 48)) ((3 * rwi) + 2) (if dgP cc (at_ + 1 + 1) e_ 0 (roomF 0 (cc (at_ + 1) - 48)) then cc (at_ + 1 + 1) - 48 else -9))] := hD
            refine lv_aload_n hx hb dX7_readWire_168 rfl (lv_at hl 3 rfl) ?_
            refine lv_dup hx hb dX7_readWire_169 rfl ?_
            refine va_get (D := E.1) (ci := 7) (v := .int (nI rwi)) (C := RX7) (T := TX7) (N := 23) hx hb hts hinX7 hown hK.1 hP 0 rfl rfl 10 (by decide) fl_86 (fun _ h9 => h9) rfl dX7_readWire_170 ?_
            refine lv_iconst (v := 1) hx hb dX7_readWire_173 (by decide) ?_
            refine N_iadd (a := rwi) (b := 1) hx hb rfl rfl dX7_readWire_174 ?_
            refine va_put (D := E.1) (ci := 7) (v := .int (nI (rwi + 1))) (ty := .int) (C := RX7) (T := TX7) (N := 23) hx hb hts hinX7 tyX7 tyX7_ok nmX7 hown hK.1 hP hD hS 0 rfl rfl 10 (by decide) fl_86 (fun _ h9 => h9) rfl (by decide +kernel) rfl rfl (Nat.le_of_ble_eq_true rfl) dX7_readWire_175 (fun H locs hP hD hS => ?_)
            have hP : va_P E.1 vwCl [ob m0 7 [.int lf, .int tr, .ref z0, .ref z1, .ref z2, .int (nI n), .ref y0, .ref y1, .ref y2, .int (nI (if dgP cc (at_ + 1 + 1) e_ 0 (roomF 0 (cc (at_ + 1) - 48)) then (at_ + 1 + 1) + 1 else (at_ + 1 + 1))), .int (nI (rwi + 1)), .ref y3, .ref y4, .int sl, .int cr, .int gr, .ref y5, .ref y6, .int (nI rc), .ref x0, .ref x1, .ref x2, .ref x3], ar E z2 240 cc, ar E y3 18 (upd (upd (upd rd (3 * rwi) 0) ((3 * rwi) + 1) (cc (at_ + 1) - 48)) ((3 * rwi) + 2) (if dgP cc (at_ + 1 + 1) e_ 0 (roomF 0 (cc (at_ + 1) - 48)) then cc (at_ + 1 + 1) - 48 else -9))] H := hP
            have hD : va_D A [ob m0 7 [.int lf, .int tr, .ref z0, .ref z1, .ref z2, .int (nI n), .ref y0, .ref y1, .ref y2, .int (nI (if dgP cc (at_ + 1 + 1) e_ 0 (roomF 0 (cc (at_ + 1) - 48)) then (at_ + 1 + 1) + 1 else (at_ + 1 + 1))), .int (nI (rwi + 1)), .ref y3, .ref y4, .int sl, .int cr, .int gr, .ref y5, .ref y6, .int (nI rc), .ref x0, .ref x1, .ref x2, .ref x3], ar E z2 240 cc, ar E y3 18 (upd (upd (upd rd (3 * rwi) 0) ((3 * rwi) + 1) (cc (at_ + 1) - 48)) ((3 * rwi) + 2) (if dgP cc (at_ + 1 + 1) e_ 0 (roomF 0 (cc (at_ + 1) - 48)) then cc (at_ + 1 + 1) - 48 else -9))] := hD
            refine lv_aload_n hx hb dX7_readWire_178 rfl (lv_at hl 3 rfl) ?_
            refine va_get (D := E.1) (ci := 7) (v := .ref y3) (C := RX7) (T := TX7) (N := 23) hx hb hts hinX7 hown hK.1 hP 0 rfl rfl 11 (by decide) fl_28 (fun _ h9 => h9) rfl dX7_readWire_179 ?_
            refine lv_iload_n hx hb dX7_readWire_182 rfl (lv_at hl 1 rfl) ?_
            refine lv_iconst (v := 2) hx hb dX7_readWire_183 (by decide) ?_
            refine N_iadd (a := 3 * rwi) (b := 2) hx hb rfl rfl dX7_readWire_184 ?_
            refine ild hx hb hK hP 2 rfl (j := (3 * rwi) + 2) rfl (by omega) (by decide) dX7_readWire_185 ?_
            rw [pk_us]
            refine lv_bipush (v := (-9)) hx hb dX7_readWire_186 (by decide) ?_
            refine lv_icmp_eq (tgt := 195) hx hb dX7_readWire_188 (by decide) (fun c_42 => ?_) (fun c_42 => ?_)
            ·
              have hd2 := dg_no (by decide) (le9 c_39) c_42
              rw [if_neg hd2, if_neg hd2] at hP hD
              have hP : va_P E.1 vwCl [ob m0 7 [.int lf, .int tr, .ref z0, .ref z1, .ref z2, .int (nI n), .ref y0, .ref y1, .ref y2, .int (nI (at_ + 1 + 1)), .int (nI (rwi + 1)), .ref y3, .ref y4, .int sl, .int cr, .int gr, .ref y5, .ref y6, .int (nI rc), .ref x0, .ref x1, .ref x2, .ref x3], ar E z2 240 cc, ar E y3 18 (upd (upd (upd rd (3 * rwi) 0) ((3 * rwi) + 1) (cc (at_ + 1) - 48)) ((3 * rwi) + 2) (-9))] H := hP
              have hD : va_D A [ob m0 7 [.int lf, .int tr, .ref z0, .ref z1, .ref z2, .int (nI n), .ref y0, .ref y1, .ref y2, .int (nI (at_ + 1 + 1)), .int (nI (rwi + 1)), .ref y3, .ref y4, .int sl, .int cr, .int gr, .ref y5, .ref y6, .int (nI rc), .ref x0, .ref x1, .ref x2, .ref x3], ar E z2 240 cc, ar E y3 18 (upd (upd (upd rd (3 * rwi) 0) ((3 * rwi) + 1) (cc (at_ + 1) - 48)) ((3 * rwi) + 2) (-9))] := hD
              refine lv_iconst (v := 0) hx hb dX7_readWire_195 (by decide) ?_
              have e9 : mn9 (roomF 0 (cc (at_ + 1) - 48)) = roomF 0 (cc (at_ + 1) - 48) := if_pos c_39
              have hd3 : ¬ dgP cc (at_ + 2) e_ 0 (roomF 0 (cc (at_ + 1) - 48)) := hd2
              have er : rwA cc at_ e_ = at_ + 2 := by rw [rwA, if_neg (not_not_intro (show at_ < e_ ∧ ¬ kdF (cc at_) = -9 from ⟨by omega, by rw [hkd]; decide⟩)), if_neg (not_not_intro hd1), hkd, e9, if_pos hd3]
              have hne : ¬ rwA cc at_ e_ = at_ + 3 := by rw [er]; omega
              exact hret _ _ _ _ _ (upd (upd (upd rd (3 * rwi) 0) ((3 * rwi) + 1) (cc (at_ + 1) - 48)) ((3 * rwi) + 2) (-9), nI (rwi + 1)) dX7_readWire_196 rfl hS (by rw [er]; exact hP) ⟨(if_neg hne).symm, fun h => absurd h hne⟩
            ·
              have hd2 := dg_of c_42
              rw [if_pos hd2, if_pos hd2] at hP hD
              have hP : va_P E.1 vwCl [ob m0 7 [.int lf, .int tr, .ref z0, .ref z1, .ref z2, .int (nI n), .ref y0, .ref y1, .ref y2, .int (nI (at_ + 1 + 1 + 1)), .int (nI (rwi + 1)), .ref y3, .ref y4, .int sl, .int cr, .int gr, .ref y5, .ref y6, .int (nI rc), .ref x0, .ref x1, .ref x2, .ref x3], ar E z2 240 cc, ar E y3 18 (upd (upd (upd rd (3 * rwi) 0) ((3 * rwi) + 1) (cc (at_ + 1) - 48)) ((3 * rwi) + 2) (cc (at_ + 1 + 1) - 48))] H := hP
              have hD : va_D A [ob m0 7 [.int lf, .int tr, .ref z0, .ref z1, .ref z2, .int (nI n), .ref y0, .ref y1, .ref y2, .int (nI (at_ + 1 + 1 + 1)), .int (nI (rwi + 1)), .ref y3, .ref y4, .int sl, .int cr, .int gr, .ref y5, .ref y6, .int (nI rc), .ref x0, .ref x1, .ref x2, .ref x3], ar E z2 240 cc, ar E y3 18 (upd (upd (upd rd (3 * rwi) 0) ((3 * rwi) + 1) (cc (at_ + 1) - 48)) ((3 * rwi) + 2) (cc (at_ + 1 + 1) - 48))] := hD
              refine lv_iconst (v := 1) hx hb dX7_readWire_191 (by decide) ?_
              refine lv_goto (tgt := 196) hx hb dX7_readWire_192 (by decide) ?_
              have e9 : mn9 (roomF 0 (cc (at_ + 1) - 48)) = roomF 0 (cc (at_ + 1) - 48) := if_pos c_39
              have hd3 : dgP cc (at_ + 2) e_ 0 (roomF 0 (cc (at_ + 1) - 48)) := hd2
              have er : rwA cc at_ e_ = at_ + 3 := by rw [rwA, if_neg (not_not_intro (show at_ < e_ ∧ ¬ kdF (cc at_) = -9 from ⟨by omega, by rw [hkd]; decide⟩)), if_neg (not_not_intro hd1), hkd, e9, if_neg (not_not_intro hd3)]
              exact hret _ _ _ _ _ (upd (upd (upd rd (3 * rwi) 0) ((3 * rwi) + 1) (cc (at_ + 1) - 48)) ((3 * rwi) + 2) (cc (at_ + 1 + 1) - 48), nI (rwi + 1)) dX7_readWire_196 rfl hS (by rw [er]; exact hP) ⟨(if_pos er).symm, fun _ => ⟨rfl, congrArg (fun z => upd (upd (upd rd (3 * rwi) z) (3 * rwi + 1) (cc (at_ + 1) - 48)) (3 * rwi + 2) (cc (at_ + 2) - 48)) hkd.symm⟩⟩
          ·
            have c_39b := Int32.not_le.mp c_39
            refine lv_bipush (v := 9) hx hb dX7_readWire_157 (by decide) ?_
            refine lv_goto (tgt := 164) hx hb dX7_readWire_159 (by decide) ?_
            refine cwVi (As := [.int (nI e_), .int 0, .int 9]) (rest := [.int (nI ((3 * rwi) + 2)), .ref y3]) ⟨hx, hb, hml, hown, hts⟩ (c_X7_digit l E _ m0 lf tr z0 z1 z2 n y0 y1 y2 (at_ + 1 + 1) rwi y3 y4 sl cr gr y5 y6 rc x0 x1 x2 x3 cc e_ 0 9 (by first | assumption | omega) (by first | assumption | omega)) (cwV 3 hts gX7_readWire_X7_digit rfl rfl rfl (by decide +kernel) ⟨Nat.le_of_ble_eq_true rfl, Nat.le_of_ble_eq_true rfl⟩) hK hP hD hS hA [0, 1] (by decide) rfl [m0, z2] (fun _ => rfl) rfl 0 rfl rfl rfl rfl hl.1 rfl (catLe (Nat.le_of_ble_eq_true rfl)) dX7_readWire_164 ⟨Nat.zero_le _, Nat.zero_le _⟩ (fun r_43 u_44 H locs hwr_43 hP hD hS => ?_)
            have hP : va_P E.1 vwCl [ob m0 7 [.int lf, .int tr, .ref z0, .ref z1, .ref z2, .int (nI n), .ref y0, .ref y1, .ref y2, .int (nI (if dgP cc (at_ + 1 + 1) e_ 0 9 then (at_ + 1 + 1) + 1 else (at_ + 1 + 1))), .int (nI rwi), .ref y3, .ref y4, .int sl, .int cr, .int gr, .ref y5, .ref y6, .int (nI rc), .ref x0, .ref x1, .ref x2, .ref x3], ar E z2 240 cc, ar E y3 18 (upd (upd rd (3 * rwi) 0) ((3 * rwi) + 1) (cc (at_ + 1) - 48))] H := hP
            have hD : va_D A [ob m0 7 [.int lf, .int tr, .ref z0, .ref z1, .ref z2, .int (nI n), .ref y0, .ref y1, .ref y2, .int (nI (if dgP cc (at_ + 1 + 1) e_ 0 9 then (at_ + 1 + 1) + 1 else (at_ + 1 + 1))), .int (nI rwi), .ref y3, .ref y4, .int sl, .int cr, .int gr, .ref y5, .ref y6, .int (nI rc), .ref x0, .ref x1, .ref x2, .ref x3], ar E z2 240 cc, ar E y3 18 (upd (upd rd (3 * rwi) 0) ((3 * rwi) + 1) (cc (at_ + 1) - 48))] := hD
            subst hwr_43
            refine ist hx hb hK hP hD hS 2 rfl (j := (3 * rwi) + 2) rfl (by omega) (by decide) dX7_readWire_167 (fun H locs hP hD hS => ?_)
            have hP : va_P E.1 vwCl [ob m0 7 [.int lf, .int tr, .ref z0, .ref z1, .ref z2, .int (nI n), .ref y0, .ref y1, .ref y2, .int (nI (if dgP cc (at_ + 1 + 1) e_ 0 9 then (at_ + 1 + 1) + 1 else (at_ + 1 + 1))), .int (nI rwi), .ref y3, .ref y4, .int sl, .int cr, .int gr, .ref y5, .ref y6, .int (nI rc), .ref x0, .ref x1, .ref x2, .ref x3], ar E z2 240 cc, ar E y3 18 (upd (upd (upd rd (3 * rwi) 0) ((3 * rwi) + 1) (cc (at_ + 1) - 48)) ((3 * rwi) + 2) (if dgP cc (at_ + 1 + 1) e_ 0 9 then cc (at_ + 1 + 1) - 48 else -9))] H := hP
            have hD : va_D A [ob m0 7 [.int lf, .int tr, .ref z0, .ref z1, .ref z2, .int (nI n), .ref y0, .ref y1, .ref y2, .int (nI (if dgP cc (at_ + 1 + 1) e_ 0 9 then (at_ + 1 + 1) + 1 else (at_ + 1 + 1))), .int (nI rwi), .ref y3, .ref y4, .int sl, .int cr, .int gr, .ref y5, .ref y6, .int (nI rc), .ref x0, .ref x1, .ref x2, .ref x3], ar E z2 240 cc, ar E y3 18 (upd (upd (upd rd (3 * rwi) 0) ((3 * rwi) + 1) (cc (at_ + 1) - 48)) ((3 * rwi) + 2) (if dgP cc (at_ + 1 + 1) e_ 0 9 then cc (at_ + 1 + 1) - 48 else -9))] := hD
            refine lv_aload_n hx hb dX7_readWire_168 rfl (lv_at hl 3 rfl) ?_
            refine lv_dup hx hb dX7_readWire_169 rfl ?_
            refine va_get (D := E.1) (ci := 7) (v := .int (nI rwi)) (C := RX7) (T := TX7) (N := 23) hx hb hts hinX7 hown hK.1 hP 0 rfl rfl 10 (by decide) fl_86 (fun _ h9 => h9) rfl dX7_readWire_170 ?_
            refine lv_iconst (v := 1) hx hb dX7_readWire_173 (by decide) ?_
            refine N_iadd (a := rwi) (b := 1) hx hb rfl rfl dX7_readWire_174 ?_
            refine va_put (D := E.1) (ci := 7) (v := .int (nI (rwi + 1))) (ty := .int) (C := RX7) (T := TX7) (N := 23) hx hb hts hinX7 tyX7 tyX7_ok nmX7 hown hK.1 hP hD hS 0 rfl rfl 10 (by decide) fl_86 (fun _ h9 => h9) rfl (by decide +kernel) rfl rfl (Nat.le_of_ble_eq_true rfl) dX7_readWire_175 (fun H locs hP hD hS => ?_)
            have hP : va_P E.1 vwCl [ob m0 7 [.int lf, .int tr, .ref z0, .ref z1, .ref z2, .int (nI n), .ref y0, .ref y1, .ref y2, .int (nI (if dgP cc (at_ + 1 + 1) e_ 0 9 then (at_ + 1 + 1) + 1 else (at_ + 1 + 1))), .int (nI (rwi + 1)), .ref y3, .ref y4, .int sl, .int cr, .int gr, .ref y5, .ref y6, .int (nI rc), .ref x0, .ref x1, .ref x2, .ref x3], ar E z2 240 cc, ar E y3 18 (upd (upd (upd rd (3 * rwi) 0) ((3 * rwi) + 1) (cc (at_ + 1) - 48)) ((3 * rwi) + 2) (if dgP cc (at_ + 1 + 1) e_ 0 9 then cc (at_ + 1 + 1) - 48 else -9))] H := hP
            have hD : va_D A [ob m0 7 [.int lf, .int tr, .ref z0, .ref z1, .ref z2, .int (nI n), .ref y0, .ref y1, .ref y2, .int (nI (if dgP cc (at_ + 1 + 1) e_ 0 9 then (at_ + 1 + 1) + 1 else (at_ + 1 + 1))), .int (nI (rwi + 1)), .ref y3, .ref y4, .int sl, .int cr, .int gr, .ref y5, .ref y6, .int (nI rc), .ref x0, .ref x1, .ref x2, .ref x3], ar E z2 240 cc, ar E y3 18 (upd (upd (upd rd (3 * rwi) 0) ((3 * rwi) + 1) (cc (at_ + 1) - 48)) ((3 * rwi) + 2) (if dgP cc (at_ + 1 + 1) e_ 0 9 then cc (at_ + 1 + 1) - 48 else -9))] := hD
            refine lv_aload_n hx hb dX7_readWire_178 rfl (lv_at hl 3 rfl) ?_
            refine va_get (D := E.1) (ci := 7) (v := .ref y3) (C := RX7) (T := TX7) (N := 23) hx hb hts hinX7 hown hK.1 hP 0 rfl rfl 11 (by decide) fl_28 (fun _ h9 => h9) rfl dX7_readWire_179 ?_
            refine lv_iload_n hx hb dX7_readWire_182 rfl (lv_at hl 1 rfl) ?_
            refine lv_iconst (v := 2) hx hb dX7_readWire_183 (by decide) ?_
            refine N_iadd (a := 3 * rwi) (b := 2) hx hb rfl rfl dX7_readWire_184 ?_
            refine ild hx hb hK hP 2 rfl (j := (3 * rwi) + 2) rfl (by omega) (by decide) dX7_readWire_185 ?_
            rw [pk_us]
            refine lv_bipush (v := (-9)) hx hb dX7_readWire_186 (by decide) ?_
            refine lv_icmp_eq (tgt := 195) hx hb dX7_readWire_188 (by decide) (fun c_45 => ?_) (fun c_45 => ?_)
            ·
              have hd2 := dg_no (by decide) (by decide) c_45
              rw [if_neg hd2, if_neg hd2] at hP hD
              have hP : va_P E.1 vwCl [ob m0 7 [.int lf, .int tr, .ref z0, .ref z1, .ref z2, .int (nI n), .ref y0, .ref y1, .ref y2, .int (nI (at_ + 1 + 1)), .int (nI (rwi + 1)), .ref y3, .ref y4, .int sl, .int cr, .int gr, .ref y5, .ref y6, .int (nI rc), .ref x0, .ref x1, .ref x2, .ref x3], ar E z2 240 cc, ar E y3 18 (upd (upd (upd rd (3 * rwi) 0) ((3 * rwi) + 1) (cc (at_ + 1) - 48)) ((3 * rwi) + 2) (-9))] H := hP
              have hD : va_D A [ob m0 7 [.int lf, .int tr, .ref z0, .ref z1, .ref z2, .int (nI n), .ref y0, .ref y1, .ref y2, .int (nI (at_ + 1 + 1)), .int (nI (rwi + 1)), .ref y3, .ref y4, .int sl, .int cr, .int gr, .ref y5, .ref y6, .int (nI rc), .ref x0, .ref x1, .ref x2, .ref x3], ar E z2 240 cc, ar E y3 18 (upd (upd (upd rd (3 * rwi) 0) ((3 * rwi) + 1) (cc (at_ + 1) - 48)) ((3 * rwi) + 2) (-9))] := hD
              refine lv_iconst (v := 0) hx hb dX7_readWire_195 (by decide) ?_
              have e9 : mn9 (roomF 0 (cc (at_ + 1) - 48)) = 9 := if_neg c_39
              have hd3 : ¬ dgP cc (at_ + 2) e_ 0 (9) := hd2
              have er : rwA cc at_ e_ = at_ + 2 := by rw [rwA, if_neg (not_not_intro (show at_ < e_ ∧ ¬ kdF (cc at_) = -9 from ⟨by omega, by rw [hkd]; decide⟩)), if_neg (not_not_intro hd1), hkd, e9, if_pos hd3]
              have hne : ¬ rwA cc at_ e_ = at_ + 3 := by rw [er]; omega
              exact hret _ _ _ _ _ (upd (upd (upd rd (3 * rwi) 0) ((3 * rwi) + 1) (cc (at_ + 1) - 48)) ((3 * rwi) + 2) (-9), nI (rwi + 1)) dX7_readWire_196 rfl hS (by rw [er]; exact hP) ⟨(if_neg hne).symm, fun h => absurd h hne⟩
            ·
              have hd2 := dg_of c_45
              rw [if_pos hd2, if_pos hd2] at hP hD
              have hP : va_P E.1 vwCl [ob m0 7 [.int lf, .int tr, .ref z0, .ref z1, .ref z2, .int (nI n), .ref y0, .ref y1, .ref y2, .int (nI (at_ + 1 + 1 + 1)), .int (nI (rwi + 1)), .ref y3, .ref y4, .int sl, .int cr, .int gr, .ref y5, .ref y6, .int (nI rc), .ref x0, .ref x1, .ref x2, .ref x3], ar E z2 240 cc, ar E y3 18 (upd (upd (upd rd (3 * rwi) 0) ((3 * rwi) + 1) (cc (at_ + 1) - 48)) ((3 * rwi) + 2) (cc (at_ + 1 + 1) - 48))] H := hP
              have hD : va_D A [ob m0 7 [.int lf, .int tr, .ref z0, .ref z1, .ref z2, .int (nI n), .ref y0, .ref y1, .ref y2, .int (nI (at_ + 1 + 1 + 1)), .int (nI (rwi + 1)), .ref y3, .ref y4, .int sl, .int cr, .int gr, .ref y5, .ref y6, .int (nI rc), .ref x0, .ref x1, .ref x2, .ref x3], ar E z2 240 cc, ar E y3 18 (upd (upd (upd rd (3 * rwi) 0) ((3 * rwi) + 1) (cc (at_ + 1) - 48)) ((3 * rwi) + 2) (cc (at_ + 1 + 1) - 48))] := hD
              refine lv_iconst (v := 1) hx hb dX7_readWire_191 (by decide) ?_
              refine lv_goto (tgt := 196) hx hb dX7_readWire_192 (by decide) ?_
              have e9 : mn9 (roomF 0 (cc (at_ + 1) - 48)) = 9 := if_neg c_39
              have hd3 : dgP cc (at_ + 2) e_ 0 (9) := hd2
              have er : rwA cc at_ e_ = at_ + 3 := by rw [rwA, if_neg (not_not_intro (show at_ < e_ ∧ ¬ kdF (cc at_) = -9 from ⟨by omega, by rw [hkd]; decide⟩)), if_neg (not_not_intro hd1), hkd, e9, if_neg (not_not_intro hd3)]
              exact hret _ _ _ _ _ (upd (upd (upd rd (3 * rwi) 0) ((3 * rwi) + 1) (cc (at_ + 1) - 48)) ((3 * rwi) + 2) (cc (at_ + 1 + 1) - 48), nI (rwi + 1)) dX7_readWire_196 rfl hS (by rw [er]; exact hP) ⟨(if_pos er).symm, fun _ => ⟨rfl, congrArg (fun z => upd (upd (upd rd (3 * rwi) z) (3 * rwi + 1) (cc (at_ + 1) - 48)) (3 * rwi + 2) (cc (at_ + 2) - 48)) hkd.symm⟩⟩
        ·
          have hd1 := dg_no (by decide) (by decide) c_37
          rw [if_neg hd1, if_neg hd1] at hP hD
          have hP : va_P E.1 vwCl [ob m0 7 [.int lf, .int tr, .ref z0, .ref z1, .ref z2, .int (nI n), .ref y0, .ref y1, .ref y2, .int (nI (at_ + 1)), .int (nI rwi), .ref y3, .ref y4, .int sl, .int cr, .int gr, .ref y5, .ref y6, .int (nI rc), .ref x0, .ref x1, .ref x2, .ref x3], ar E z2 240 cc, ar E y3 18 (upd (upd rd (3 * rwi) 0) ((3 * rwi) + 1) (-9))] H := hP
          have hD : va_D A [ob m0 7 [.int lf, .int tr, .ref z0, .ref z1, .ref z2, .int (nI n), .ref y0, .ref y1, .ref y2, .int (nI (at_ + 1)), .int (nI rwi), .ref y3, .ref y4, .int sl, .int cr, .int gr, .ref y5, .ref y6, .int (nI rc), .ref x0, .ref x1, .ref x2, .ref x3], ar E z2 240 cc, ar E y3 18 (upd (upd rd (3 * rwi) 0) ((3 * rwi) + 1) (-9))] := hD
          refine lv_iconst (v := 0) hx hb dX7_readWire_119 (by decide) ?_
          have er : rwA cc at_ e_ = at_ + 1 := by rw [rwA, if_neg (not_not_intro (show at_ < e_ ∧ ¬ kdF (cc at_) = -9 from ⟨by omega, by rw [hkd]; decide⟩)), if_pos hd1]
          have hne : ¬ rwA cc at_ e_ = at_ + 3 := by rw [er]; omega
          exact hret _ _ _ _ _ (upd (upd rd (3 * rwi) 0) ((3 * rwi) + 1) (-9), nI rwi) dX7_readWire_120 rfl hS (by rw [er]; exact hP) ⟨(if_neg hne).symm, fun h => absurd h hne⟩
      ·
        exact absurd c_34 (by decide)
set_option maxHeartbeats 4000000 in
set_option maxRecDepth 100000 in
theorem c_X7_readFrame (l : Launch) (E : gE) (sz : Nat) (m0 : Nat) (lf : Int32) (tr : Int32) (z0 : Nat) (z1 : Nat) (z2 : Nat) (n : Nat) (y0 : Nat) (y1 : Nat) (y2 : Nat) (at_ : Nat) (rwi : Int32) (y3 : Nat) (y4 : Nat) (sl : Int32) (cr : Int32) (gr : Int32) (y5 : Nat) (y6 : Nat) (rc : Nat) (x0 : Nat) (x1 : Nat) (x2 : Nat) (x3 : Nat) (cc : Nat → Int32) (rd : Nat → Int32) (nn : Nat) (hin : at_ + nn ≤ 240) : Met l yX7_readFrame wsX7_readFrame ({ frames := 3, cells := 0, slots := 0, locals := 69 }) (PW E [.ref m0, .int (nI (at_ + nn))] [ob m0 7 [.int lf, .int tr, .ref z0, .ref z1, .ref z2, .int (nI n), .ref y0, .ref y1, .ref y2, .int (nI at_), .int rwi, .ref y3, .ref y4, .int sl, .int cr, .int gr, .ref y5, .ref y6, .int (nI rc), .ref x0, .ref x1, .ref x2, .ref x3], ar E z2 240 cc, ar E y3 18 rd] sz) (QWi E (fun r u => r = (if tResA (fun q => cc (at_ + q)) nn = -9 then 1 else 0) ∧ (tResA (fun q => cc (at_ + q)) nn = -9 → nn = 1 + 4 * ((nn - 1) / 4) ∧ (nn - 1) / 4 ≤ 6 ∧ u.2 = nI ((nn - 1) / 4) ∧ rdP (fun q => cc (at_ + q)) u.1 ((nn - 1) / 4))) (fun (u : (Nat → Int32) × (Int32)) => [ob m0 7 [.int lf, .int tr, .ref z0, .ref z1, .ref z2, .int (nI n), .ref y0, .ref y1, .ref y2, .int (nI (at_ + ff (okA (fun q => cc (at_ + q))) nn)), .int u.2, .ref y3, .ref y4, .int sl, .int cr, .int gr, .ref y5, .ref y6, .int (nI rc), .ref x0, .ref x1, .ref x2, .ref x3], ar E z2 240 cc, ar E y3 18 u.1]) (va_A [ob m0 7 [.int lf, .int tr, .ref z0, .ref z1, .ref z2, .int (nI n), .ref y0, .ref y1, .ref y2, .int (nI at_), .int rwi, .ref y3, .ref y4, .int sl, .int cr, .int gr, .ref y5, .ref y6, .int (nI rc), .ref x0, .ref x1, .ref x2, .ref x3], ar E z2 240 cc, ar E y3 18 rd] sz)) 0 0 (va_A [ob m0 7 [.int lf, .int tr, .ref z0, .ref z1, .ref z2, .int (nI n), .ref y0, .ref y1, .ref y2, .int (nI at_), .int rwi, .ref y3, .ref y4, .int sl, .int cr, .int gr, .ref y5, .ref y6, .int (nI rc), .ref x0, .ref x1, .ref x2, .ref x3], ar E z2 240 cc, ar E y3 18 rd] sz) := by
  refine mkWz (cc := cX7_readFrame) (maxL := 2) (by decide) rfl (Nat.le_of_ble_eq_true rfl) ?_
  intro p e s m args below meth c QQ A hx hb hml hown hmn hts hK hA hP hD hS hret ls hl
  have hown : s.vm.findClass RX7 = some m.cls := hown
  have hl : lv_has ls 2 [(0, .ref m0), (1, .int (nI (at_ + nn)))] := hl
  have hinX7 : ∀ w ∈ wsX70, w ∈ wsX7_readFrame := by decide +kernel
  have fl_65 := hts (.fieldLink RX7 65 "GuardAbacusModel" "at" "I") (by decide +kernel)
  have fl_86 := hts (.fieldLink RX7 86 "GuardAbacusModel" "readWires" "I") (by decide +kernel)
  refine lv_aload_n hx hb dX7_readFrame_0 rfl (lv_at hl 0 rfl) ?_
  refine lv_iconst (v := 0) hx hb dX7_readFrame_1 (by decide) ?_
  refine va_put (D := E.1) (ci := 7) (v := .int 0) (ty := .int) (C := RX7) (T := TX7) (N := 23) hx hb hts hinX7 tyX7 tyX7_ok nmX7 hown hK.1 hP hD hS 0 rfl rfl 10 (by decide) fl_86 (fun _ h9 => h9) rfl (by decide +kernel) rfl rfl (Nat.le_of_ble_eq_true rfl) dX7_readFrame_2 (fun H locs hP hD hS => ?_)
  have hP : va_P E.1 vwCl [ob m0 7 [.int lf, .int tr, .ref z0, .ref z1, .ref z2, .int (nI n), .ref y0, .ref y1, .ref y2, .int (nI at_), .int 0, .ref y3, .ref y4, .int sl, .int cr, .int gr, .ref y5, .ref y6, .int (nI rc), .ref x0, .ref x1, .ref x2, .ref x3], ar E z2 240 cc, ar E y3 18 rd] H := hP
  have hD : va_D A [ob m0 7 [.int lf, .int tr, .ref z0, .ref z1, .ref z2, .int (nI n), .ref y0, .ref y1, .ref y2, .int (nI at_), .int 0, .ref y3, .ref y4, .int sl, .int cr, .int gr, .ref y5, .ref y6, .int (nI rc), .ref x0, .ref x1, .ref x2, .ref x3], ar E z2 240 cc, ar E y3 18 rd] := hD
  refine lv_aload_n hx hb dX7_readFrame_5 rfl (lv_at hl 0 rfl) ?_
  refine lv_iload_n hx hb dX7_readFrame_6 rfl (lv_at hl 1 rfl) ?_
  refine lv_bipush (v := 97) hx hb dX7_readFrame_7 (by decide) ?_
  refine cwVi (As := [.int (nI (at_ + nn)), .int 97]) (rest := []) ⟨hx, hb, hml, hown, hts⟩ (c_X7_isSign l E _ m0 lf tr z0 z1 z2 n y0 y1 y2 at_ 0 y3 y4 sl cr gr y5 y6 rc x0 x1 x2 x3 cc (at_ + nn) 97 (by first | assumption | omega) (by first | assumption | omega)) (cwV 2 hts gX7_readFrame_X7_isSign rfl rfl rfl (by decide +kernel) ⟨Nat.le_of_ble_eq_true rfl, Nat.le_of_ble_eq_true rfl⟩) hK hP hD hS hA [0, 1] (by decide) rfl [m0, z2] (fun _ => rfl) rfl 0 rfl rfl rfl rfl hl.1 rfl (catLe (Nat.le_of_ble_eq_true rfl)) dX7_readFrame_9 ⟨Nat.zero_le _, Nat.zero_le _⟩ (fun r_1 u_2 H locs hwr_1 hP hD hS => ?_)
  have hP : va_P E.1 vwCl [ob m0 7 [.int lf, .int tr, .ref z0, .ref z1, .ref z2, .int (nI n), .ref y0, .ref y1, .ref y2, .int (nI (if at_ < (at_ + nn) ∧ cc at_ = 97 then at_ + 1 else at_)), .int (nI 0), .ref y3, .ref y4, .int sl, .int cr, .int gr, .ref y5, .ref y6, .int (nI rc), .ref x0, .ref x1, .ref x2, .ref x3], ar E z2 240 cc, ar E y3 18 rd] H := hP
  have hD : va_D A [ob m0 7 [.int lf, .int tr, .ref z0, .ref z1, .ref z2, .int (nI n), .ref y0, .ref y1, .ref y2, .int (nI (if at_ < (at_ + nn) ∧ cc at_ = 97 then at_ + 1 else at_)), .int (nI 0), .ref y3, .ref y4, .int sl, .int cr, .int gr, .ref y5, .ref y6, .int (nI rc), .ref x0, .ref x1, .ref x2, .ref x3], ar E z2 240 cc, ar E y3 18 rd] := hD
  subst hwr_1
  refine ifB_ne (P := at_ < (at_ + nn) ∧ cc at_ = 97) (tgt := 17) hx hb dX7_readFrame_12 (by decide) (fun c_3 => ?_) (fun c_3 => ?_)
  ·
    rw [if_pos c_3] at hP hD
    have hP : va_P E.1 vwCl [ob m0 7 [.int lf, .int tr, .ref z0, .ref z1, .ref z2, .int (nI n), .ref y0, .ref y1, .ref y2, .int (nI (at_ + (1 + 4 * 0))), .int (nI 0), .ref y3, .ref y4, .int sl, .int cr, .int gr, .ref y5, .ref y6, .int (nI rc), .ref x0, .ref x1, .ref x2, .ref x3], ar E z2 240 cc, ar E y3 18 rd] H := hP
    have hD : va_D A [ob m0 7 [.int lf, .int tr, .ref z0, .ref z1, .ref z2, .int (nI n), .ref y0, .ref y1, .ref y2, .int (nI (at_ + (1 + 4 * 0))), .int (nI 0), .ref y3, .ref y4, .int sl, .int cr, .int gr, .ref y5, .ref y6, .int (nI rc), .ref x0, .ref x1, .ref x2, .ref x3], ar E z2 240 cc, ar E y3 18 rd] := hD
    have hok0 : ∀ q, q < 1 + 4 * 0 → okA (fun q => cc (at_ + q)) q = true := fun q hq => by rw [show q = 0 by omega]; exact okA_z.mpr c_3.2
    have hlt0 := c_3.1
    have L17 : ∀ (fuel : Nat) (k : Nat) (rk : Nat → Int32), (k ≤ 6) → (1 + 4 * k ≤ nn) → (∀ q, q < 1 + 4 * k → okA (fun q => cc (at_ + q)) q = true) → (rdP (fun q => cc (at_ + q)) rk k) → (6 - k) < fuel → ∀ (H : Heap) (locs : List Loc), va_P E.1 vwCl [ob m0 7 [.int lf, .int tr, .ref z0, .ref z1, .ref z2, .int (nI n), .ref y0, .ref y1, .ref y2, .int (nI (at_ + (1 + 4 * k))), .int (nI k), .ref y3, .ref y4, .int sl, .int cr, .int gr, .ref y5, .ref y6, .int (nI rc), .ref x0, .ref x1, .ref x2, .ref x3], ar E z2 240 cc, ar E y3 18 rk] H → va_D A [ob m0 7 [.int lf, .int tr, .ref z0, .ref z1, .ref z2, .int (nI n), .ref y0, .ref y1, .ref y2, .int (nI (at_ + (1 + 4 * k))), .int (nI k), .ref y3, .ref y4, .int sl, .int cr, .int gr, .ref y5, .ref y6, .int (nI rc), .ref x0, .ref x1, .ref x2, .ref x3], ar E z2 240 cc, ar E y3 18 rk] → va_S A s.heap H locs → ∀ ls : Array Slot, lv_has ls 2 [(0, .ref m0), (1, .int (nI (at_ + nn)))] → W p l e ({ frames := 3, cells := 0, slots := 0, locals := 69 }) s m args below meth c H locs 0 0 QQ (F0 m 17 ls []) := by
      intro fuel
      induction fuel with
      | zero => intro k rk hk6 hkn hok hrd hf; exact absurd hf (Nat.not_lt_zero _)
      | succ fuel ih17 =>
        intro k rk hk6 hkn hok hrd hf17 H locs hP hD hS ls hl
        refine lv_aload_n hx hb dX7_readFrame_17 rfl (lv_at hl 0 rfl) ?_
        refine va_get (D := E.1) (ci := 7) (v := .int (nI k)) (C := RX7) (T := TX7) (N := 23) hx hb hts hinX7 hown hK.1 hP 0 rfl rfl 10 (by decide) fl_86 (fun _ h9 => h9) rfl dX7_readFrame_18 ?_
        refine lv_iconst (v := 2) hx hb dX7_readFrame_21 (by decide) ?_
        refine icmpN_lt (tgt := 42) (a := k) (b := 2) hx hb rfl rfl (by omega) (by omega) dX7_readFrame_22 (by decide) (fun c_4 => ?_) (fun c_4 => ?_)
        ·
          refine lv_aload_n hx hb dX7_readFrame_42 rfl (lv_at hl 0 rfl) ?_
          refine lv_iload_n hx hb dX7_readFrame_43 rfl (lv_at hl 1 rfl) ?_
          refine lv_bipush (v := 59) hx hb dX7_readFrame_44 (by decide) ?_
          refine cwVi (As := [.int (nI (at_ + nn)), .int 59]) (rest := []) ⟨hx, hb, hml, hown, hts⟩ (c_X7_isSign l E _ m0 lf tr z0 z1 z2 n y0 y1 y2 (at_ + (1 + 4 * k)) k y3 y4 sl cr gr y5 y6 rc x0 x1 x2 x3 cc (at_ + nn) 59 (by first | assumption | omega) (by first | assumption | omega)) (cwV 2 hts gX7_readFrame_X7_isSign rfl rfl rfl (by decide +kernel) ⟨Nat.le_of_ble_eq_true rfl, Nat.le_of_ble_eq_true rfl⟩) hK hP hD hS hA [0, 1] (by decide) rfl [m0, z2] (fun _ => rfl) rfl 0 rfl rfl rfl rfl hl.1 rfl (catLe (Nat.le_of_ble_eq_true rfl)) dX7_readFrame_46 ⟨Nat.zero_le _, Nat.zero_le _⟩ (fun r_5 u_6 H locs hwr_5 hP hD hS => ?_)
          have hP : va_P E.1 vwCl [ob m0 7 [.int lf, .int tr, .ref z0, .ref z1, .ref z2, .int (nI n), .ref y0, .ref y1, .ref y2, .int (nI (if (at_ + (1 + 4 * k)) < (at_ + nn) ∧ cc (at_ + (1 + 4 * k)) = 59 then (at_ + (1 + 4 * k)) + 1 else (at_ + (1 + 4 * k)))), .int (nI k), .ref y3, .ref y4, .int sl, .int cr, .int gr, .ref y5, .ref y6, .int (nI rc), .ref x0, .ref x1, .ref x2, .ref x3], ar E z2 240 cc, ar E y3 18 rk] H := hP
          have hD : va_D A [ob m0 7 [.int lf, .int tr, .ref z0, .ref z1, .ref z2, .int (nI n), .ref y0, .ref y1, .ref y2, .int (nI (if (at_ + (1 + 4 * k)) < (at_ + nn) ∧ cc (at_ + (1 + 4 * k)) = 59 then (at_ + (1 + 4 * k)) + 1 else (at_ + (1 + 4 * k)))), .int (nI k), .ref y3, .ref y4, .int sl, .int cr, .int gr, .ref y5, .ref y6, .int (nI rc), .ref x0, .ref x1, .ref x2, .ref x3], ar E z2 240 cc, ar E y3 18 rk] := hD
          subst hwr_5
          refine ifB_eq (P := (at_ + (1 + 4 * k)) < (at_ + nn) ∧ cc (at_ + (1 + 4 * k)) = 59) (tgt := 60) hx hb dX7_readFrame_49 (by decide) (fun c_7 => ?_) (fun c_7 => ?_)
          ·
            rw [if_neg c_7] at hP hD
            have hP : va_P E.1 vwCl [ob m0 7 [.int lf, .int tr, .ref z0, .ref z1, .ref z2, .int (nI n), .ref y0, .ref y1, .ref y2, .int (nI (at_ + (1 + 4 * k))), .int (nI k), .ref y3, .ref y4, .int sl, .int cr, .int gr, .ref y5, .ref y6, .int (nI rc), .ref x0, .ref x1, .ref x2, .ref x3], ar E z2 240 cc, ar E y3 18 rk] H := hP
            have hD : va_D A [ob m0 7 [.int lf, .int tr, .ref z0, .ref z1, .ref z2, .int (nI n), .ref y0, .ref y1, .ref y2, .int (nI (at_ + (1 + 4 * k))), .int (nI k), .ref y3, .ref y4, .int sl, .int cr, .int gr, .ref y5, .ref y6, .int (nI rc), .ref x0, .ref x1, .ref x2, .ref x3], ar E z2 240 cc, ar E y3 18 rk] := hD
            have hf : ff (okA (fun q => cc (at_ + q))) nn = 1 + 4 * k := ff_stop hok hkn (fun z => c_7 ⟨by have := z.1; omega, (okA_0 (by omega)).mp z.2⟩)
            have hno : ¬ tResA (fun q => cc (at_ + q)) nn = -9 := tResA_no (by omega) hf hkn (by rcases Nat.lt_or_ge (1 + 4 * k) nn with q | q; exact Or.inl q; exact Or.inr (fun t => absurd t.2.2 (by omega)))
            refine lv_iconst (v := 0) hx hb dX7_readFrame_60 (by decide) ?_
            exact hret _ _ _ _ _ (rk, nI k) dX7_readFrame_61 rfl hS (by rw [hf]; exact hP) ⟨(if_neg hno).symm, fun h => absurd h hno⟩
          ·
            rw [if_pos c_7] at hP hD
            have hP : va_P E.1 vwCl [ob m0 7 [.int lf, .int tr, .ref z0, .ref z1, .ref z2, .int (nI n), .ref y0, .ref y1, .ref y2, .int (nI (at_ + (1 + 4 * k) + 1)), .int (nI k), .ref y3, .ref y4, .int sl, .int cr, .int gr, .ref y5, .ref y6, .int (nI rc), .ref x0, .ref x1, .ref x2, .ref x3], ar E z2 240 cc, ar E y3 18 rk] H := hP
            have hD : va_D A [ob m0 7 [.int lf, .int tr, .ref z0, .ref z1, .ref z2, .int (nI n), .ref y0, .ref y1, .ref y2, .int (nI (at_ + (1 + 4 * k) + 1)), .int (nI k), .ref y3, .ref y4, .int sl, .int cr, .int gr, .ref y5, .ref y6, .int (nI rc), .ref x0, .ref x1, .ref x2, .ref x3], ar E z2 240 cc, ar E y3 18 rk] := hD
            have hlt := c_7.1
            have hok1 := ok_ext hok ((okA_0 (by omega)).mpr c_7.2)
            have hrw_ := rw_is (b := at_) (nn := nn) (k := k) (by omega) (by omega) hok1
            refine lv_aload_n hx hb dX7_readFrame_52 rfl (lv_at hl 0 rfl) ?_
            refine lv_iload_n hx hb dX7_readFrame_53 rfl (lv_at hl 1 rfl) ?_
            refine cwVi (As := [.int (nI (at_ + nn))]) (rest := []) ⟨hx, hb, hml, hown, hts⟩ (c_X7_readWire l E _ m0 lf tr z0 z1 z2 n y0 y1 y2 (at_ + (1 + 4 * k) + 1) k y3 y4 sl cr gr y5 y6 rc x0 x1 x2 x3 cc rk (at_ + nn) (by first | assumption | omega) (by first | assumption | omega) (by first | assumption | omega)) (cwV 1 hts gX7_readFrame_X7_readWire rfl rfl rfl (by decide +kernel) ⟨Nat.le_of_ble_eq_true rfl, Nat.le_of_ble_eq_true rfl⟩) hK hP hD hS hA [0, 1, 2] (by decide) rfl [m0, z2, y3] (fun _ => rfl) rfl 0 rfl rfl rfl rfl hl.1 rfl (catLe (Nat.le_of_ble_eq_true rfl)) dX7_readFrame_54 ⟨Nat.zero_le _, Nat.zero_le _⟩ (fun r_8 u_9 H locs hwr_8 hP hD hS => ?_)
            have hP : va_P E.1 vwCl [ob m0 7 [.int lf, .int tr, .ref z0, .ref z1, .ref z2, .int (nI n), .ref y0, .ref y1, .ref y2, .int (nI (rwA cc (at_ + (1 + 4 * k) + 1) (at_ + nn))), .int u_9.2, .ref y3, .ref y4, .int sl, .int cr, .int gr, .ref y5, .ref y6, .int (nI rc), .ref x0, .ref x1, .ref x2, .ref x3], ar E z2 240 cc, ar E y3 18 u_9.1] H := hP
            have hD : va_D A [ob m0 7 [.int lf, .int tr, .ref z0, .ref z1, .ref z2, .int (nI n), .ref y0, .ref y1, .ref y2, .int (nI (rwA cc (at_ + (1 + 4 * k) + 1) (at_ + nn))), .int u_9.2, .ref y3, .ref y4, .int sl, .int cr, .int gr, .ref y5, .ref y6, .int (nI rc), .ref x0, .ref x1, .ref x2, .ref x3], ar E z2 240 cc, ar E y3 18 u_9.1] := hD
            obtain ⟨hwr_8, hwv⟩ := hwr_8
            subst hwr_8
            refine ifB_ne (P := rwA cc (at_ + (1 + 4 * k) + 1) (at_ + nn) = at_ + (1 + 4 * k) + 1 + 3) (tgt := 17) hx hb dX7_readFrame_57 (by decide) (fun c_10 => ?_) (fun c_10 => ?_)
            ·
              have hr := hrw_.resolve_right (fun z => z.1 c_10)
              obtain ⟨hw1, hw2⟩ := hwv c_10
              rw [c_10, hw1, show at_ + (1 + 4 * k) + 1 + 3 = at_ + (1 + 4 * (k + 1)) by omega] at hP hD
              have hP : va_P E.1 vwCl [ob m0 7 [.int lf, .int tr, .ref z0, .ref z1, .ref z2, .int (nI n), .ref y0, .ref y1, .ref y2, .int (nI (at_ + (1 + 4 * (k + 1)))), .int (nI (k + 1)), .ref y3, .ref y4, .int sl, .int cr, .int gr, .ref y5, .ref y6, .int (nI rc), .ref x0, .ref x1, .ref x2, .ref x3], ar E z2 240 cc, ar E y3 18 u_9.1] H := hP
              have hD : va_D A [ob m0 7 [.int lf, .int tr, .ref z0, .ref z1, .ref z2, .int (nI n), .ref y0, .ref y1, .ref y2, .int (nI (at_ + (1 + 4 * (k + 1)))), .int (nI (k + 1)), .ref y3, .ref y4, .int sl, .int cr, .int gr, .ref y5, .ref y6, .int (nI rc), .ref x0, .ref x1, .ref x2, .ref x3], ar E z2 240 cc, ar E y3 18 u_9.1] := hD
              have h4 := hr.2.1
              exact ih17 (k + 1) u_9.1 (by omega) (by omega) hr.2.2 (rdP_s hrd hw2) (by omega) _ _ hP hD hS ls (lv_sub hl [0, 1] rfl)
            ·
              have hr := hrw_.resolve_left (fun z => c_10 z.1)
              rw [hr.2.1] at hP hD
              have hP : va_P E.1 vwCl [ob m0 7 [.int lf, .int tr, .ref z0, .ref z1, .ref z2, .int (nI n), .ref y0, .ref y1, .ref y2, .int (nI (at_ + ff (okA (fun q => cc (at_ + q))) nn)), .int u_9.2, .ref y3, .ref y4, .int sl, .int cr, .int gr, .ref y5, .ref y6, .int (nI rc), .ref x0, .ref x1, .ref x2, .ref x3], ar E z2 240 cc, ar E y3 18 u_9.1] H := hP
              have hD : va_D A [ob m0 7 [.int lf, .int tr, .ref z0, .ref z1, .ref z2, .int (nI n), .ref y0, .ref y1, .ref y2, .int (nI (at_ + ff (okA (fun q => cc (at_ + q))) nn)), .int u_9.2, .ref y3, .ref y4, .int sl, .int cr, .int gr, .ref y5, .ref y6, .int (nI rc), .ref x0, .ref x1, .ref x2, .ref x3], ar E z2 240 cc, ar E y3 18 u_9.1] := hD
              have hno : ¬ tResA (fun q => cc (at_ + q)) nn = -9 := tResA_no (by omega) rfl (ff_le _ _) hr.2.2
              refine lv_iconst (v := 0) hx hb dX7_readFrame_60 (by decide) ?_
              exact hret _ _ _ _ _ (u_9.1, u_9.2) dX7_readFrame_61 rfl hS hP ⟨(if_neg hno).symm, fun h => absurd h hno⟩
        ·
          refine lv_aload_n hx hb dX7_readFrame_25 rfl (lv_at hl 0 rfl) ?_
          refine va_get (D := E.1) (ci := 7) (v := .int (nI k)) (C := RX7) (T := TX7) (N := 23) hx hb hts hinX7 hown hK.1 hP 0 rfl rfl 10 (by decide) fl_86 (fun _ h9 => h9) rfl dX7_readFrame_26 ?_
          refine lv_bipush (v := 6) hx hb dX7_readFrame_29 (by decide) ?_
          refine icmpN_ge (tgt := 62) (a := k) (b := 6) hx hb rfl rfl (by omega) (by omega) dX7_readFrame_31 (by decide) (fun c_11 => ?_) (fun c_11 => ?_)
          ·
            refine lv_aload_n hx hb dX7_readFrame_62 rfl (lv_at hl 0 rfl) ?_
            refine va_get (D := E.1) (ci := 7) (v := .int (nI (at_ + (1 + 4 * k)))) (C := RX7) (T := TX7) (N := 23) hx hb hts hinX7 hown hK.1 hP 0 rfl rfl 9 (by decide) fl_65 (fun _ h9 => h9) rfl dX7_readFrame_63 ?_
            refine lv_iload_n hx hb dX7_readFrame_66 rfl (lv_at hl 1 rfl) ?_
            refine icmpN_ne (tgt := 74) (a := at_ + (1 + 4 * k)) (b := at_ + nn) hx hb rfl rfl (by omega) (by omega) dX7_readFrame_67 (by decide) (fun c_12 => ?_) (fun c_12 => ?_)
            ·
              refine lv_iconst (v := 0) hx hb dX7_readFrame_74 (by decide) ?_
              have hf : ff (okA (fun q => cc (at_ + q))) nn = 1 + 4 * k := ff_at hok (by rw [show 1 + 4 * k = 25 by omega]; exact okA_25) (by omega)
              have hno : ¬ tResA (fun q => cc (at_ + q)) nn = -9 := tResA_no (by omega) hf hkn (Or.inl (by omega))
              exact hret _ _ _ _ _ (rk, nI k) dX7_readFrame_75 rfl hS (by rw [hf]; exact hP) ⟨(if_neg hno).symm, fun h => absurd h hno⟩
            ·
              refine lv_iconst (v := 1) hx hb dX7_readFrame_70 (by decide) ?_
              refine lv_goto (tgt := 75) hx hb dX7_readFrame_71 (by decide) ?_
              have hn : nn = 1 + 4 * k := by omega
              have hT : tResA (fun q => cc (at_ + q)) nn = -9 ∧ ff (okA (fun q => cc (at_ + q))) nn = nn := by have z := tResA_ok hok (by omega); rw [← hn] at z; exact z
              have hq : (nn - 1) / 4 = k := by omega
              exact hret _ _ _ _ _ (rk, nI k) dX7_readFrame_75 rfl hS (by rw [hT.2, hn]; exact hP) ⟨(if_pos hT.1).symm, fun _ => by rw [hq]; exact ⟨hn, hk6, rfl, hrd⟩⟩
          ·
            refine lv_aload_n hx hb dX7_readFrame_34 rfl (lv_at hl 0 rfl) ?_
            refine va_get (D := E.1) (ci := 7) (v := .int (nI (at_ + (1 + 4 * k)))) (C := RX7) (T := TX7) (N := 23) hx hb hts hinX7 hown hK.1 hP 0 rfl rfl 9 (by decide) fl_65 (fun _ h9 => h9) rfl dX7_readFrame_35 ?_
            refine lv_iload_n hx hb dX7_readFrame_38 rfl (lv_at hl 1 rfl) ?_
            refine icmpN_ge (tgt := 62) (a := at_ + (1 + 4 * k)) (b := at_ + nn) hx hb rfl rfl (by omega) (by omega) dX7_readFrame_39 (by decide) (fun c_13 => ?_) (fun c_13 => ?_)
            ·
              refine lv_aload_n hx hb dX7_readFrame_62 rfl (lv_at hl 0 rfl) ?_
              refine va_get (D := E.1) (ci := 7) (v := .int (nI (at_ + (1 + 4 * k)))) (C := RX7) (T := TX7) (N := 23) hx hb hts hinX7 hown hK.1 hP 0 rfl rfl 9 (by decide) fl_65 (fun _ h9 => h9) rfl dX7_readFrame_63 ?_
              refine lv_iload_n hx hb dX7_readFrame_66 rfl (lv_at hl 1 rfl) ?_
              refine icmpN_ne (tgt := 74) (a := at_ + (1 + 4 * k)) (b := at_ + nn) hx hb rfl rfl (by omega) (by omega) dX7_readFrame_67 (by decide) (fun c_14 => ?_) (fun c_14 => ?_)
              ·
                refine lv_iconst (v := 0) hx hb dX7_readFrame_74 (by decide) ?_
                have hf : ff (okA (fun q => cc (at_ + q))) nn = 1 + 4 * k := ff_at hok (by rw [show 1 + 4 * k = 25 by omega]; exact okA_25) (by omega)
                have hno : ¬ tResA (fun q => cc (at_ + q)) nn = -9 := tResA_no (by omega) hf hkn (Or.inl (by omega))
                exact hret _ _ _ _ _ (rk, nI k) dX7_readFrame_75 rfl hS (by rw [hf]; exact hP) ⟨(if_neg hno).symm, fun h => absurd h hno⟩
              ·
                refine lv_iconst (v := 1) hx hb dX7_readFrame_70 (by decide) ?_
                refine lv_goto (tgt := 75) hx hb dX7_readFrame_71 (by decide) ?_
                have hn : nn = 1 + 4 * k := by omega
                have hT : tResA (fun q => cc (at_ + q)) nn = -9 ∧ ff (okA (fun q => cc (at_ + q))) nn = nn := by have z := tResA_ok hok (by omega); rw [← hn] at z; exact z
                have hq : (nn - 1) / 4 = k := by omega
                exact hret _ _ _ _ _ (rk, nI k) dX7_readFrame_75 rfl hS (by rw [hT.2, hn]; exact hP) ⟨(if_pos hT.1).symm, fun _ => by rw [hq]; exact ⟨hn, hk6, rfl, hrd⟩⟩
            ·
              refine lv_aload_n hx hb dX7_readFrame_42 rfl (lv_at hl 0 rfl) ?_
              refine lv_iload_n hx hb dX7_readFrame_43 rfl (lv_at hl 1 rfl) ?_
              refine lv_bipush (v := 59) hx hb dX7_readFrame_44 (by decide) ?_
              refine cwVi (As := [.int (nI (at_ + nn)), .int 59]) (rest := []) ⟨hx, hb, hml, hown, hts⟩ (c_X7_isSign l E _ m0 lf tr z0 z1 z2 n y0 y1 y2 (at_ + (1 + 4 * k)) k y3 y4 sl cr gr y5 y6 rc x0 x1 x2 x3 cc (at_ + nn) 59 (by first | assumption | omega) (by first | assumption | omega)) (cwV 2 hts gX7_readFrame_X7_isSign rfl rfl rfl (by decide +kernel) ⟨Nat.le_of_ble_eq_true rfl, Nat.le_of_ble_eq_true rfl⟩) hK hP hD hS hA [0, 1] (by decide) rfl [m0, z2] (fun _ => rfl) rfl 0 rfl rfl rfl rfl hl.1 rfl (catLe (Nat.le_of_ble_eq_true rfl)) dX7_readFrame_46 ⟨Nat.zero_le _, Nat.zero_le _⟩ (fun r_15 u_16 H locs hwr_15 hP hD hS => ?_)
              have hP : va_P E.1 vwCl [ob m0 7 [.int lf, .int tr, .ref z0, .ref z1, .ref z2, .int (nI n), .ref y0, .ref y1, .ref y2, .int (nI (if (at_ + (1 + 4 * k)) < (at_ + nn) ∧ cc (at_ + (1 + 4 * k)) = 59 then (at_ + (1 + 4 * k)) + 1 else (at_ + (1 + 4 * k)))), .int (nI k), .ref y3, .ref y4, .int sl, .int cr, .int gr, .ref y5, .ref y6, .int (nI rc), .ref x0, .ref x1, .ref x2, .ref x3], ar E z2 240 cc, ar E y3 18 rk] H := hP
              have hD : va_D A [ob m0 7 [.int lf, .int tr, .ref z0, .ref z1, .ref z2, .int (nI n), .ref y0, .ref y1, .ref y2, .int (nI (if (at_ + (1 + 4 * k)) < (at_ + nn) ∧ cc (at_ + (1 + 4 * k)) = 59 then (at_ + (1 + 4 * k)) + 1 else (at_ + (1 + 4 * k)))), .int (nI k), .ref y3, .ref y4, .int sl, .int cr, .int gr, .ref y5, .ref y6, .int (nI rc), .ref x0, .ref x1, .ref x2, .ref x3], ar E z2 240 cc, ar E y3 18 rk] := hD
              subst hwr_15
              refine ifB_eq (P := (at_ + (1 + 4 * k)) < (at_ + nn) ∧ cc (at_ + (1 + 4 * k)) = 59) (tgt := 60) hx hb dX7_readFrame_49 (by decide) (fun c_17 => ?_) (fun c_17 => ?_)
              ·
                rw [if_neg c_17] at hP hD
                have hP : va_P E.1 vwCl [ob m0 7 [.int lf, .int tr, .ref z0, .ref z1, .ref z2, .int (nI n), .ref y0, .ref y1, .ref y2, .int (nI (at_ + (1 + 4 * k))), .int (nI k), .ref y3, .ref y4, .int sl, .int cr, .int gr, .ref y5, .ref y6, .int (nI rc), .ref x0, .ref x1, .ref x2, .ref x3], ar E z2 240 cc, ar E y3 18 rk] H := hP
                have hD : va_D A [ob m0 7 [.int lf, .int tr, .ref z0, .ref z1, .ref z2, .int (nI n), .ref y0, .ref y1, .ref y2, .int (nI (at_ + (1 + 4 * k))), .int (nI k), .ref y3, .ref y4, .int sl, .int cr, .int gr, .ref y5, .ref y6, .int (nI rc), .ref x0, .ref x1, .ref x2, .ref x3], ar E z2 240 cc, ar E y3 18 rk] := hD
                have hf : ff (okA (fun q => cc (at_ + q))) nn = 1 + 4 * k := ff_stop hok hkn (fun z => c_17 ⟨by have := z.1; omega, (okA_0 (by omega)).mp z.2⟩)
                have hno : ¬ tResA (fun q => cc (at_ + q)) nn = -9 := tResA_no (by omega) hf hkn (Or.inl (by omega))
                refine lv_iconst (v := 0) hx hb dX7_readFrame_60 (by decide) ?_
                exact hret _ _ _ _ _ (rk, nI k) dX7_readFrame_61 rfl hS (by rw [hf]; exact hP) ⟨(if_neg hno).symm, fun h => absurd h hno⟩
              ·
                rw [if_pos c_17] at hP hD
                have hP : va_P E.1 vwCl [ob m0 7 [.int lf, .int tr, .ref z0, .ref z1, .ref z2, .int (nI n), .ref y0, .ref y1, .ref y2, .int (nI (at_ + (1 + 4 * k) + 1)), .int (nI k), .ref y3, .ref y4, .int sl, .int cr, .int gr, .ref y5, .ref y6, .int (nI rc), .ref x0, .ref x1, .ref x2, .ref x3], ar E z2 240 cc, ar E y3 18 rk] H := hP
                have hD : va_D A [ob m0 7 [.int lf, .int tr, .ref z0, .ref z1, .ref z2, .int (nI n), .ref y0, .ref y1, .ref y2, .int (nI (at_ + (1 + 4 * k) + 1)), .int (nI k), .ref y3, .ref y4, .int sl, .int cr, .int gr, .ref y5, .ref y6, .int (nI rc), .ref x0, .ref x1, .ref x2, .ref x3], ar E z2 240 cc, ar E y3 18 rk] := hD
                have hlt := c_17.1
                have hok1 := ok_ext hok ((okA_0 (by omega)).mpr c_17.2)
                have hrw_ := rw_is (b := at_) (nn := nn) (k := k) (by omega) (by omega) hok1
                refine lv_aload_n hx hb dX7_readFrame_52 rfl (lv_at hl 0 rfl) ?_
                refine lv_iload_n hx hb dX7_readFrame_53 rfl (lv_at hl 1 rfl) ?_
                refine cwVi (As := [.int (nI (at_ + nn))]) (rest := []) ⟨hx, hb, hml, hown, hts⟩ (c_X7_readWire l E _ m0 lf tr z0 z1 z2 n y0 y1 y2 (at_ + (1 + 4 * k) + 1) k y3 y4 sl cr gr y5 y6 rc x0 x1 x2 x3 cc rk (at_ + nn) (by first | assumption | omega) (by first | assumption | omega) (by first | assumption | omega)) (cwV 1 hts gX7_readFrame_X7_readWire rfl rfl rfl (by decide +kernel) ⟨Nat.le_of_ble_eq_true rfl, Nat.le_of_ble_eq_true rfl⟩) hK hP hD hS hA [0, 1, 2] (by decide) rfl [m0, z2, y3] (fun _ => rfl) rfl 0 rfl rfl rfl rfl hl.1 rfl (catLe (Nat.le_of_ble_eq_true rfl)) dX7_readFrame_54 ⟨Nat.zero_le _, Nat.zero_le _⟩ (fun r_18 u_19 H locs hwr_18 hP hD hS => ?_)
                have hP : va_P E.1 vwCl [ob m0 7 [.int lf, .int tr, .ref z0, .ref z1, .ref z2, .int (nI n), .ref y0, .ref y1, .ref y2, .int (nI (rwA cc (at_ + (1 + 4 * k) + 1) (at_ + nn))), .int u_19.2, .ref y3, .ref y4, .int sl, .int cr, .int gr, .ref y5, .ref y6, .int (nI rc), .ref x0, .ref x1, .ref x2, .ref x3], ar E z2 240 cc, ar E y3 18 u_19.1] H := hP
                have hD : va_D A [ob m0 7 [.int lf, .int tr, .ref z0, .ref z1, .ref z2, .int (nI n), .ref y0, .ref y1, .ref y2, .int (nI (rwA cc (at_ + (1 + 4 * k) + 1) (at_ + nn))), .int u_19.2, .ref y3, .ref y4, .int sl, .int cr, .int gr, .ref y5, .ref y6, .int (nI rc), .ref x0, .ref x1, .ref x2, .ref x3], ar E z2 240 cc, ar E y3 18 u_19.1] := hD
                obtain ⟨hwr_18, hwv⟩ := hwr_18
                subst hwr_18
                refine ifB_ne (P := rwA cc (at_ + (1 + 4 * k) + 1) (at_ + nn) = at_ + (1 + 4 * k) + 1 + 3) (tgt := 17) hx hb dX7_readFrame_57 (by decide) (fun c_20 => ?_) (fun c_20 => ?_)
                ·
                  have hr := hrw_.resolve_right (fun z => z.1 c_20)
                  obtain ⟨hw1, hw2⟩ := hwv c_20
                  rw [c_20, hw1, show at_ + (1 + 4 * k) + 1 + 3 = at_ + (1 + 4 * (k + 1)) by omega] at hP hD
                  have hP : va_P E.1 vwCl [ob m0 7 [.int lf, .int tr, .ref z0, .ref z1, .ref z2, .int (nI n), .ref y0, .ref y1, .ref y2, .int (nI (at_ + (1 + 4 * (k + 1)))), .int (nI (k + 1)), .ref y3, .ref y4, .int sl, .int cr, .int gr, .ref y5, .ref y6, .int (nI rc), .ref x0, .ref x1, .ref x2, .ref x3], ar E z2 240 cc, ar E y3 18 u_19.1] H := hP
                  have hD : va_D A [ob m0 7 [.int lf, .int tr, .ref z0, .ref z1, .ref z2, .int (nI n), .ref y0, .ref y1, .ref y2, .int (nI (at_ + (1 + 4 * (k + 1)))), .int (nI (k + 1)), .ref y3, .ref y4, .int sl, .int cr, .int gr, .ref y5, .ref y6, .int (nI rc), .ref x0, .ref x1, .ref x2, .ref x3], ar E z2 240 cc, ar E y3 18 u_19.1] := hD
                  have h4 := hr.2.1
                  exact ih17 (k + 1) u_19.1 (by omega) (by omega) hr.2.2 (rdP_s hrd hw2) (by omega) _ _ hP hD hS ls (lv_sub hl [0, 1] rfl)
                ·
                  have hr := hrw_.resolve_left (fun z => c_20 z.1)
                  rw [hr.2.1] at hP hD
                  have hP : va_P E.1 vwCl [ob m0 7 [.int lf, .int tr, .ref z0, .ref z1, .ref z2, .int (nI n), .ref y0, .ref y1, .ref y2, .int (nI (at_ + ff (okA (fun q => cc (at_ + q))) nn)), .int u_19.2, .ref y3, .ref y4, .int sl, .int cr, .int gr, .ref y5, .ref y6, .int (nI rc), .ref x0, .ref x1, .ref x2, .ref x3], ar E z2 240 cc, ar E y3 18 u_19.1] H := hP
                  have hD : va_D A [ob m0 7 [.int lf, .int tr, .ref z0, .ref z1, .ref z2, .int (nI n), .ref y0, .ref y1, .ref y2, .int (nI (at_ + ff (okA (fun q => cc (at_ + q))) nn)), .int u_19.2, .ref y3, .ref y4, .int sl, .int cr, .int gr, .ref y5, .ref y6, .int (nI rc), .ref x0, .ref x1, .ref x2, .ref x3], ar E z2 240 cc, ar E y3 18 u_19.1] := hD
                  have hno : ¬ tResA (fun q => cc (at_ + q)) nn = -9 := tResA_no (by omega) rfl (ff_le _ _) hr.2.2
                  refine lv_iconst (v := 0) hx hb dX7_readFrame_60 (by decide) ?_
                  exact hret _ _ _ _ _ (u_19.1, u_19.2) dX7_readFrame_61 rfl hS hP ⟨(if_neg hno).symm, fun h => absurd h hno⟩
    exact L17 _ 0 rd (by omega) (by omega) hok0 (fun w hw => absurd hw (Nat.not_lt_zero _)) (Nat.lt_succ_self _) _ _ hP hD hS ls (lv_sub hl [0, 1] rfl)
  ·
    rw [if_neg c_3] at hP hD
    have hP : va_P E.1 vwCl [ob m0 7 [.int lf, .int tr, .ref z0, .ref z1, .ref z2, .int (nI n), .ref y0, .ref y1, .ref y2, .int (nI at_), .int (nI 0), .ref y3, .ref y4, .int sl, .int cr, .int gr, .ref y5, .ref y6, .int (nI rc), .ref x0, .ref x1, .ref x2, .ref x3], ar E z2 240 cc, ar E y3 18 rd] H := hP
    have hD : va_D A [ob m0 7 [.int lf, .int tr, .ref z0, .ref z1, .ref z2, .int (nI n), .ref y0, .ref y1, .ref y2, .int (nI at_), .int (nI 0), .ref y3, .ref y4, .int sl, .int cr, .int gr, .ref y5, .ref y6, .int (nI rc), .ref x0, .ref x1, .ref x2, .ref x3], ar E z2 240 cc, ar E y3 18 rd] := hD
    have hf : ff (okA (fun q => cc (at_ + q))) nn = 0 := ff_stop (fun q hq => absurd hq (Nat.not_lt_zero _)) (Nat.zero_le _) (fun z => c_3 ⟨by have := z.1; omega, okA_z.mp z.2⟩)
    have hno : ¬ tResA (fun q => cc (at_ + q)) nn = -9 := tResA_no (by omega) hf (Nat.zero_le _) (by rcases Nat.eq_zero_or_pos nn with q | q; exact Or.inr (fun t => absurd t.1 (by omega)); exact Or.inl q)
    refine lv_iconst (v := 0) hx hb dX7_readFrame_15 (by decide) ?_
    exact hret _ _ _ _ _ (rd, nI 0) dX7_readFrame_16 rfl hS (by rw [hf]; exact hP) ⟨(if_neg hno).symm, fun h => absurd h hno⟩
set_option maxHeartbeats 4000000 in
set_option maxRecDepth 100000 in
theorem c_X7_frame (l : Launch) (E : gE) (sz : Nat) (m0 : Nat) (lf : Int32) (tr : Int32) (z0 : Nat) (z1 : Nat) (z2 : Nat) (n : Nat) (y0 : Nat) (y1 : Nat) (y2 : Nat) (at_ : Int32) (rwi : Int32) (y3 : Nat) (y4 : Nat) (sl : Int32) (cr : Int32) (gr : Int32) (y5 : Nat) (y6 : Nat) (rc : Nat) (x0 : Nat) (x1 : Nat) (x2 : Nat) (x3 : Nat) (so : Nat → Int32) (sg : Nat → Int32) (cc : Nat → Int32) (kd : Nat → Int32) (mn : Nat → Int32) (pu : Nat → Int32) (rd : Nat → Int32) (ln : Nat) (j : Nat) (sheet : Int32) (lane : Int32) (i : Int32) (x : Int32) (hj4 : j < 4) (hjs : shP sheet → sheet = nI j) (hsg : sg j = nI ln) (h60 : ln ≤ 60) : Met l yX7_frame wsX7_frame ({ frames := 4, cells := 0, slots := 0, locals := 90 }) (PW E [.ref m0, .int sheet, .int lane, .int i, .int x] [ob m0 7 [.int lf, .int tr, .ref z0, .ref z1, .ref z2, .int (nI n), .ref y0, .ref y1, .ref y2, .int at_, .int rwi, .ref y3, .ref y4, .int sl, .int cr, .int gr, .ref y5, .ref y6, .int (nI rc), .ref x0, .ref x1, .ref x2, .ref x3], ar E z0 4 so, ar E z1 4 sg, ar E z2 240 cc, ar E y0 6 kd, ar E y1 6 mn, ar E y2 6 pu, ar E y3 18 rd] sz) (QWi E (fun r u => r = if ¬ rtK sheet lane i x 1 (thM (so j)) (so j) ln = 0 then rtK sheet lane i x 1 (thM (so j)) (so j) ln else if ¬ tResA (frG (fun q => cc (60 * j + q)) i) (ix x) = -9 then -100 - tResA (frG (fun q => cc (60 * j + q)) i) (ix x) else nI ((ix x - 1) / 4)) (fun (u : (Nat → Int32) × (Int32) × (Int32)) => [ob m0 7 [.int (fltF (rtK sheet lane i x 1 (thM (so j)) (so j) ln)), .int tr, .ref z0, .ref z1, .ref z2, .int (nI (if rtK sheet lane i x 1 (thM (so j)) (so j) ln = 0 ∧ tResA (frG (fun q => cc (60 * j + q)) i) (ix x) = -9 then ((ix x - 1) / 4) else n)), .ref y0, .ref y1, .ref y2, .int u.2.1, .int u.2.2, .ref y3, .ref y4, .int sl, .int cr, .int gr, .ref y5, .ref y6, .int (nI (if rtK sheet lane i x 1 (thM (so j)) (so j) ln = 0 ∧ tResA (frG (fun q => cc (60 * j + q)) i) (ix x) = -9 then 0 else rc)), .ref x0, .ref x1, .ref x2, .ref x3], ar E z0 4 so, ar E z1 4 sg, ar E z2 240 cc, ar E y0 6 (if rtK sheet lane i x 1 (thM (so j)) (so j) ln = 0 ∧ tResA (frG (fun q => cc (60 * j + q)) i) (ix x) = -9 then fil (fun w => kdF ((frG (fun q => cc (60 * j + q)) i) (4 * w + 2))) kd ((ix x - 1) / 4) else kd), ar E y1 6 (if rtK sheet lane i x 1 (thM (so j)) (so j) ln = 0 ∧ tResA (frG (fun q => cc (60 * j + q)) i) (ix x) = -9 then fil (fun w => (frG (fun q => cc (60 * j + q)) i) (4 * w + 3) - 48) mn ((ix x - 1) / 4) else mn), ar E y2 6 (if rtK sheet lane i x 1 (thM (so j)) (so j) ln = 0 ∧ tResA (frG (fun q => cc (60 * j + q)) i) (ix x) = -9 then fil (fun w => (frG (fun q => cc (60 * j + q)) i) (4 * w + 4) - 48) pu ((ix x - 1) / 4) else pu), ar E y3 18 u.1]) (va_A [ob m0 7 [.int lf, .int tr, .ref z0, .ref z1, .ref z2, .int (nI n), .ref y0, .ref y1, .ref y2, .int at_, .int rwi, .ref y3, .ref y4, .int sl, .int cr, .int gr, .ref y5, .ref y6, .int (nI rc), .ref x0, .ref x1, .ref x2, .ref x3], ar E z0 4 so, ar E z1 4 sg, ar E z2 240 cc, ar E y0 6 kd, ar E y1 6 mn, ar E y2 6 pu, ar E y3 18 rd] sz)) 0 0 (va_A [ob m0 7 [.int lf, .int tr, .ref z0, .ref z1, .ref z2, .int (nI n), .ref y0, .ref y1, .ref y2, .int at_, .int rwi, .ref y3, .ref y4, .int sl, .int cr, .int gr, .ref y5, .ref y6, .int (nI rc), .ref x0, .ref x1, .ref x2, .ref x3], ar E z0 4 so, ar E z1 4 sg, ar E z2 240 cc, ar E y0 6 kd, ar E y1 6 mn, ar E y2 6 pu, ar E y3 18 rd] sz) := by
  refine mkWi (cc := cX7_frame) (maxL := 8) (by decide) rfl (Nat.le_of_ble_eq_true rfl) ?_
  intro p e s m args below meth c QQ A hx hb hml hown hmn hts hK hA hP hD hS hret ls hl
  have hown : s.vm.findClass RX7 = some m.cls := hown
  have hl : lv_has ls 8 [(0, .ref m0), (1, .int sheet), (2, .int lane), (3, .int i), (4, .int x)] := hl
  have hinX7 : ∀ w ∈ wsX70, w ∈ wsX7_frame := by decide +kernel
  have fl_19 := hts (.fieldLink RX7 19 "GuardAbacusModel" "kind" "[I") (by decide +kernel)
  have fl_22 := hts (.fieldLink RX7 22 "GuardAbacusModel" "men" "[I") (by decide +kernel)
  have fl_25 := hts (.fieldLink RX7 25 "GuardAbacusModel" "pushed" "[I") (by decide +kernel)
  have fl_28 := hts (.fieldLink RX7 28 "GuardAbacusModel" "read" "[I") (by decide +kernel)
  have fl_52 := hts (.fieldLink RX7 52 "GuardAbacusModel" "fault" "I") (by decide +kernel)
  have fl_62 := hts (.fieldLink RX7 62 "GuardAbacusModel" "wires" "I") (by decide +kernel)
  have fl_65 := hts (.fieldLink RX7 65 "GuardAbacusModel" "at" "I") (by decide +kernel)
  have fl_86 := hts (.fieldLink RX7 86 "GuardAbacusModel" "readWires" "I") (by decide +kernel)
  have fl_89 := hts (.fieldLink RX7 89 "GuardAbacusModel" "readings" "I") (by decide +kernel)
  refine lv_aload_n hx hb dX7_frame_0 rfl (lv_at hl 0 rfl) ?_
  refine lv_iconst (v := 0) hx hb dX7_frame_1 (by decide) ?_
  refine va_put (D := E.1) (ci := 7) (v := .int 0) (ty := .int) (C := RX7) (T := TX7) (N := 23) hx hb hts hinX7 tyX7 tyX7_ok nmX7 hown hK.1 hP hD hS 0 rfl rfl 0 (by decide) fl_52 (fun _ h9 => h9) rfl (by decide +kernel) rfl rfl (Nat.le_of_ble_eq_true rfl) dX7_frame_2 (fun H locs hP hD hS => ?_)
  have hP : va_P E.1 vwCl [ob m0 7 [.int 0, .int tr, .ref z0, .ref z1, .ref z2, .int (nI n), .ref y0, .ref y1, .ref y2, .int at_, .int rwi, .ref y3, .ref y4, .int sl, .int cr, .int gr, .ref y5, .ref y6, .int (nI rc), .ref x0, .ref x1, .ref x2, .ref x3], ar E z0 4 so, ar E z1 4 sg, ar E z2 240 cc, ar E y0 6 kd, ar E y1 6 mn, ar E y2 6 pu, ar E y3 18 rd] H := hP
  have hD : va_D A [ob m0 7 [.int 0, .int tr, .ref z0, .ref z1, .ref z2, .int (nI n), .ref y0, .ref y1, .ref y2, .int at_, .int rwi, .ref y3, .ref y4, .int sl, .int cr, .int gr, .ref y5, .ref y6, .int (nI rc), .ref x0, .ref x1, .ref x2, .ref x3], ar E z0 4 so, ar E z1 4 sg, ar E z2 240 cc, ar E y0 6 kd, ar E y1 6 mn, ar E y2 6 pu, ar E y3 18 rd] := hD
  refine lv_iload_n hx hb dX7_frame_5 rfl (lv_at hl 1 rfl) ?_
  refine crS (As := [.int sheet]) (rest := []) ⟨hx, hb, hml, hown, hts⟩ (c_X7_isSheet l E sheet) (va_cwS 1 hts gX7_frame_X7_isSheet rfl rfl rfl (by decide +kernel) ⟨Nat.le_of_ble_eq_true rfl, Nat.le_of_ble_eq_true rfl⟩) hK hP [] rfl rfl hl.1 rfl (catLe (Nat.le_of_ble_eq_true rfl)) dX7_frame_6 ⟨Nat.zero_le _, Nat.zero_le _⟩ (fun r_1 hr_1 => ?_)
  subst hr_1
  refine ifB_ne (P := shP sheet) (tgt := 14) hx hb dX7_frame_9 (by decide) (fun c_2 => ?_) (fun c_2 => ?_)
  ·
    have hsh := hjs c_2
    subst hsh
    refine lv_iload_n hx hb dX7_frame_14 rfl (lv_at hl 2 rfl) ?_
    refine crS (As := [.int lane]) (rest := []) ⟨hx, hb, hml, hown, hts⟩ (c_X7_isSort l E lane) (va_cwS 1 hts gX7_frame_X7_isSort rfl rfl rfl (by decide +kernel) ⟨Nat.le_of_ble_eq_true rfl, Nat.le_of_ble_eq_true rfl⟩) hK hP [] rfl rfl hl.1 rfl (catLe (Nat.le_of_ble_eq_true rfl)) dX7_frame_15 ⟨Nat.zero_le _, Nat.zero_le _⟩ (fun r_3 hr_3 => ?_)
    subst hr_3
    refine ifB_ne (P := laP lane) (tgt := 24) hx hb dX7_frame_18 (by decide) (fun c_4 => ?_) (fun c_4 => ?_)
    ·
      have eR := ag_rt (sheet := nI j) (i := i) (cells := x) (so := so j) (ln := ln) c_2 c_4
      refine lv_aload_n hx hb dX7_frame_24 rfl (lv_at hl 0 rfl) ?_
      refine lv_iload_n hx hb dX7_frame_25 rfl (lv_at hl 1 rfl) ?_
      refine lv_iload_n hx hb dX7_frame_26 rfl (lv_at hl 2 rfl) ?_
      refine lv_iload_n hx hb dX7_frame_27 rfl (lv_at hl 3 rfl) ?_
      refine lv_iload hx hb dX7_frame_28 (lv_at hl 4 rfl) ?_
      refine crV (As := [.int (nI j), .int lane, .int i, .int x]) (rest := []) ⟨hx, hb, hml, hown, hts⟩ (c_X7_against l E m0 0 tr z0 z1 z2 n y0 y1 y2 at_ rwi y3 y4 sl cr gr y5 y6 rc x0 x1 x2 x3 so sg j ln lane i x (by first | assumption | omega) (by first | assumption | omega)) (cwV 4 hts gX7_frame_X7_against rfl rfl rfl (by decide +kernel) ⟨Nat.le_of_ble_eq_true rfl, Nat.le_of_ble_eq_true rfl⟩) hK hP [0, 1, 2] rfl 0 rfl rfl rfl rfl hl.1 rfl (catLe (Nat.le_of_ble_eq_true rfl)) dX7_frame_30 ⟨Nat.zero_le _, Nat.zero_le _⟩ (fun r_5 hr_5 => ?_)
      subst hr_5
      refine lv_istore (lv' := [(5, .int (agF (so j) lane i x ln)), (0, .ref m0), (1, .int (nI j)), (2, .int lane), (3, .int i), (4, .int x)]) hx hb dX7_frame_33 hl (by decide) rfl (fun ls hl => ?_)
      refine lv_iload hx hb dX7_frame_35 (lv_at hl 0 rfl) ?_
      refine lv_if_eq (tgt := 47) hx hb dX7_frame_37 (by decide) (fun c_6 => ?_) (fun c_6 => ?_)
      ·
        rw [if_pos c_6] at eR
        have hz := rtK_0 eR
        obtain ⟨a, b_, rfl, rfl, hab⟩ := reach_nat hz.2.2.2.2.2 h60
        have hixa : ix (nI a) = a := ix_nI (by omega)
        have hixb : ix (nI b_) = b_ := ix_nI (by omega)
        have hgg : frG (fun q => cc (60 * j + q)) (nI a) = (fun q => cc (60 * j + a + q)) := funext (fun q => by show cc (60 * j + (ix (nI a) + q)) = _; rw [hixa, Nat.add_assoc])
        have hV : tResA (frG (fun q => cc (60 * j + q)) (nI a)) (ix (nI b_)) = tResA (fun q => cc (60 * j + a + q)) b_ := by rw [hgg, hixb]
        refine lv_bipush (v := 60) hx hb dX7_frame_47 (by decide) ?_
        refine lv_iload_n hx hb dX7_frame_49 rfl (lv_at hl 2 rfl) ?_
        refine N_imul (a := 60) (b := j) hx hb rfl rfl dX7_frame_50 ?_
        refine lv_iload_n hx hb dX7_frame_51 rfl (lv_at hl 4 rfl) ?_
        refine N_iadd (a := 60 * j) (b := a) hx hb rfl rfl dX7_frame_52 ?_
        refine lv_istore (lv' := [(6, .int (nI ((60 * j) + a))), (5, .int (agF (so j) lane (nI a) (nI b_) ln)), (0, .ref m0), (1, .int (nI j)), (2, .int lane), (3, .int (nI a)), (4, .int (nI b_))]) hx hb dX7_frame_53 hl (by decide) rfl (fun ls hl => ?_)
        refine lv_aload_n hx hb dX7_frame_55 rfl (lv_at hl 2 rfl) ?_
        refine lv_iload hx hb dX7_frame_56 (lv_at hl 0 rfl) ?_
        refine va_put (D := E.1) (ci := 7) (v := .int (nI ((60 * j) + a))) (ty := .int) (C := RX7) (T := TX7) (N := 23) hx hb hts hinX7 tyX7 tyX7_ok nmX7 hown hK.1 hP hD hS 0 rfl rfl 9 (by decide) fl_65 (fun _ h9 => h9) rfl (by decide +kernel) rfl rfl (Nat.le_of_ble_eq_true rfl) dX7_frame_58 (fun H locs hP hD hS => ?_)
        have hP : va_P E.1 vwCl [ob m0 7 [.int 0, .int tr, .ref z0, .ref z1, .ref z2, .int (nI n), .ref y0, .ref y1, .ref y2, .int (nI ((60 * j) + a)), .int rwi, .ref y3, .ref y4, .int sl, .int cr, .int gr, .ref y5, .ref y6, .int (nI rc), .ref x0, .ref x1, .ref x2, .ref x3], ar E z0 4 so, ar E z1 4 sg, ar E z2 240 cc, ar E y0 6 kd, ar E y1 6 mn, ar E y2 6 pu, ar E y3 18 rd] H := hP
        have hD : va_D A [ob m0 7 [.int 0, .int tr, .ref z0, .ref z1, .ref z2, .int (nI n), .ref y0, .ref y1, .ref y2, .int (nI ((60 * j) + a)), .int rwi, .ref y3, .ref y4, .int sl, .int cr, .int gr, .ref y5, .ref y6, .int (nI rc), .ref x0, .ref x1, .ref x2, .ref x3], ar E z0 4 so, ar E z1 4 sg, ar E z2 240 cc, ar E y0 6 kd, ar E y1 6 mn, ar E y2 6 pu, ar E y3 18 rd] := hD
        refine lv_aload_n hx hb dX7_frame_61 rfl (lv_at hl 2 rfl) ?_
        refine lv_iload hx hb dX7_frame_62 (lv_at hl 0 rfl) ?_
        refine lv_iload hx hb dX7_frame_64 (lv_at hl 6 rfl) ?_
        refine N_iadd (a := (60 * j) + a) (b := b_) hx hb rfl rfl dX7_frame_66 ?_
        refine cwVi (As := [.int (nI (((60 * j) + a) + b_))]) (rest := []) ⟨hx, hb, hml, hown, hts⟩ (c_X7_readFrame l E _ m0 0 tr z0 z1 z2 n y0 y1 y2 ((60 * j) + a) rwi y3 y4 sl cr gr y5 y6 rc x0 x1 x2 x3 cc rd b_ (by first | assumption | omega)) (cwV 1 hts gX7_frame_X7_readFrame rfl rfl rfl (by decide +kernel) ⟨Nat.le_of_ble_eq_true rfl, Nat.le_of_ble_eq_true rfl⟩) hK hP hD hS hA [0, 3, 7] (by decide) rfl [m0, z2, y3] (fun _ => rfl) rfl 0 rfl rfl rfl rfl hl.1 rfl (catLe (Nat.le_of_ble_eq_true rfl)) dX7_frame_67 ⟨Nat.zero_le _, Nat.zero_le _⟩ (fun r_7 u_8 H locs hwr_7 hP hD hS => ?_)
        have hP : va_P E.1 vwCl [ob m0 7 [.int 0, .int tr, .ref z0, .ref z1, .ref z2, .int (nI n), .ref y0, .ref y1, .ref y2, .int (nI (((60 * j) + a) + ff (okA (fun q => cc (((60 * j) + a) + q))) b_)), .int u_8.2, .ref y3, .ref y4, .int sl, .int cr, .int gr, .ref y5, .ref y6, .int (nI rc), .ref x0, .ref x1, .ref x2, .ref x3], ar E z0 4 so, ar E z1 4 sg, ar E z2 240 cc, ar E y0 6 kd, ar E y1 6 mn, ar E y2 6 pu, ar E y3 18 u_8.1] H := hP
        have hD : va_D A [ob m0 7 [.int 0, .int tr, .ref z0, .ref z1, .ref z2, .int (nI n), .ref y0, .ref y1, .ref y2, .int (nI (((60 * j) + a) + ff (okA (fun q => cc (((60 * j) + a) + q))) b_)), .int u_8.2, .ref y3, .ref y4, .int sl, .int cr, .int gr, .ref y5, .ref y6, .int (nI rc), .ref x0, .ref x1, .ref x2, .ref x3], ar E z0 4 so, ar E z1 4 sg, ar E z2 240 cc, ar E y0 6 kd, ar E y1 6 mn, ar E y2 6 pu, ar E y3 18 u_8.1] := hD
        obtain ⟨hwr_7, hwv⟩ := hwr_7
        subst hwr_7
        refine ifB_ne (P := tResA (fun q => cc (60 * j + a + q)) b_ = -9) (tgt := 84) hx hb dX7_frame_70 (by decide) (fun c_9 => ?_) (fun c_9 => ?_)
        ·
          obtain ⟨hn1, hn2, hn3, hrd⟩ := hwv c_9
          rw [hn3] at hP hD
          have hP : va_P E.1 vwCl [ob m0 7 [.int 0, .int tr, .ref z0, .ref z1, .ref z2, .int (nI n), .ref y0, .ref y1, .ref y2, .int (nI (((60 * j) + a) + ff (okA (fun q => cc (((60 * j) + a) + q))) b_)), .int (nI ((b_ - 1) / 4)), .ref y3, .ref y4, .int sl, .int cr, .int gr, .ref y5, .ref y6, .int (nI rc), .ref x0, .ref x1, .ref x2, .ref x3], ar E z0 4 so, ar E z1 4 sg, ar E z2 240 cc, ar E y0 6 kd, ar E y1 6 mn, ar E y2 6 pu, ar E y3 18 u_8.1] H := hP
          have hD : va_D A [ob m0 7 [.int 0, .int tr, .ref z0, .ref z1, .ref z2, .int (nI n), .ref y0, .ref y1, .ref y2, .int (nI (((60 * j) + a) + ff (okA (fun q => cc (((60 * j) + a) + q))) b_)), .int (nI ((b_ - 1) / 4)), .ref y3, .ref y4, .int sl, .int cr, .int gr, .ref y5, .ref y6, .int (nI rc), .ref x0, .ref x1, .ref x2, .ref x3], ar E z0 4 so, ar E z1 4 sg, ar E z2 240 cc, ar E y0 6 kd, ar E y1 6 mn, ar E y2 6 pu, ar E y3 18 u_8.1] := hD
          refine lv_aload_n hx hb dX7_frame_84 rfl (lv_at hl 2 rfl) ?_
          refine lv_aload_n hx hb dX7_frame_85 rfl (lv_at hl 2 rfl) ?_
          refine va_get (D := E.1) (ci := 7) (v := .int (nI ((b_ - 1) / 4))) (C := RX7) (T := TX7) (N := 23) hx hb hts hinX7 hown hK.1 hP 0 rfl rfl 10 (by decide) fl_86 (fun _ h9 => h9) rfl dX7_frame_86 ?_
          refine va_put (D := E.1) (ci := 7) (v := .int (nI ((b_ - 1) / 4))) (ty := .int) (C := RX7) (T := TX7) (N := 23) hx hb hts hinX7 tyX7 tyX7_ok nmX7 hown hK.1 hP hD hS 0 rfl rfl 5 (by decide) fl_62 (fun _ h9 => h9) rfl (by decide +kernel) rfl rfl (Nat.le_of_ble_eq_true rfl) dX7_frame_89 (fun H locs hP hD hS => ?_)
          have hP : va_P E.1 vwCl [ob m0 7 [.int 0, .int tr, .ref z0, .ref z1, .ref z2, .int (nI ((b_ - 1) / 4)), .ref y0, .ref y1, .ref y2, .int (nI (((60 * j) + a) + ff (okA (fun q => cc (((60 * j) + a) + q))) b_)), .int (nI ((b_ - 1) / 4)), .ref y3, .ref y4, .int sl, .int cr, .int gr, .ref y5, .ref y6, .int (nI rc), .ref x0, .ref x1, .ref x2, .ref x3], ar E z0 4 so, ar E z1 4 sg, ar E z2 240 cc, ar E y0 6 kd, ar E y1 6 mn, ar E y2 6 pu, ar E y3 18 u_8.1] H := hP
          have hD : va_D A [ob m0 7 [.int 0, .int tr, .ref z0, .ref z1, .ref z2, .int (nI ((b_ - 1) / 4)), .ref y0, .ref y1, .ref y2, .int (nI (((60 * j) + a) + ff (okA (fun q => cc (((60 * j) + a) + q))) b_)), .int (nI ((b_ - 1) / 4)), .ref y3, .ref y4, .int sl, .int cr, .int gr, .ref y5, .ref y6, .int (nI rc), .ref x0, .ref x1, .ref x2, .ref x3], ar E z0 4 so, ar E z1 4 sg, ar E z2 240 cc, ar E y0 6 kd, ar E y1 6 mn, ar E y2 6 pu, ar E y3 18 u_8.1] := hD
          refine lv_iconst (v := 0) hx hb dX7_frame_92 (by decide) ?_
          refine lv_istore (lv' := [(7, .int 0), (6, .int (nI ((60 * j) + a))), (5, .int (agF (so j) lane (nI a) (nI b_) ln)), (0, .ref m0), (1, .int (nI j)), (2, .int lane), (3, .int (nI a)), (4, .int (nI b_))]) hx hb dX7_frame_93 hl (by decide) rfl (fun ls hl => ?_)
          rw [← fil_0 (fun w => kdF ((fun q => cc (60 * j + a + q)) (4 * w + 2))) kd, ← fil_0 (fun w => (fun q => cc (60 * j + a + q)) (4 * w + 3) - 48) mn, ← fil_0 (fun w => (fun q => cc (60 * j + a + q)) (4 * w + 4) - 48) pu] at hP hD
          have L95 : ∀ (fuel : Nat) (k : Nat), (k ≤ (b_ - 1) / 4) → ((b_ - 1) / 4 - k) < fuel → ∀ (H : Heap) (locs : List Loc), va_P E.1 vwCl [ob m0 7 [.int 0, .int tr, .ref z0, .ref z1, .ref z2, .int (nI ((b_ - 1) / 4)), .ref y0, .ref y1, .ref y2, .int (nI (((60 * j) + a) + ff (okA (fun q => cc (((60 * j) + a) + q))) b_)), .int (nI ((b_ - 1) / 4)), .ref y3, .ref y4, .int sl, .int cr, .int gr, .ref y5, .ref y6, .int (nI rc), .ref x0, .ref x1, .ref x2, .ref x3], ar E z0 4 so, ar E z1 4 sg, ar E z2 240 cc, ar E y0 6 (fil (fun w => kdF ((fun q => cc (60 * j + a + q)) (4 * w + 2))) kd k), ar E y1 6 (fil (fun w => (fun q => cc (60 * j + a + q)) (4 * w + 3) - 48) mn k), ar E y2 6 (fil (fun w => (fun q => cc (60 * j + a + q)) (4 * w + 4) - 48) pu k), ar E y3 18 u_8.1] H → va_D A [ob m0 7 [.int 0, .int tr, .ref z0, .ref z1, .ref z2, .int (nI ((b_ - 1) / 4)), .ref y0, .ref y1, .ref y2, .int (nI (((60 * j) + a) + ff (okA (fun q => cc (((60 * j) + a) + q))) b_)), .int (nI ((b_ - 1) / 4)), .ref y3, .ref y4, .int sl, .int cr, .int gr, .ref y5, .ref y6, .int (nI rc), .ref x0, .ref x1, .ref x2, .ref x3], ar E z0 4 so, ar E z1 4 sg, ar E z2 240 cc, ar E y0 6 (fil (fun w => kdF ((fun q => cc (60 * j + a + q)) (4 * w + 2))) kd k), ar E y1 6 (fil (fun w => (fun q => cc (60 * j + a + q)) (4 * w + 3) - 48) mn k), ar E y2 6 (fil (fun w => (fun q => cc (60 * j + a + q)) (4 * w + 4) - 48) pu k), ar E y3 18 u_8.1] → va_S A s.heap H locs → ∀ ls : Array Slot, lv_has ls 8 [(7, .int (nI k)), (6, .int (nI ((60 * j) + a))), (5, .int (agF (so j) lane (nI a) (nI b_) ln)), (0, .ref m0), (1, .int (nI j)), (2, .int lane), (3, .int (nI a)), (4, .int (nI b_))] → W p l e ({ frames := 4, cells := 0, slots := 0, locals := 90 }) s m args below meth c H locs 0 0 QQ (F0 m 95 ls []) := by
            intro fuel
            induction fuel with
            | zero => intro k hk hf; exact absurd hf (Nat.not_lt_zero _)
            | succ fuel ih95 =>
              intro k hk hf95 H locs hP hD hS ls hl
              refine lv_iload hx hb dX7_frame_95 (lv_at hl 0 rfl) ?_
              refine lv_aload_n hx hb dX7_frame_97 rfl (lv_at hl 3 rfl) ?_
              refine va_get (D := E.1) (ci := 7) (v := .int (nI ((b_ - 1) / 4))) (C := RX7) (T := TX7) (N := 23) hx hb hts hinX7 hown hK.1 hP 0 rfl rfl 5 (by decide) fl_62 (fun _ h9 => h9) rfl dX7_frame_98 ?_
              refine icmpN_ge (tgt := 162) (a := k) (b := (b_ - 1) / 4) hx hb rfl rfl (by omega) (by omega) dX7_frame_101 (by decide) (fun c_10 => ?_) (fun c_10 => ?_)
              ·
                obtain rfl : (b_ - 1) / 4 = k := by omega
                refine lv_aload_n hx hb dX7_frame_162 rfl (lv_at hl 3 rfl) ?_
                refine lv_iconst (v := 0) hx hb dX7_frame_163 (by decide) ?_
                refine va_put (D := E.1) (ci := 7) (v := .int 0) (ty := .int) (C := RX7) (T := TX7) (N := 23) hx hb hts hinX7 tyX7 tyX7_ok nmX7 hown hK.1 hP hD hS 0 rfl rfl 18 (by decide) fl_89 (fun _ h9 => h9) rfl (by decide +kernel) rfl rfl (Nat.le_of_ble_eq_true rfl) dX7_frame_164 (fun H locs hP hD hS => ?_)
                have hP : va_P E.1 vwCl [ob m0 7 [.int 0, .int tr, .ref z0, .ref z1, .ref z2, .int (nI ((b_ - 1) / 4)), .ref y0, .ref y1, .ref y2, .int (nI (((60 * j) + a) + ff (okA (fun q => cc (((60 * j) + a) + q))) b_)), .int (nI ((b_ - 1) / 4)), .ref y3, .ref y4, .int sl, .int cr, .int gr, .ref y5, .ref y6, .int 0, .ref x0, .ref x1, .ref x2, .ref x3], ar E z0 4 so, ar E z1 4 sg, ar E z2 240 cc, ar E y0 6 (fil (fun w => kdF ((fun q => cc (60 * j + a + q)) (4 * w + 2))) kd ((b_ - 1) / 4)), ar E y1 6 (fil (fun w => (fun q => cc (60 * j + a + q)) (4 * w + 3) - 48) mn ((b_ - 1) / 4)), ar E y2 6 (fil (fun w => (fun q => cc (60 * j + a + q)) (4 * w + 4) - 48) pu ((b_ - 1) / 4)), ar E y3 18 u_8.1] H := hP
                have hD : va_D A [ob m0 7 [.int 0, .int tr, .ref z0, .ref z1, .ref z2, .int (nI ((b_ - 1) / 4)), .ref y0, .ref y1, .ref y2, .int (nI (((60 * j) + a) + ff (okA (fun q => cc (((60 * j) + a) + q))) b_)), .int (nI ((b_ - 1) / 4)), .ref y3, .ref y4, .int sl, .int cr, .int gr, .ref y5, .ref y6, .int 0, .ref x0, .ref x1, .ref x2, .ref x3], ar E z0 4 so, ar E z1 4 sg, ar E z2 240 cc, ar E y0 6 (fil (fun w => kdF ((fun q => cc (60 * j + a + q)) (4 * w + 2))) kd ((b_ - 1) / 4)), ar E y1 6 (fil (fun w => (fun q => cc (60 * j + a + q)) (4 * w + 3) - 48) mn ((b_ - 1) / 4)), ar E y2 6 (fil (fun w => (fun q => cc (60 * j + a + q)) (4 * w + 4) - 48) pu ((b_ - 1) / 4)), ar E y3 18 u_8.1] := hD
                refine lv_aload_n hx hb dX7_frame_167 rfl (lv_at hl 3 rfl) ?_
                refine va_get (D := E.1) (ci := 7) (v := .int (nI ((b_ - 1) / 4))) (C := RX7) (T := TX7) (N := 23) hx hb hts hinX7 hown hK.1 hP 0 rfl rfl 5 (by decide) fl_62 (fun _ h9 => h9) rfl dX7_frame_168 ?_
                have hok : rtK (nI j) lane (nI a) (nI b_) 1 (thM (so j)) (so j) ln = 0 ∧ tResA (frG (fun q => cc (60 * j + q)) (nI a)) (ix (nI b_)) = -9 := ⟨eR, hV.trans c_9⟩
                exact hret _ _ _ _ _ (u_8.1, nI (((60 * j) + a) + ff (okA (fun q => cc (((60 * j) + a) + q))) b_), nI ((b_ - 1) / 4)) dX7_frame_171 hS (by simp only [if_pos hok]; rw [eR, hgg, hixb]; exact hP) (by rw [eR, if_neg (not_not_intro rfl), hV, if_neg (not_not_intro c_9), hixb])
              ·
                refine lv_aload_n hx hb dX7_frame_104 rfl (lv_at hl 3 rfl) ?_
                refine va_get (D := E.1) (ci := 7) (v := .ref y0) (C := RX7) (T := TX7) (N := 23) hx hb hts hinX7 hown hK.1 hP 0 rfl rfl 6 (by decide) fl_19 (fun _ h9 => h9) rfl dX7_frame_105 ?_
                refine lv_iload hx hb dX7_frame_108 (lv_at hl 0 rfl) ?_
                refine lv_aload_n hx hb dX7_frame_110 rfl (lv_at hl 3 rfl) ?_
                refine va_get (D := E.1) (ci := 7) (v := .ref y3) (C := RX7) (T := TX7) (N := 23) hx hb hts hinX7 hown hK.1 hP 0 rfl rfl 11 (by decide) fl_28 (fun _ h9 => h9) rfl dX7_frame_111 ?_
                refine lv_iconst (v := 3) hx hb dX7_frame_114 (by decide) ?_
                refine lv_iload hx hb dX7_frame_115 (lv_at hl 0 rfl) ?_
                refine N_imul (a := 3) (b := k) hx hb rfl rfl dX7_frame_117 ?_
                refine ild hx hb hK hP 7 rfl (j := 3 * k) rfl (by omega) (by decide) dX7_frame_118 ?_
                rw [show u_8.1 (3 * k) = kdF (cc (60 * j + a + (4 * k + 2))) from (hrd k (by omega)).1]
                refine ist hx hb hK hP hD hS 4 rfl (j := k) rfl (by omega) (by decide) dX7_frame_119 (fun H locs hP hD hS => ?_)
                have hP : va_P E.1 vwCl [ob m0 7 [.int 0, .int tr, .ref z0, .ref z1, .ref z2, .int (nI ((b_ - 1) / 4)), .ref y0, .ref y1, .ref y2, .int (nI (((60 * j) + a) + ff (okA (fun q => cc (((60 * j) + a) + q))) b_)), .int (nI ((b_ - 1) / 4)), .ref y3, .ref y4, .int sl, .int cr, .int gr, .ref y5, .ref y6, .int (nI rc), .ref x0, .ref x1, .ref x2, .ref x3], ar E z0 4 so, ar E z1 4 sg, ar E z2 240 cc, ar E y0 6 (upd (fil (fun w => kdF ((fun q => cc (60 * j + a + q)) (4 * w + 2))) kd k) k (kdF (cc (60 * j + a + (4 * k + 2))))), ar E y1 6 (fil (fun w => (fun q => cc (60 * j + a + q)) (4 * w + 3) - 48) mn k), ar E y2 6 (fil (fun w => (fun q => cc (60 * j + a + q)) (4 * w + 4) - 48) pu k), ar E y3 18 u_8.1] H := hP
                have hD : va_D A [ob m0 7 [.int 0, .int tr, .ref z0, .ref z1, .ref z2, .int (nI ((b_ - 1) / 4)), .ref y0, .ref y1, .ref y2, .int (nI (((60 * j) + a) + ff (okA (fun q => cc (((60 * j) + a) + q))) b_)), .int (nI ((b_ - 1) / 4)), .ref y3, .ref y4, .int sl, .int cr, .int gr, .ref y5, .ref y6, .int (nI rc), .ref x0, .ref x1, .ref x2, .ref x3], ar E z0 4 so, ar E z1 4 sg, ar E z2 240 cc, ar E y0 6 (upd (fil (fun w => kdF ((fun q => cc (60 * j + a + q)) (4 * w + 2))) kd k) k (kdF (cc (60 * j + a + (4 * k + 2))))), ar E y1 6 (fil (fun w => (fun q => cc (60 * j + a + q)) (4 * w + 3) - 48) mn k), ar E y2 6 (fil (fun w => (fun q => cc (60 * j + a + q)) (4 * w + 4) - 48) pu k), ar E y3 18 u_8.1] := hD
                rw [show upd (fil (fun w => kdF ((fun q => cc (60 * j + a + q)) (4 * w + 2))) kd k) k (kdF (cc (60 * j + a + (4 * k + 2)))) = fil (fun w => kdF ((fun q => cc (60 * j + a + q)) (4 * w + 2))) kd (k + 1) from fil_s _ _ _] at hP hD
                refine lv_aload_n hx hb dX7_frame_120 rfl (lv_at hl 3 rfl) ?_
                refine va_get (D := E.1) (ci := 7) (v := .ref y1) (C := RX7) (T := TX7) (N := 23) hx hb hts hinX7 hown hK.1 hP 0 rfl rfl 7 (by decide) fl_22 (fun _ h9 => h9) rfl dX7_frame_121 ?_
                refine lv_iload hx hb dX7_frame_124 (lv_at hl 0 rfl) ?_
                refine lv_aload_n hx hb dX7_frame_126 rfl (lv_at hl 3 rfl) ?_
                refine va_get (D := E.1) (ci := 7) (v := .ref y3) (C := RX7) (T := TX7) (N := 23) hx hb hts hinX7 hown hK.1 hP 0 rfl rfl 11 (by decide) fl_28 (fun _ h9 => h9) rfl dX7_frame_127 ?_
                refine lv_iconst (v := 3) hx hb dX7_frame_130 (by decide) ?_
                refine lv_iload hx hb dX7_frame_131 (lv_at hl 0 rfl) ?_
                refine N_imul (a := 3) (b := k) hx hb rfl rfl dX7_frame_133 ?_
                refine lv_iconst (v := 1) hx hb dX7_frame_134 (by decide) ?_
                refine N_iadd (a := 3 * k) (b := 1) hx hb rfl rfl dX7_frame_135 ?_
                refine ild hx hb hK hP 7 rfl (j := (3 * k) + 1) rfl (by omega) (by decide) dX7_frame_136 ?_
                rw [show u_8.1 (3 * k + 1) = cc (60 * j + a + (4 * k + 3)) - 48 from (hrd k (by omega)).2.1]
                refine ist hx hb hK hP hD hS 5 rfl (j := k) rfl (by omega) (by decide) dX7_frame_137 (fun H locs hP hD hS => ?_)
                have hP : va_P E.1 vwCl [ob m0 7 [.int 0, .int tr, .ref z0, .ref z1, .ref z2, .int (nI ((b_ - 1) / 4)), .ref y0, .ref y1, .ref y2, .int (nI (((60 * j) + a) + ff (okA (fun q => cc (((60 * j) + a) + q))) b_)), .int (nI ((b_ - 1) / 4)), .ref y3, .ref y4, .int sl, .int cr, .int gr, .ref y5, .ref y6, .int (nI rc), .ref x0, .ref x1, .ref x2, .ref x3], ar E z0 4 so, ar E z1 4 sg, ar E z2 240 cc, ar E y0 6 (fil (fun w => kdF ((fun q => cc (60 * j + a + q)) (4 * w + 2))) kd (k + 1)), ar E y1 6 (upd (fil (fun w => (fun q => cc (60 * j + a + q)) (4 * w + 3) - 48) mn k) k (cc (60 * j + a + (4 * k + 3)) - 48)), ar E y2 6 (fil (fun w => (fun q => cc (60 * j + a + q)) (4 * w + 4) - 48) pu k), ar E y3 18 u_8.1] H := hP
                have hD : va_D A [ob m0 7 [.int 0, .int tr, .ref z0, .ref z1, .ref z2, .int (nI ((b_ - 1) / 4)), .ref y0, .ref y1, .ref y2, .int (nI (((60 * j) + a) + ff (okA (fun q => cc (((60 * j) + a) + q))) b_)), .int (nI ((b_ - 1) / 4)), .ref y3, .ref y4, .int sl, .int cr, .int gr, .ref y5, .ref y6, .int (nI rc), .ref x0, .ref x1, .ref x2, .ref x3], ar E z0 4 so, ar E z1 4 sg, ar E z2 240 cc, ar E y0 6 (fil (fun w => kdF ((fun q => cc (60 * j + a + q)) (4 * w + 2))) kd (k + 1)), ar E y1 6 (upd (fil (fun w => (fun q => cc (60 * j + a + q)) (4 * w + 3) - 48) mn k) k (cc (60 * j + a + (4 * k + 3)) - 48)), ar E y2 6 (fil (fun w => (fun q => cc (60 * j + a + q)) (4 * w + 4) - 48) pu k), ar E y3 18 u_8.1] := hD
                rw [show upd (fil (fun w => (fun q => cc (60 * j + a + q)) (4 * w + 3) - 48) mn k) k (cc (60 * j + a + (4 * k + 3)) - 48) = fil (fun w => (fun q => cc (60 * j + a + q)) (4 * w + 3) - 48) mn (k + 1) from fil_s _ _ _] at hP hD
                refine lv_aload_n hx hb dX7_frame_138 rfl (lv_at hl 3 rfl) ?_
                refine va_get (D := E.1) (ci := 7) (v := .ref y2) (C := RX7) (T := TX7) (N := 23) hx hb hts hinX7 hown hK.1 hP 0 rfl rfl 8 (by decide) fl_25 (fun _ h9 => h9) rfl dX7_frame_139 ?_
                refine lv_iload hx hb dX7_frame_142 (lv_at hl 0 rfl) ?_
                refine lv_aload_n hx hb dX7_frame_144 rfl (lv_at hl 3 rfl) ?_
                refine va_get (D := E.1) (ci := 7) (v := .ref y3) (C := RX7) (T := TX7) (N := 23) hx hb hts hinX7 hown hK.1 hP 0 rfl rfl 11 (by decide) fl_28 (fun _ h9 => h9) rfl dX7_frame_145 ?_
                refine lv_iconst (v := 3) hx hb dX7_frame_148 (by decide) ?_
                refine lv_iload hx hb dX7_frame_149 (lv_at hl 0 rfl) ?_
                refine N_imul (a := 3) (b := k) hx hb rfl rfl dX7_frame_151 ?_
                refine lv_iconst (v := 2) hx hb dX7_frame_152 (by decide) ?_
                refine N_iadd (a := 3 * k) (b := 2) hx hb rfl rfl dX7_frame_153 ?_
                refine ild hx hb hK hP 7 rfl (j := (3 * k) + 2) rfl (by omega) (by decide) dX7_frame_154 ?_
                rw [show u_8.1 (3 * k + 2) = cc (60 * j + a + (4 * k + 4)) - 48 from (hrd k (by omega)).2.2]
                refine ist hx hb hK hP hD hS 6 rfl (j := k) rfl (by omega) (by decide) dX7_frame_155 (fun H locs hP hD hS => ?_)
                have hP : va_P E.1 vwCl [ob m0 7 [.int 0, .int tr, .ref z0, .ref z1, .ref z2, .int (nI ((b_ - 1) / 4)), .ref y0, .ref y1, .ref y2, .int (nI (((60 * j) + a) + ff (okA (fun q => cc (((60 * j) + a) + q))) b_)), .int (nI ((b_ - 1) / 4)), .ref y3, .ref y4, .int sl, .int cr, .int gr, .ref y5, .ref y6, .int (nI rc), .ref x0, .ref x1, .ref x2, .ref x3], ar E z0 4 so, ar E z1 4 sg, ar E z2 240 cc, ar E y0 6 (fil (fun w => kdF ((fun q => cc (60 * j + a + q)) (4 * w + 2))) kd (k + 1)), ar E y1 6 (fil (fun w => (fun q => cc (60 * j + a + q)) (4 * w + 3) - 48) mn (k + 1)), ar E y2 6 (upd (fil (fun w => (fun q => cc (60 * j + a + q)) (4 * w + 4) - 48) pu k) k (cc (60 * j + a + (4 * k + 4)) - 48)), ar E y3 18 u_8.1] H := hP
                have hD : va_D A [ob m0 7 [.int 0, .int tr, .ref z0, .ref z1, .ref z2, .int (nI ((b_ - 1) / 4)), .ref y0, .ref y1, .ref y2, .int (nI (((60 * j) + a) + ff (okA (fun q => cc (((60 * j) + a) + q))) b_)), .int (nI ((b_ - 1) / 4)), .ref y3, .ref y4, .int sl, .int cr, .int gr, .ref y5, .ref y6, .int (nI rc), .ref x0, .ref x1, .ref x2, .ref x3], ar E z0 4 so, ar E z1 4 sg, ar E z2 240 cc, ar E y0 6 (fil (fun w => kdF ((fun q => cc (60 * j + a + q)) (4 * w + 2))) kd (k + 1)), ar E y1 6 (fil (fun w => (fun q => cc (60 * j + a + q)) (4 * w + 3) - 48) mn (k + 1)), ar E y2 6 (upd (fil (fun w => (fun q => cc (60 * j + a + q)) (4 * w + 4) - 48) pu k) k (cc (60 * j + a + (4 * k + 4)) - 48)), ar E y3 18 u_8.1] := hD
                rw [show upd (fil (fun w => (fun q => cc (60 * j + a + q)) (4 * w + 4) - 48) pu k) k (cc (60 * j + a + (4 * k + 4)) - 48) = fil (fun w => (fun q => cc (60 * j + a + q)) (4 * w + 4) - 48) pu (k + 1) from fil_s _ _ _] at hP hD
                refine lv_iinc (v := nI (k + 1)) (lv' := [(7, .int (nI (k + 1))), (6, .int (nI ((60 * j) + a))), (5, .int (agF (so j) lane (nI a) (nI b_) ln)), (0, .ref m0), (1, .int (nI j)), (2, .int lane), (3, .int (nI a)), (4, .int (nI b_))]) hx hb dX7_frame_156 hl (k := 0) rfl (nI_inc k) (by decide) rfl (fun ls hl => ?_)
                refine lv_goto (tgt := 95) hx hb dX7_frame_159 (by decide) ?_
                exact ih95 (k + 1) (by omega) (by omega) _ _ hP hD hS ls (lv_sub hl [0, 1, 2, 3, 4, 5, 6, 7] rfl)
          exact L95 _ 0 (by omega) (Nat.lt_succ_self _) _ _ hP hD hS ls (lv_sub hl [0, 1, 2, 3, 4, 5, 6, 7] rfl)
        ·
          refine lv_bipush (v := (-100)) hx hb dX7_frame_73 (by decide) ?_
          refine lv_aload_n hx hb dX7_frame_75 rfl (lv_at hl 2 rfl) ?_
          refine va_get (D := E.1) (ci := 7) (v := .int (nI (((60 * j) + a) + ff (okA (fun q => cc (((60 * j) + a) + q))) b_))) (C := RX7) (T := TX7) (N := 23) hx hb hts hinX7 hown hK.1 hP 0 rfl rfl 9 (by decide) fl_65 (fun _ h9 => h9) rfl dX7_frame_76 ?_
          refine lv_iload hx hb dX7_frame_79 (lv_at hl 0 rfl) ?_
          refine N_isub (a := ((60 * j) + a) + ff (okA (fun q => cc (((60 * j) + a) + q))) b_) (b := (60 * j) + a) hx hb rfl rfl (by omega) dX7_frame_81 ?_
          refine lv_isub hx hb dX7_frame_82 ?_
          have hno : ¬ (rtK (nI j) lane (nI a) (nI b_) 1 (thM (so j)) (so j) ln = 0 ∧ tResA (frG (fun q => cc (60 * j + q)) (nI a)) (ix (nI b_)) = -9) := fun h => c_9 (hV ▸ h.2)
          exact hret _ _ _ _ _ (u_8.1, nI (((60 * j) + a) + ff (okA (fun q => cc (((60 * j) + a) + q))) b_), u_8.2) dX7_frame_83 hS (by simp only [if_neg hno]; rw [eR]; exact hP) (by rw [eR, if_neg (not_not_intro rfl), hV, if_pos c_9, tResA_is c_9, Nat.add_sub_cancel_left])
      ·
        refine lv_aload_n hx hb dX7_frame_40 rfl (lv_at hl 1 rfl) ?_
        refine lv_iload hx hb dX7_frame_41 (lv_at hl 0 rfl) ?_
        refine cwVi (As := [.int (agF (so j) lane i x ln)]) (rest := []) ⟨hx, hb, hml, hown, hts⟩ (c_X7_fails l E _ m0 0 tr z0 z1 z2 n y0 y1 y2 at_ rwi y3 y4 sl cr gr y5 y6 rc x0 x1 x2 x3 (agF (so j) lane i x ln)) (cwV 1 hts gX7_frame_X7_fails rfl rfl rfl (by decide +kernel) ⟨Nat.le_of_ble_eq_true rfl, Nat.le_of_ble_eq_true rfl⟩) hK hP hD hS hA [0] (by decide) rfl [m0] (fun _ => rfl) rfl 0 rfl rfl rfl rfl hl.1 rfl (catLe (Nat.le_of_ble_eq_true rfl)) dX7_frame_43 ⟨Nat.zero_le _, Nat.zero_le _⟩ (fun r_11 u_12 H locs hwr_11 hP hD hS => ?_)
        have hP : va_P E.1 vwCl [ob m0 7 [.int (agF (so j) lane i x ln), .int tr, .ref z0, .ref z1, .ref z2, .int (nI n), .ref y0, .ref y1, .ref y2, .int at_, .int rwi, .ref y3, .ref y4, .int sl, .int cr, .int gr, .ref y5, .ref y6, .int (nI rc), .ref x0, .ref x1, .ref x2, .ref x3], ar E z0 4 so, ar E z1 4 sg, ar E z2 240 cc, ar E y0 6 kd, ar E y1 6 mn, ar E y2 6 pu, ar E y3 18 rd] H := hP
        have hD : va_D A [ob m0 7 [.int (agF (so j) lane i x ln), .int tr, .ref z0, .ref z1, .ref z2, .int (nI n), .ref y0, .ref y1, .ref y2, .int at_, .int rwi, .ref y3, .ref y4, .int sl, .int cr, .int gr, .ref y5, .ref y6, .int (nI rc), .ref x0, .ref x1, .ref x2, .ref x3], ar E z0 4 so, ar E z1 4 sg, ar E z2 240 cc, ar E y0 6 kd, ar E y1 6 mn, ar E y2 6 pu, ar E y3 18 rd] := hD
        subst hwr_11
        rw [if_neg c_6] at eR
        have hno : ¬ (rtK (nI j) lane i x 1 (thM (so j)) (so j) ln = 0 ∧ tResA (frG (fun q => cc (60 * j + q)) i) (ix x) = -9) := fun h => agF_ne c_6 (eR.symm.trans h.1)
        exact hret _ _ _ _ _ (rd, at_, rwi) dX7_frame_46 hS (by simp only [if_neg hno]; rw [eR, flt_ag c_6]; exact hP) (by rw [eR, if_pos (agF_ne c_6)])
    ·
      refine lv_bipush (v := (-2)) hx hb dX7_frame_21 (by decide) ?_
      have eR : rtK (nI j) lane i x 1 (thM (so j)) (so j) ln = -2 := by rw [rtK, if_neg (not_not_intro c_2), if_pos (Or.inl c_4)]
      have hno : ¬ (rtK (nI j) lane i x 1 (thM (so j)) (so j) ln = 0 ∧ tResA (frG (fun q => cc (60 * j + q)) i) (ix x) = -9) := fun h => absurd (eR.symm.trans h.1) (by decide)
      exact hret _ _ _ _ _ (rd, at_, rwi) dX7_frame_23 hS (by simp only [if_neg hno]; rw [eR]; exact hP) (by rw [eR, if_pos (by decide)])
  ·
    refine lv_iconst (v := (-1)) hx hb dX7_frame_12 (by decide) ?_
    have eR : rtK sheet lane i x 1 (thM (so j)) (so j) ln = -1 := by rw [rtK, if_pos c_2]
    have hno : ¬ (rtK sheet lane i x 1 (thM (so j)) (so j) ln = 0 ∧ tResA (frG (fun q => cc (60 * j + q)) i) (ix x) = -9) := fun h => absurd (eR.symm.trans h.1) (by decide)
    exact hret _ _ _ _ _ (rd, at_, rwi) dX7_frame_13 hS (by simp only [if_neg hno]; rw [eR]; exact hP) (by rw [eR, if_pos (by decide)])
