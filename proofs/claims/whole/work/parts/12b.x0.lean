set_option maxHeartbeats 4000000 in
set_option maxRecDepth 100000 in
theorem c_X0_isSummed (l : Launch) (E : gE) (sz : Nat) (hd : Nat) (fw : Int32) (sl : Int32) (cr : Int32) (gr : Int32) (h0 : Nat) (a0 : Nat) (a1 : Nat) (a2 : Nat) (a3 : Nat) (a4 : Nat) (n : Nat) (mo : Int32) (pu : Nat → Int32) (ro : Nat → Int32) (wo : Nat → Int32) (v : Int32) (hg : WG n ro wo) : Met l yX0_isSummed wsX0_isSummed ({ frames := 4, cells := 0, slots := 0, locals := 90 }) (PW E [.ref hd, .ref h0, .int v] [ob hd 0 [.int fw, .int sl, .int cr, .int gr], ob h0 5 [.ref a0, .ref a1, .ref a2, .ref a3, .ref a4, .int (nI n), .int mo], ar E a2 6 pu, ar E a3 6 ro, ar E a4 6 wo] sz) (QWi E (fun r _ => r = if (dSum n mo ro wo v (pu, sl, cr)).isSome = true then 1 else 0) (fun (_ : Unit) => [ob hd 0 [.int fw, .int (((dSum n mo ro wo v (pu, sl, cr)).getD (pu, sl, cr)).2.1), .int (((dSum n mo ro wo v (pu, sl, cr)).getD (pu, sl, cr)).2.2), .int gr], ob h0 5 [.ref a0, .ref a1, .ref a2, .ref a3, .ref a4, .int (nI n), .int mo], ar E a2 6 (((dSum n mo ro wo v (pu, sl, cr)).getD (pu, sl, cr)).1), ar E a3 6 ro, ar E a4 6 wo]) (va_A [ob hd 0 [.int fw, .int sl, .int cr, .int gr], ob h0 5 [.ref a0, .ref a1, .ref a2, .ref a3, .ref a4, .int (nI n), .int mo], ar E a2 6 pu, ar E a3 6 ro, ar E a4 6 wo] sz)) 0 0 (va_A [ob hd 0 [.int fw, .int sl, .int cr, .int gr], ob h0 5 [.ref a0, .ref a1, .ref a2, .ref a3, .ref a4, .int (nI n), .int mo], ar E a2 6 pu, ar E a3 6 ro, ar E a4 6 wo] sz) := by
  refine mkWz (cc := cX0_isSummed) (maxL := 4) (by decide) rfl (Nat.le_of_ble_eq_true rfl) ?_
  intro p e s m args below meth c QQ A hx hb hml hown hmn hts hK hA hP hD hS hret ls hl
  have hown : s.vm.findClass RX0 = some m.cls := hown
  have hl : lv_has ls 4 [(0, .ref hd), (1, .ref h0), (2, .int v)] := hl
  have hinX0 : ∀ w ∈ wsX00, w ∈ wsX0_isSummed := by decide +kernel
  have fl_15 := hts (.fieldLink RX0 15 "GuardAbacus$Day" "slid" "I") (by decide +kernel)
  have fl_18 := hts (.fieldLink RX0 18 "GuardAbacus$Day" "carried" "I") (by decide +kernel)
  have hn := hg.le
  refine lv_aload_n hx hb dX0_isSummed_0 rfl (lv_at hl 1 rfl) ?_
  refine lv_iload_n hx hb dX0_isSummed_1 rfl (lv_at hl 2 rfl) ?_
  refine crV (As := [.int v]) (rest := []) ⟨hx, hb, hml, hown, hts⟩ (c_X5_canSum l E h0 a0 a1 a2 a3 a4 n mo pu wo v (by first | assumption | omega)) (cwV 1 hts gX0_isSummed_X5_canSum rfl rfl rfl (by decide +kernel) ⟨Nat.le_of_ble_eq_true rfl, Nat.le_of_ble_eq_true rfl⟩) hK hP [1, 2, 4] rfl 0 rfl rfl rfl rfl hl.1 rfl (catLe (Nat.le_of_ble_eq_true rfl)) dX0_isSummed_2 ⟨Nat.zero_le _, Nat.zero_le _⟩ (fun r_1 hr_1 => ?_)
  subst hr_1
  refine ifB_ne (P := canP n mo (numF pu wo n) v) (tgt := 10) hx hb dX0_isSummed_5 (by decide) (fun c_2 => ?_) (fun c_2 => ?_)
  ·
    refine lv_aload_n hx hb dX0_isSummed_10 rfl (lv_at hl 1 rfl) ?_
    refine crV (As := []) (rest := []) ⟨hx, hb, hml, hown, hts⟩ (c_X5_numberNow l E h0 a0 a1 a2 a3 a4 n mo pu wo (by first | assumption | omega)) (cwV 0 hts gX0_isSummed_X5_numberNow rfl rfl rfl (by decide +kernel) ⟨Nat.le_of_ble_eq_true rfl, Nat.le_of_ble_eq_true rfl⟩) hK hP [1, 2, 4] rfl 0 rfl rfl rfl rfl hl.1 rfl (catLe (Nat.le_of_ble_eq_true rfl)) dX0_isSummed_11 ⟨Nat.zero_le _, Nat.zero_le _⟩ (fun r_3 hr_3 => ?_)
    subst hr_3
    refine lv_istore_n (lv' := [(3, .int (numF pu wo n)), (0, .ref hd), (1, .ref h0), (2, .int v)]) hx hb dX0_isSummed_14 rfl hl (by decide) rfl (fun ls hl => ?_)
    refine lv_aload_n hx hb dX0_isSummed_15 rfl (lv_at hl 1 rfl) ?_
    refine lv_dup hx hb dX0_isSummed_16 rfl ?_
    refine va_get (D := E.1) (ci := 0) (v := .int cr) (C := RX0) (T := TX0) (N := 4) hx hb hts hinX0 hown hK.1 hP 0 rfl rfl 2 (by decide) fl_18 (fun _ h9 => h9) rfl dX0_isSummed_17 ?_
    refine lv_aload_n hx hb dX0_isSummed_20 rfl (lv_at hl 2 rfl) ?_
    refine lv_iload_n hx hb dX0_isSummed_21 rfl (lv_at hl 0 rfl) ?_
    refine lv_iload_n hx hb dX0_isSummed_22 rfl (lv_at hl 3 rfl) ?_
    refine crV (As := [.int (numF pu wo n), .int v]) (rest := [.int cr, .ref hd]) ⟨hx, hb, hml, hown, hts⟩ (c_X5_carriedBy l E h0 a0 a1 a2 a3 a4 n mo ro wo (numF pu wo n) v (by first | assumption | omega)) (cwV 2 hts gX0_isSummed_X5_carriedBy rfl rfl rfl (by decide +kernel) ⟨Nat.le_of_ble_eq_true rfl, Nat.le_of_ble_eq_true rfl⟩) hK hP [1, 3, 4] rfl 0 rfl rfl rfl rfl hl.1 rfl (catLe (Nat.le_of_ble_eq_true rfl)) dX0_isSummed_23 ⟨Nat.zero_le _, Nat.zero_le _⟩ (fun r_4 hr_4 => ?_)
    subst hr_4
    refine lv_iadd hx hb dX0_isSummed_26 ?_
    refine va_put (D := E.1) (ci := 0) (v := .int (cr + (cyF ro wo (numF pu wo n) v n))) (ty := .int) (C := RX0) (T := TX0) (N := 4) hx hb hts hinX0 tyX0 tyX0_ok nmX0 hown hK.1 hP hD hS 0 rfl rfl 2 (by decide) fl_18 (fun _ h9 => h9) rfl (by decide +kernel) rfl rfl (Nat.le_of_ble_eq_true rfl) dX0_isSummed_27 (fun H locs hP hD hS => ?_)
    have hP : va_P E.1 vwCl [ob hd 0 [.int fw, .int sl, .int (cr + (cyF ro wo (numF pu wo n) v n)), .int gr], ob h0 5 [.ref a0, .ref a1, .ref a2, .ref a3, .ref a4, .int (nI n), .int mo], ar E a2 6 pu, ar E a3 6 ro, ar E a4 6 wo] H := hP
    have hD : va_D A [ob hd 0 [.int fw, .int sl, .int (cr + (cyF ro wo (numF pu wo n) v n)), .int gr], ob h0 5 [.ref a0, .ref a1, .ref a2, .ref a3, .ref a4, .int (nI n), .int mo], ar E a2 6 pu, ar E a3 6 ro, ar E a4 6 wo] := hD
    refine lv_aload_n hx hb dX0_isSummed_30 rfl (lv_at hl 1 rfl) ?_
    refine lv_dup hx hb dX0_isSummed_31 rfl ?_
    refine va_get (D := E.1) (ci := 0) (v := .int sl) (C := RX0) (T := TX0) (N := 4) hx hb hts hinX0 hown hK.1 hP 0 rfl rfl 1 (by decide) fl_15 (fun _ h9 => h9) rfl dX0_isSummed_32 ?_
    refine lv_aload_n hx hb dX0_isSummed_35 rfl (lv_at hl 2 rfl) ?_
    refine lv_iload_n hx hb dX0_isSummed_36 rfl (lv_at hl 0 rfl) ?_
    refine lv_iload_n hx hb dX0_isSummed_37 rfl (lv_at hl 3 rfl) ?_
    refine lv_iadd hx hb dX0_isSummed_38 ?_
    refine cwVi (As := [.int ((numF pu wo n) + v)]) (rest := [.int sl, .ref hd]) ⟨hx, hb, hml, hown, hts⟩ (c_X5_moveTo l E _ h0 a0 a1 a2 a3 a4 n mo pu ro wo ((numF pu wo n) + v) (by first | assumption | omega)) (cwV 1 hts gX0_isSummed_X5_moveTo rfl rfl rfl (by decide +kernel) ⟨Nat.le_of_ble_eq_true rfl, Nat.le_of_ble_eq_true rfl⟩) hK hP hD hS hA [1, 2, 3, 4] (by decide) rfl [h0, a2, a3, a4] (fun _ => rfl) rfl 0 rfl rfl rfl rfl hl.1 rfl (catLe (Nat.le_of_ble_eq_true rfl)) dX0_isSummed_39 ⟨Nat.zero_le _, Nat.zero_le _⟩ (fun r_5 u_6 H locs hwr_5 hP hD hS => ?_)
    have hP : va_P E.1 vwCl [ob hd 0 [.int fw, .int sl, .int (cr + (cyF ro wo (numF pu wo n) v n)), .int gr], ob h0 5 [.ref a0, .ref a1, .ref a2, .ref a3, .ref a4, .int (nI n), .int mo], ar E a2 6 (fil (fun w => figF (wo w) (ro w) ((numF pu wo n) + v)) pu n), ar E a3 6 ro, ar E a4 6 wo] H := hP
    have hD : va_D A [ob hd 0 [.int fw, .int sl, .int (cr + (cyF ro wo (numF pu wo n) v n)), .int gr], ob h0 5 [.ref a0, .ref a1, .ref a2, .ref a3, .ref a4, .int (nI n), .int mo], ar E a2 6 (fil (fun w => figF (wo w) (ro w) ((numF pu wo n) + v)) pu n), ar E a3 6 ro, ar E a4 6 wo] := hD
    subst hwr_5
    refine lv_iadd hx hb dX0_isSummed_42 ?_
    refine va_put (D := E.1) (ci := 0) (v := .int (sl + (slF ro wo (numF pu wo n) ((numF pu wo n) + v) n))) (ty := .int) (C := RX0) (T := TX0) (N := 4) hx hb hts hinX0 tyX0 tyX0_ok nmX0 hown hK.1 hP hD hS 0 rfl rfl 1 (by decide) fl_15 (fun _ h9 => h9) rfl (by decide +kernel) rfl rfl (Nat.le_of_ble_eq_true rfl) dX0_isSummed_43 (fun H locs hP hD hS => ?_)
    have hP : va_P E.1 vwCl [ob hd 0 [.int fw, .int (sl + (slF ro wo (numF pu wo n) ((numF pu wo n) + v) n)), .int (cr + (cyF ro wo (numF pu wo n) v n)), .int gr], ob h0 5 [.ref a0, .ref a1, .ref a2, .ref a3, .ref a4, .int (nI n), .int mo], ar E a2 6 (fil (fun w => figF (wo w) (ro w) ((numF pu wo n) + v)) pu n), ar E a3 6 ro, ar E a4 6 wo] H := hP
    have hD : va_D A [ob hd 0 [.int fw, .int (sl + (slF ro wo (numF pu wo n) ((numF pu wo n) + v) n)), .int (cr + (cyF ro wo (numF pu wo n) v n)), .int gr], ob h0 5 [.ref a0, .ref a1, .ref a2, .ref a3, .ref a4, .int (nI n), .int mo], ar E a2 6 (fil (fun w => figF (wo w) (ro w) ((numF pu wo n) + v)) pu n), ar E a3 6 ro, ar E a4 6 wo] := hD
    refine lv_iconst (v := 1) hx hb dX0_isSummed_46 (by decide) ?_
    have ed : dSum n mo ro wo v (pu, sl, cr) = some (fil (fun w => figF (wo w) (ro w) ((numF pu wo n) + v)) pu n, sl + (slF ro wo (numF pu wo n) ((numF pu wo n) + v) n), cr + (cyF ro wo (numF pu wo n) v n)) := if_pos c_2
    exact hret _ _ _ _ _ () dX0_isSummed_47 rfl hS (by rw [ed]; exact hP) (by rw [ed]; rfl)
  ·
    refine lv_iconst (v := 0) hx hb dX0_isSummed_8 (by decide) ?_
    have ed : dSum n mo ro wo v (pu, sl, cr) = none := if_neg c_2
    exact hret _ _ _ _ _ () dX0_isSummed_9 rfl hS (by rw [ed]; exact hP) (by rw [ed]; rfl)
set_option maxHeartbeats 4000000 in
set_option maxRecDepth 100000 in
theorem c_X0_isTaken (l : Launch) (E : gE) (sz : Nat) (hd : Nat) (fw : Int32) (sl : Int32) (cr : Int32) (gr : Int32) (h0 : Nat) (a0 : Nat) (a1 : Nat) (a2 : Nat) (a3 : Nat) (a4 : Nat) (n : Nat) (mo : Int32) (pu : Nat → Int32) (ro : Nat → Int32) (wo : Nat → Int32) (v : Int32) (hg : WG n ro wo) : Met l yX0_isTaken wsX0_isTaken ({ frames := 4, cells := 0, slots := 0, locals := 90 }) (PW E [.ref hd, .ref h0, .int v] [ob hd 0 [.int fw, .int sl, .int cr, .int gr], ob h0 5 [.ref a0, .ref a1, .ref a2, .ref a3, .ref a4, .int (nI n), .int mo], ar E a2 6 pu, ar E a3 6 ro, ar E a4 6 wo] sz) (QWi E (fun r _ => r = if (dTak n ro wo v (pu, sl, cr)).isSome = true then 1 else 0) (fun (_ : Unit) => [ob hd 0 [.int fw, .int (((dTak n ro wo v (pu, sl, cr)).getD (pu, sl, cr)).2.1), .int (((dTak n ro wo v (pu, sl, cr)).getD (pu, sl, cr)).2.2), .int gr], ob h0 5 [.ref a0, .ref a1, .ref a2, .ref a3, .ref a4, .int (nI n), .int mo], ar E a2 6 (((dTak n ro wo v (pu, sl, cr)).getD (pu, sl, cr)).1), ar E a3 6 ro, ar E a4 6 wo]) (va_A [ob hd 0 [.int fw, .int sl, .int cr, .int gr], ob h0 5 [.ref a0, .ref a1, .ref a2, .ref a3, .ref a4, .int (nI n), .int mo], ar E a2 6 pu, ar E a3 6 ro, ar E a4 6 wo] sz)) 0 0 (va_A [ob hd 0 [.int fw, .int sl, .int cr, .int gr], ob h0 5 [.ref a0, .ref a1, .ref a2, .ref a3, .ref a4, .int (nI n), .int mo], ar E a2 6 pu, ar E a3 6 ro, ar E a4 6 wo] sz) := by
  refine mkWz (cc := cX0_isTaken) (maxL := 4) (by decide) rfl (Nat.le_of_ble_eq_true rfl) ?_
  intro p e s m args below meth c QQ A hx hb hml hown hmn hts hK hA hP hD hS hret ls hl
  have hown : s.vm.findClass RX0 = some m.cls := hown
  have hl : lv_has ls 4 [(0, .ref hd), (1, .ref h0), (2, .int v)] := hl
  have hinX0 : ∀ w ∈ wsX00, w ∈ wsX0_isTaken := by decide +kernel
  have fl_15 := hts (.fieldLink RX0 15 "GuardAbacus$Day" "slid" "I") (by decide +kernel)
  have fl_18 := hts (.fieldLink RX0 18 "GuardAbacus$Day" "carried" "I") (by decide +kernel)
  have hn := hg.le
  refine lv_aload_n hx hb dX0_isTaken_0 rfl (lv_at hl 1 rfl) ?_
  refine lv_iload_n hx hb dX0_isTaken_1 rfl (lv_at hl 2 rfl) ?_
  refine crV (As := [.int v]) (rest := []) ⟨hx, hb, hml, hown, hts⟩ (c_X5_canTake l E h0 a0 a1 a2 a3 a4 n mo pu wo v (by first | assumption | omega)) (cwV 1 hts gX0_isTaken_X5_canTake rfl rfl rfl (by decide +kernel) ⟨Nat.le_of_ble_eq_true rfl, Nat.le_of_ble_eq_true rfl⟩) hK hP [1, 2, 4] rfl 0 rfl rfl rfl rfl hl.1 rfl (catLe (Nat.le_of_ble_eq_true rfl)) dX0_isTaken_2 ⟨Nat.zero_le _, Nat.zero_le _⟩ (fun r_1 hr_1 => ?_)
  subst hr_1
  refine ifB_ne (P := takP n (numF pu wo n) v) (tgt := 10) hx hb dX0_isTaken_5 (by decide) (fun c_2 => ?_) (fun c_2 => ?_)
  ·
    refine lv_aload_n hx hb dX0_isTaken_10 rfl (lv_at hl 1 rfl) ?_
    refine crV (As := []) (rest := []) ⟨hx, hb, hml, hown, hts⟩ (c_X5_numberNow l E h0 a0 a1 a2 a3 a4 n mo pu wo (by first | assumption | omega)) (cwV 0 hts gX0_isTaken_X5_numberNow rfl rfl rfl (by decide +kernel) ⟨Nat.le_of_ble_eq_true rfl, Nat.le_of_ble_eq_true rfl⟩) hK hP [1, 2, 4] rfl 0 rfl rfl rfl rfl hl.1 rfl (catLe (Nat.le_of_ble_eq_true rfl)) dX0_isTaken_11 ⟨Nat.zero_le _, Nat.zero_le _⟩ (fun r_3 hr_3 => ?_)
    subst hr_3
    refine lv_iload_n hx hb dX0_isTaken_14 rfl (lv_at hl 2 rfl) ?_
    refine lv_isub hx hb dX0_isTaken_15 ?_
    refine lv_istore_n (lv' := [(3, .int ((numF pu wo n) - v)), (0, .ref hd), (1, .ref h0), (2, .int v)]) hx hb dX0_isTaken_16 rfl hl (by decide) rfl (fun ls hl => ?_)
    refine lv_aload_n hx hb dX0_isTaken_17 rfl (lv_at hl 1 rfl) ?_
    refine lv_dup hx hb dX0_isTaken_18 rfl ?_
    refine va_get (D := E.1) (ci := 0) (v := .int cr) (C := RX0) (T := TX0) (N := 4) hx hb hts hinX0 hown hK.1 hP 0 rfl rfl 2 (by decide) fl_18 (fun _ h9 => h9) rfl dX0_isTaken_19 ?_
    refine lv_aload_n hx hb dX0_isTaken_22 rfl (lv_at hl 2 rfl) ?_
    refine lv_iload_n hx hb dX0_isTaken_23 rfl (lv_at hl 0 rfl) ?_
    refine lv_iload_n hx hb dX0_isTaken_24 rfl (lv_at hl 3 rfl) ?_
    refine crV (As := [.int ((numF pu wo n) - v), .int v]) (rest := [.int cr, .ref hd]) ⟨hx, hb, hml, hown, hts⟩ (c_X5_carriedBy l E h0 a0 a1 a2 a3 a4 n mo ro wo ((numF pu wo n) - v) v (by first | assumption | omega)) (cwV 2 hts gX0_isTaken_X5_carriedBy rfl rfl rfl (by decide +kernel) ⟨Nat.le_of_ble_eq_true rfl, Nat.le_of_ble_eq_true rfl⟩) hK hP [1, 3, 4] rfl 0 rfl rfl rfl rfl hl.1 rfl (catLe (Nat.le_of_ble_eq_true rfl)) dX0_isTaken_25 ⟨Nat.zero_le _, Nat.zero_le _⟩ (fun r_4 hr_4 => ?_)
    subst hr_4
    refine lv_iadd hx hb dX0_isTaken_28 ?_
    refine va_put (D := E.1) (ci := 0) (v := .int (cr + (cyF ro wo ((numF pu wo n) - v) v n))) (ty := .int) (C := RX0) (T := TX0) (N := 4) hx hb hts hinX0 tyX0 tyX0_ok nmX0 hown hK.1 hP hD hS 0 rfl rfl 2 (by decide) fl_18 (fun _ h9 => h9) rfl (by decide +kernel) rfl rfl (Nat.le_of_ble_eq_true rfl) dX0_isTaken_29 (fun H locs hP hD hS => ?_)
    have hP : va_P E.1 vwCl [ob hd 0 [.int fw, .int sl, .int (cr + (cyF ro wo ((numF pu wo n) - v) v n)), .int gr], ob h0 5 [.ref a0, .ref a1, .ref a2, .ref a3, .ref a4, .int (nI n), .int mo], ar E a2 6 pu, ar E a3 6 ro, ar E a4 6 wo] H := hP
    have hD : va_D A [ob hd 0 [.int fw, .int sl, .int (cr + (cyF ro wo ((numF pu wo n) - v) v n)), .int gr], ob h0 5 [.ref a0, .ref a1, .ref a2, .ref a3, .ref a4, .int (nI n), .int mo], ar E a2 6 pu, ar E a3 6 ro, ar E a4 6 wo] := hD
    refine lv_aload_n hx hb dX0_isTaken_32 rfl (lv_at hl 1 rfl) ?_
    refine lv_dup hx hb dX0_isTaken_33 rfl ?_
    refine va_get (D := E.1) (ci := 0) (v := .int sl) (C := RX0) (T := TX0) (N := 4) hx hb hts hinX0 hown hK.1 hP 0 rfl rfl 1 (by decide) fl_15 (fun _ h9 => h9) rfl dX0_isTaken_34 ?_
    refine lv_aload_n hx hb dX0_isTaken_37 rfl (lv_at hl 2 rfl) ?_
    refine lv_iload_n hx hb dX0_isTaken_38 rfl (lv_at hl 0 rfl) ?_
    refine cwVi (As := [.int ((numF pu wo n) - v)]) (rest := [.int sl, .ref hd]) ⟨hx, hb, hml, hown, hts⟩ (c_X5_moveTo l E _ h0 a0 a1 a2 a3 a4 n mo pu ro wo ((numF pu wo n) - v) (by first | assumption | omega)) (cwV 1 hts gX0_isTaken_X5_moveTo rfl rfl rfl (by decide +kernel) ⟨Nat.le_of_ble_eq_true rfl, Nat.le_of_ble_eq_true rfl⟩) hK hP hD hS hA [1, 2, 3, 4] (by decide) rfl [h0, a2, a3, a4] (fun _ => rfl) rfl 0 rfl rfl rfl rfl hl.1 rfl (catLe (Nat.le_of_ble_eq_true rfl)) dX0_isTaken_39 ⟨Nat.zero_le _, Nat.zero_le _⟩ (fun r_5 u_6 H locs hwr_5 hP hD hS => ?_)
    have hP : va_P E.1 vwCl [ob hd 0 [.int fw, .int sl, .int (cr + (cyF ro wo ((numF pu wo n) - v) v n)), .int gr], ob h0 5 [.ref a0, .ref a1, .ref a2, .ref a3, .ref a4, .int (nI n), .int mo], ar E a2 6 (fil (fun w => figF (wo w) (ro w) ((numF pu wo n) - v)) pu n), ar E a3 6 ro, ar E a4 6 wo] H := hP
    have hD : va_D A [ob hd 0 [.int fw, .int sl, .int (cr + (cyF ro wo ((numF pu wo n) - v) v n)), .int gr], ob h0 5 [.ref a0, .ref a1, .ref a2, .ref a3, .ref a4, .int (nI n), .int mo], ar E a2 6 (fil (fun w => figF (wo w) (ro w) ((numF pu wo n) - v)) pu n), ar E a3 6 ro, ar E a4 6 wo] := hD
    subst hwr_5
    refine lv_iadd hx hb dX0_isTaken_42 ?_
    refine va_put (D := E.1) (ci := 0) (v := .int (sl + (slF ro wo (numF pu wo n) ((numF pu wo n) - v) n))) (ty := .int) (C := RX0) (T := TX0) (N := 4) hx hb hts hinX0 tyX0 tyX0_ok nmX0 hown hK.1 hP hD hS 0 rfl rfl 1 (by decide) fl_15 (fun _ h9 => h9) rfl (by decide +kernel) rfl rfl (Nat.le_of_ble_eq_true rfl) dX0_isTaken_43 (fun H locs hP hD hS => ?_)
    have hP : va_P E.1 vwCl [ob hd 0 [.int fw, .int (sl + (slF ro wo (numF pu wo n) ((numF pu wo n) - v) n)), .int (cr + (cyF ro wo ((numF pu wo n) - v) v n)), .int gr], ob h0 5 [.ref a0, .ref a1, .ref a2, .ref a3, .ref a4, .int (nI n), .int mo], ar E a2 6 (fil (fun w => figF (wo w) (ro w) ((numF pu wo n) - v)) pu n), ar E a3 6 ro, ar E a4 6 wo] H := hP
    have hD : va_D A [ob hd 0 [.int fw, .int (sl + (slF ro wo (numF pu wo n) ((numF pu wo n) - v) n)), .int (cr + (cyF ro wo ((numF pu wo n) - v) v n)), .int gr], ob h0 5 [.ref a0, .ref a1, .ref a2, .ref a3, .ref a4, .int (nI n), .int mo], ar E a2 6 (fil (fun w => figF (wo w) (ro w) ((numF pu wo n) - v)) pu n), ar E a3 6 ro, ar E a4 6 wo] := hD
    refine lv_iconst (v := 1) hx hb dX0_isTaken_46 (by decide) ?_
    have ed : dTak n ro wo v (pu, sl, cr) = some (fil (fun w => figF (wo w) (ro w) ((numF pu wo n) - v)) pu n, sl + (slF ro wo (numF pu wo n) ((numF pu wo n) - v) n), cr + (cyF ro wo ((numF pu wo n) - v) v n)) := if_pos c_2
    exact hret _ _ _ _ _ () dX0_isTaken_47 rfl hS (by rw [ed]; exact hP) (by rw [ed]; rfl)
  ·
    refine lv_iconst (v := 0) hx hb dX0_isTaken_8 (by decide) ?_
    have ed : dTak n ro wo v (pu, sl, cr) = none := if_neg c_2
    exact hret _ _ _ _ _ () dX0_isTaken_9 rfl hS (by rw [ed]; exact hP) (by rw [ed]; rfl)
set_option maxHeartbeats 4000000 in
set_option maxRecDepth 100000 in
theorem c_X0_isPushed (l : Launch) (E : gE) (sz : Nat) (hd : Nat) (fw : Int32) (sl : Int32) (cr : Int32) (gr : Int32) (h0 : Nat) (a0 : Nat) (a1 : Nat) (a2 : Nat) (a3 : Nat) (a4 : Nat) (n : Nat) (mo : Int32) (pu : Nat → Int32) (ro : Nat → Int32) (wo : Nat → Int32) (w : Int32) (v : Int32) (hg : WG n ro wo) : Met l yX0_isPushed wsX0_isPushed ({ frames := 1, cells := 0, slots := 0, locals := 21 }) (PW E [.ref hd, .ref h0, .int w, .int v] [ob hd 0 [.int fw, .int sl, .int cr, .int gr], ob h0 5 [.ref a0, .ref a1, .ref a2, .ref a3, .ref a4, .int (nI n), .int mo], ar E a2 6 pu, ar E a3 6 ro, ar E a4 6 wo] sz) (QWi E (fun r _ => r = if (dPsh n ro w v (pu, sl, cr)).isSome = true then 1 else 0) (fun (_ : Unit) => [ob hd 0 [.int fw, .int (((dPsh n ro w v (pu, sl, cr)).getD (pu, sl, cr)).2.1), .int (((dPsh n ro w v (pu, sl, cr)).getD (pu, sl, cr)).2.2), .int gr], ob h0 5 [.ref a0, .ref a1, .ref a2, .ref a3, .ref a4, .int (nI n), .int mo], ar E a2 6 (((dPsh n ro w v (pu, sl, cr)).getD (pu, sl, cr)).1), ar E a3 6 ro, ar E a4 6 wo]) (va_A [ob hd 0 [.int fw, .int sl, .int cr, .int gr], ob h0 5 [.ref a0, .ref a1, .ref a2, .ref a3, .ref a4, .int (nI n), .int mo], ar E a2 6 pu, ar E a3 6 ro, ar E a4 6 wo] sz)) 0 0 (va_A [ob hd 0 [.int fw, .int sl, .int cr, .int gr], ob h0 5 [.ref a0, .ref a1, .ref a2, .ref a3, .ref a4, .int (nI n), .int mo], ar E a2 6 pu, ar E a3 6 ro, ar E a4 6 wo] sz) := by
  refine mkWz (cc := cX0_isPushed) (maxL := 4) (by decide) rfl (Nat.le_of_ble_eq_true rfl) ?_
  intro p e s m args below meth c QQ A hx hb hml hown hmn hts hK hA hP hD hS hret ls hl
  have hown : s.vm.findClass RX0 = some m.cls := hown
  have hl : lv_has ls 4 [(0, .ref hd), (1, .ref h0), (2, .int w), (3, .int v)] := hl
  have hinX0 : ∀ w ∈ wsX00, w ∈ wsX0_isPushed := by decide +kernel
  have hinX5 : ∀ w ∈ wsX50, w ∈ wsX0_isPushed := by decide +kernel
  have fl_15 := hts (.fieldLink RX0 15 "GuardAbacus$Day" "slid" "I") (by decide +kernel)
  have fl_72 := hts (.fieldLink RX0 72 "GuardAbacus$Wires" "room" "[I") (by decide +kernel)
  have fl_76 := hts (.fieldLink RX0 76 "GuardAbacus$Wires" "pushed" "[I") (by decide +kernel)
  have hn := hg.le
  refine lv_aload_n hx hb dX0_isPushed_0 rfl (lv_at hl 1 rfl) ?_
  refine lv_iload_n hx hb dX0_isPushed_1 rfl (lv_at hl 2 rfl) ?_
  refine crV (As := [.int w]) (rest := []) ⟨hx, hb, hml, hown, hts⟩ (c_X5_has l E h0 a0 a1 a2 a3 a4 n mo w (by first | assumption | omega)) (cwV 1 hts gX0_isPushed_X5_has rfl rfl rfl (by decide +kernel) ⟨Nat.le_of_ble_eq_true rfl, Nat.le_of_ble_eq_true rfl⟩) hK hP [1] rfl 0 rfl rfl rfl rfl hl.1 rfl (catLe (Nat.le_of_ble_eq_true rfl)) dX0_isPushed_2 ⟨Nat.zero_le _, Nat.zero_le _⟩ (fun r_1 hr_1 => ?_)
  subst hr_1
  refine ifB_eq (P := hasP n w) (tgt := 18) hx hb dX0_isPushed_5 (by decide) (fun c_2 => ?_) (fun c_2 => ?_)
  ·
    refine lv_iconst (v := 0) hx hb dX0_isPushed_18 (by decide) ?_
    have ed : dPsh n ro w v (pu, sl, cr) = none := if_neg (fun h => c_2 h.1)
    exact hret _ _ _ _ _ () dX0_isPushed_19 rfl hS (by rw [ed]; exact hP) (by rw [ed]; rfl)
  ·
    obtain ⟨j, hj, rfl⟩ := hasP_of c_2 hn
    have hix_j : ix (nI j) = j := ix_nI (by omega)
    refine lv_iload_n hx hb dX0_isPushed_8 rfl (lv_at hl 3 rfl) ?_
    refine lv_aload_n hx hb dX0_isPushed_9 rfl (lv_at hl 1 rfl) ?_
    refine va_get (D := E.1) (ci := 5) (v := .ref a3) (C := RX5) (T := TX5) (N := 7) hx hb hts hinX5 hown hK.1 hP 1 rfl rfl 3 (by decide) fl_72 (fun _ h9 => h9) rfl dX0_isPushed_10 ?_
    refine lv_iload_n hx hb dX0_isPushed_13 rfl (lv_at hl 2 rfl) ?_
    refine ild hx hb hK hP 3 rfl (j := j) rfl (by omega) (by decide) dX0_isPushed_14 ?_
    refine lv_icmp_le (tgt := 20) hx hb dX0_isPushed_15 (by decide) (fun c_3 => ?_) (fun c_3 => ?_)
    ·
      have c_3b := Int32.not_lt.mpr c_3
      refine lv_aload_n hx hb dX0_isPushed_20 rfl (lv_at hl 0 rfl) ?_
      refine lv_dup hx hb dX0_isPushed_21 rfl ?_
      refine va_get (D := E.1) (ci := 0) (v := .int sl) (C := RX0) (T := TX0) (N := 4) hx hb hts hinX0 hown hK.1 hP 0 rfl rfl 1 (by decide) fl_15 (fun _ h9 => h9) rfl dX0_isPushed_22 ?_
      refine lv_iload_n hx hb dX0_isPushed_25 rfl (lv_at hl 3 rfl) ?_
      refine lv_aload_n hx hb dX0_isPushed_26 rfl (lv_at hl 1 rfl) ?_
      refine va_get (D := E.1) (ci := 5) (v := .ref a2) (C := RX5) (T := TX5) (N := 7) hx hb hts hinX5 hown hK.1 hP 1 rfl rfl 2 (by decide) fl_76 (fun _ h9 => h9) rfl dX0_isPushed_27 ?_
      refine lv_iload_n hx hb dX0_isPushed_30 rfl (lv_at hl 2 rfl) ?_
      refine ild hx hb hK hP 2 rfl (j := j) rfl (by omega) (by decide) dX0_isPushed_31 ?_
      refine lv_isub hx hb dX0_isPushed_32 ?_
      refine va_mabs hx hb (hml.trans hl.1.symm) hown (hts (.methodLink RX0 79 Lib.Math.abs.name) (by decide +kernel)) (hts (.static Lib.Math.abs.name) (by decide +kernel)) (hts (.initialized "java/lang/Math") (by decide +kernel)) (hts (.code Lib.Math.abs.name Lib.Math.abs.code 1 (some .int)) (by decide +kernel)) (Nat.le_of_ble_eq_true rfl) (Nat.le_of_ble_eq_true rfl) (Nat.zero_le _) (Nat.zero_le _) dX0_isPushed_33 ?_
      refine lv_iadd hx hb dX0_isPushed_36 ?_
      refine va_put (D := E.1) (ci := 0) (v := .int (sl + (if 0 ≤ v - (pu j) then (v - (pu j)) else 0 - (v - (pu j))))) (ty := .int) (C := RX0) (T := TX0) (N := 4) hx hb hts hinX0 tyX0 tyX0_ok nmX0 hown hK.1 hP hD hS 0 rfl rfl 1 (by decide) fl_15 (fun _ h9 => h9) rfl (by decide +kernel) rfl rfl (Nat.le_of_ble_eq_true rfl) dX0_isPushed_37 (fun H locs hP hD hS => ?_)
      have hP : va_P E.1 vwCl [ob hd 0 [.int fw, .int (sl + (if 0 ≤ v - (pu j) then (v - (pu j)) else 0 - (v - (pu j)))), .int cr, .int gr], ob h0 5 [.ref a0, .ref a1, .ref a2, .ref a3, .ref a4, .int (nI n), .int mo], ar E a2 6 pu, ar E a3 6 ro, ar E a4 6 wo] H := hP
      have hD : va_D A [ob hd 0 [.int fw, .int (sl + (if 0 ≤ v - (pu j) then (v - (pu j)) else 0 - (v - (pu j)))), .int cr, .int gr], ob h0 5 [.ref a0, .ref a1, .ref a2, .ref a3, .ref a4, .int (nI n), .int mo], ar E a2 6 pu, ar E a3 6 ro, ar E a4 6 wo] := hD
      refine lv_aload_n hx hb dX0_isPushed_40 rfl (lv_at hl 1 rfl) ?_
      refine va_get (D := E.1) (ci := 5) (v := .ref a2) (C := RX5) (T := TX5) (N := 7) hx hb hts hinX5 hown hK.1 hP 1 rfl rfl 2 (by decide) fl_76 (fun _ h9 => h9) rfl dX0_isPushed_41 ?_
      refine lv_iload_n hx hb dX0_isPushed_44 rfl (lv_at hl 2 rfl) ?_
      refine lv_iload_n hx hb dX0_isPushed_45 rfl (lv_at hl 3 rfl) ?_
      refine ist hx hb hK hP hD hS 2 rfl (j := j) rfl (by omega) (by decide) dX0_isPushed_46 (fun H locs hP hD hS => ?_)
      have hP : va_P E.1 vwCl [ob hd 0 [.int fw, .int (sl + (if 0 ≤ v - (pu j) then (v - (pu j)) else 0 - (v - (pu j)))), .int cr, .int gr], ob h0 5 [.ref a0, .ref a1, .ref a2, .ref a3, .ref a4, .int (nI n), .int mo], ar E a2 6 (upd pu j v), ar E a3 6 ro, ar E a4 6 wo] H := hP
      have hD : va_D A [ob hd 0 [.int fw, .int (sl + (if 0 ≤ v - (pu j) then (v - (pu j)) else 0 - (v - (pu j)))), .int cr, .int gr], ob h0 5 [.ref a0, .ref a1, .ref a2, .ref a3, .ref a4, .int (nI n), .int mo], ar E a2 6 (upd pu j v), ar E a3 6 ro, ar E a4 6 wo] := hD
      refine lv_iconst (v := 1) hx hb dX0_isPushed_47 (by decide) ?_
      have ed : dPsh n ro (nI j) v (pu, sl, cr) = some (upd pu j v, sl + (if 0 ≤ v - (pu j) then (v - (pu j)) else 0 - (v - (pu j))), cr) := by simp only [dPsh]; rw [ix_nI (by omega), if_pos ⟨c_2, c_3⟩]; rfl
      exact hret _ _ _ _ _ () dX0_isPushed_48 rfl hS (by rw [ed]; exact hP) (by rw [ed]; rfl)
    ·
      have c_3b := Int32.not_le.mp c_3
      refine lv_iconst (v := 0) hx hb dX0_isPushed_18 (by decide) ?_
      have ed : dPsh n ro (nI j) v (pu, sl, cr) = none := if_neg (fun h => c_3 (by have := h.2; rwa [ix_nI (by omega)] at this))
      exact hret _ _ _ _ _ () dX0_isPushed_19 rfl hS (by rw [ed]; exact hP) (by rw [ed]; rfl)
set_option maxHeartbeats 4000000 in
set_option maxRecDepth 100000 in
theorem c_X0_isDone (l : Launch) (E : gE) (sz : Nat) (hd : Nat) (fw : Int32) (sl : Int32) (cr : Int32) (gr : Int32) (h0 : Nat) (a0 : Nat) (a1 : Nat) (a2 : Nat) (a3 : Nat) (a4 : Nat) (n : Nat) (mo : Int32) (pu : Nat → Int32) (ro : Nat → Int32) (wo : Nat → Int32) (f : Int32) (g : Int32) (hg : WG n ro wo) : Met l yX0_isDone wsX0_isDone ({ frames := 5, cells := 0, slots := 0, locals := 113 }) (PW E [.ref hd, .ref h0, .int f, .int g] [ob hd 0 [.int fw, .int sl, .int cr, .int gr], ob h0 5 [.ref a0, .ref a1, .ref a2, .ref a3, .ref a4, .int (nI n), .int mo], ar E a2 6 pu, ar E a3 6 ro, ar E a4 6 wo] sz) (QWi E (fun r _ => r = if (dStep n mo ro wo f g (pu, sl, cr)).isSome = true then 1 else 0) (fun (_ : Unit) => [ob hd 0 [.int fw, .int (((dStep n mo ro wo f g (pu, sl, cr)).getD (pu, sl, cr)).2.1), .int (((dStep n mo ro wo f g (pu, sl, cr)).getD (pu, sl, cr)).2.2), .int gr], ob h0 5 [.ref a0, .ref a1, .ref a2, .ref a3, .ref a4, .int (nI n), .int mo], ar E a2 6 (((dStep n mo ro wo f g (pu, sl, cr)).getD (pu, sl, cr)).1), ar E a3 6 ro, ar E a4 6 wo]) (va_A [ob hd 0 [.int fw, .int sl, .int cr, .int gr], ob h0 5 [.ref a0, .ref a1, .ref a2, .ref a3, .ref a4, .int (nI n), .int mo], ar E a2 6 pu, ar E a3 6 ro, ar E a4 6 wo] sz)) 0 0 (va_A [ob hd 0 [.int fw, .int sl, .int cr, .int gr], ob h0 5 [.ref a0, .ref a1, .ref a2, .ref a3, .ref a4, .int (nI n), .int mo], ar E a2 6 pu, ar E a3 6 ro, ar E a4 6 wo] sz) := by
  refine mkWz (cc := cX0_isDone) (maxL := 4) (by decide) rfl (Nat.le_of_ble_eq_true rfl) ?_
  intro p e s m args below meth c QQ A hx hb hml hown hmn hts hK hA hP hD hS hret ls hl
  have hown : s.vm.findClass RX0 = some m.cls := hown
  have hl : lv_has ls 4 [(0, .ref hd), (1, .ref h0), (2, .int f), (3, .int g)] := hl
  have hn := hg.le
  refine lv_iload_n hx hb dX0_isDone_0 rfl (lv_at hl 3 rfl) ?_
  by_cases q_1 : g = 0
  ·
    subst q_1
    refine lv_lookup (off := 27) (tgt := 28) hx hb dX0_isDone_1 (by decide) (by decide) (by decide) ?_
    refine lv_aload_n hx hb dX0_isDone_28 rfl (lv_at hl 0 rfl) ?_
    refine lv_aload_n hx hb dX0_isDone_29 rfl (lv_at hl 1 rfl) ?_
    refine lv_iload_n hx hb dX0_isDone_30 rfl (lv_at hl 2 rfl) ?_
    refine cwVi (As := [.ref h0, .int f]) (rest := []) ⟨hx, hb, hml, hown, hts⟩ (c_X0_isSummed l E _ hd fw sl cr gr h0 a0 a1 a2 a3 a4 n mo pu ro wo f (by first | assumption | omega)) (cwV 2 hts gX0_isDone_X0_isSummed rfl rfl rfl (by decide +kernel) ⟨Nat.le_of_ble_eq_true rfl, Nat.le_of_ble_eq_true rfl⟩) hK hP hD hS hA [0, 1, 2, 3, 4] (by decide) rfl [hd, h0, a2, a3, a4] (fun _ => rfl) rfl 0 rfl rfl rfl rfl hl.1 rfl (catLe (Nat.le_of_ble_eq_true rfl)) dX0_isDone_31 ⟨Nat.zero_le _, Nat.zero_le _⟩ (fun r_2 u_3 H locs hwr_2 hP hD hS => ?_)
    have hP : va_P E.1 vwCl [ob hd 0 [.int fw, .int (((dSum n mo ro wo f (pu, sl, cr)).getD (pu, sl, cr)).2.1), .int (((dSum n mo ro wo f (pu, sl, cr)).getD (pu, sl, cr)).2.2), .int gr], ob h0 5 [.ref a0, .ref a1, .ref a2, .ref a3, .ref a4, .int (nI n), .int mo], ar E a2 6 (((dSum n mo ro wo f (pu, sl, cr)).getD (pu, sl, cr)).1), ar E a3 6 ro, ar E a4 6 wo] H := hP
    have hD : va_D A [ob hd 0 [.int fw, .int (((dSum n mo ro wo f (pu, sl, cr)).getD (pu, sl, cr)).2.1), .int (((dSum n mo ro wo f (pu, sl, cr)).getD (pu, sl, cr)).2.2), .int gr], ob h0 5 [.ref a0, .ref a1, .ref a2, .ref a3, .ref a4, .int (nI n), .int mo], ar E a2 6 (((dSum n mo ro wo f (pu, sl, cr)).getD (pu, sl, cr)).1), ar E a3 6 ro, ar E a4 6 wo] := hD
    subst hwr_2
    have ed : dStep n mo ro wo f 0 (pu, sl, cr) = dSum n mo ro wo f (pu, sl, cr) := if_pos rfl
    exact hret _ _ _ _ _ () dX0_isDone_34 (by first | rfl | (split <;> rfl)) hS (by rw [ed]; exact hP) (by rw [ed])
  by_cases q_4 : g = 1
  ·
    subst q_4
    refine lv_lookup (off := 34) (tgt := 35) hx hb dX0_isDone_1 (by decide) (by decide) (by decide) ?_
    refine lv_aload_n hx hb dX0_isDone_35 rfl (lv_at hl 0 rfl) ?_
    refine lv_aload_n hx hb dX0_isDone_36 rfl (lv_at hl 1 rfl) ?_
    refine lv_iload_n hx hb dX0_isDone_37 rfl (lv_at hl 2 rfl) ?_
    refine cwVi (As := [.ref h0, .int f]) (rest := []) ⟨hx, hb, hml, hown, hts⟩ (c_X0_isTaken l E _ hd fw sl cr gr h0 a0 a1 a2 a3 a4 n mo pu ro wo f (by first | assumption | omega)) (cwV 2 hts gX0_isDone_X0_isTaken rfl rfl rfl (by decide +kernel) ⟨Nat.le_of_ble_eq_true rfl, Nat.le_of_ble_eq_true rfl⟩) hK hP hD hS hA [0, 1, 2, 3, 4] (by decide) rfl [hd, h0, a2, a3, a4] (fun _ => rfl) rfl 0 rfl rfl rfl rfl hl.1 rfl (catLe (Nat.le_of_ble_eq_true rfl)) dX0_isDone_38 ⟨Nat.zero_le _, Nat.zero_le _⟩ (fun r_5 u_6 H locs hwr_5 hP hD hS => ?_)
    have hP : va_P E.1 vwCl [ob hd 0 [.int fw, .int (((dTak n ro wo f (pu, sl, cr)).getD (pu, sl, cr)).2.1), .int (((dTak n ro wo f (pu, sl, cr)).getD (pu, sl, cr)).2.2), .int gr], ob h0 5 [.ref a0, .ref a1, .ref a2, .ref a3, .ref a4, .int (nI n), .int mo], ar E a2 6 (((dTak n ro wo f (pu, sl, cr)).getD (pu, sl, cr)).1), ar E a3 6 ro, ar E a4 6 wo] H := hP
    have hD : va_D A [ob hd 0 [.int fw, .int (((dTak n ro wo f (pu, sl, cr)).getD (pu, sl, cr)).2.1), .int (((dTak n ro wo f (pu, sl, cr)).getD (pu, sl, cr)).2.2), .int gr], ob h0 5 [.ref a0, .ref a1, .ref a2, .ref a3, .ref a4, .int (nI n), .int mo], ar E a2 6 (((dTak n ro wo f (pu, sl, cr)).getD (pu, sl, cr)).1), ar E a3 6 ro, ar E a4 6 wo] := hD
    subst hwr_5
    have ed : dStep n mo ro wo f 1 (pu, sl, cr) = dTak n ro wo f (pu, sl, cr) := rfl
    exact hret _ _ _ _ _ () dX0_isDone_41 (by first | rfl | (split <;> rfl)) hS (by rw [ed]; exact hP) (by rw [ed])
  refine lv_lookup (off := 41) (tgt := 42) hx hb dX0_isDone_1 (by decide) ((lv_osw q_1 rfl).trans ((lv_osw q_4 rfl).trans rfl)) (by decide) ?_
  refine lv_aload_n hx hb dX0_isDone_42 rfl (lv_at hl 0 rfl) ?_
  refine lv_aload_n hx hb dX0_isDone_43 rfl (lv_at hl 1 rfl) ?_
  refine lv_iload_n hx hb dX0_isDone_44 rfl (lv_at hl 2 rfl) ?_
  refine lv_iload_n hx hb dX0_isDone_45 rfl (lv_at hl 3 rfl) ?_
  refine lv_bipush (v := 10) hx hb dX0_isDone_46 (by decide) ?_
  refine lv_isub hx hb dX0_isDone_48 ?_
  refine cwVi (As := [.ref h0, .int f, .int (g - 10)]) (rest := []) ⟨hx, hb, hml, hown, hts⟩ (c_X0_isPushed l E _ hd fw sl cr gr h0 a0 a1 a2 a3 a4 n mo pu ro wo f (g - 10) (by first | assumption | omega)) (cwV 3 hts gX0_isDone_X0_isPushed rfl rfl rfl (by decide +kernel) ⟨Nat.le_of_ble_eq_true rfl, Nat.le_of_ble_eq_true rfl⟩) hK hP hD hS hA [0, 1, 2, 3, 4] (by decide) rfl [hd, h0, a2, a3, a4] (fun _ => rfl) rfl 0 rfl rfl rfl rfl hl.1 rfl (catLe (Nat.le_of_ble_eq_true rfl)) dX0_isDone_49 ⟨Nat.zero_le _, Nat.zero_le _⟩ (fun r_7 u_8 H locs hwr_7 hP hD hS => ?_)
  have hP : va_P E.1 vwCl [ob hd 0 [.int fw, .int (((dPsh n ro f (g - 10) (pu, sl, cr)).getD (pu, sl, cr)).2.1), .int (((dPsh n ro f (g - 10) (pu, sl, cr)).getD (pu, sl, cr)).2.2), .int gr], ob h0 5 [.ref a0, .ref a1, .ref a2, .ref a3, .ref a4, .int (nI n), .int mo], ar E a2 6 (((dPsh n ro f (g - 10) (pu, sl, cr)).getD (pu, sl, cr)).1), ar E a3 6 ro, ar E a4 6 wo] H := hP
  have hD : va_D A [ob hd 0 [.int fw, .int (((dPsh n ro f (g - 10) (pu, sl, cr)).getD (pu, sl, cr)).2.1), .int (((dPsh n ro f (g - 10) (pu, sl, cr)).getD (pu, sl, cr)).2.2), .int gr], ob h0 5 [.ref a0, .ref a1, .ref a2, .ref a3, .ref a4, .int (nI n), .int mo], ar E a2 6 (((dPsh n ro f (g - 10) (pu, sl, cr)).getD (pu, sl, cr)).1), ar E a3 6 ro, ar E a4 6 wo] := hD
  subst hwr_7
  have ed : dStep n mo ro wo f g (pu, sl, cr) = dPsh n ro f (g - 10) (pu, sl, cr) := by simp only [dStep]; rw [if_neg q_1, if_neg q_4]
  exact hret _ _ _ _ _ () dX0_isDone_52 (by first | rfl | (split <;> rfl)) hS (by rw [ed]; exact hP) (by rw [ed])
set_option maxHeartbeats 4000000 in
set_option maxRecDepth 100000 in
theorem c_X0_run (l : Launch) (E : gE) (sz : Nat) (hd : Nat) (fw : Int32) (sl : Int32) (cr : Int32) (gr : Int32) (h0 : Nat) (a0 : Nat) (a1 : Nat) (a2 : Nat) (a3 : Nat) (a4 : Nat) (n : Nat) (mo : Int32) (pu : Nat → Int32) (ro : Nat → Int32) (wo : Nat → Int32) (hs : Nat) (qs : Nat) (th : Int32) (la : Int32) (ln : Nat) (ce : Nat → Int32) (i : Nat) (nn : Nat) (hg : WG n ro wo) (h60 : ln ≤ 60) (hin : i + 2 * nn ≤ ln) : Met l yX0_run wsX0_run ({ frames := 6, cells := 0, slots := 0, locals := 136 }) (PW E [.ref hd, .ref h0, .ref hs, .int (nI i), .int (nI nn)] [ob hd 0 [.int fw, .int sl, .int cr, .int gr], ob h0 5 [.ref a0, .ref a1, .ref a2, .ref a3, .ref a4, .int (nI n), .int mo], ar E a2 6 pu, ar E a3 6 ro, ar E a4 6 wo, ob hs 3 [.ref qs, .int th, .int la, .int (nI ln)], ar E qs 60 ce] sz) (QWv E (fun _ => True) (fun (_ : Unit) => [ob hd 0 [.int ((dRun n mo ro wo ce i pu nn).1), .int ((dRun n mo ro wo ce i pu nn).2.1.2.1), .int ((dRun n mo ro wo ce i pu nn).2.1.2.2), .int ((dRun n mo ro wo ce i pu nn).2.2)], ob h0 5 [.ref a0, .ref a1, .ref a2, .ref a3, .ref a4, .int (nI n), .int mo], ar E a2 6 ((dRun n mo ro wo ce i pu nn).2.1.1), ar E a3 6 ro, ar E a4 6 wo, ob hs 3 [.ref qs, .int th, .int la, .int (nI ln)], ar E qs 60 ce]) (va_A [ob hd 0 [.int fw, .int sl, .int cr, .int gr], ob h0 5 [.ref a0, .ref a1, .ref a2, .ref a3, .ref a4, .int (nI n), .int mo], ar E a2 6 pu, ar E a3 6 ro, ar E a4 6 wo, ob hs 3 [.ref qs, .int th, .int la, .int (nI ln)], ar E qs 60 ce] sz)) 0 0 (va_A [ob hd 0 [.int fw, .int sl, .int cr, .int gr], ob h0 5 [.ref a0, .ref a1, .ref a2, .ref a3, .ref a4, .int (nI n), .int mo], ar E a2 6 pu, ar E a3 6 ro, ar E a4 6 wo, ob hs 3 [.ref qs, .int th, .int la, .int (nI ln)], ar E qs 60 ce] sz) := by
  refine mkWv (cc := cX0_run) (maxL := 6) (by decide) rfl (Nat.le_of_ble_eq_true rfl) ?_
  intro p e s m args below meth c QQ A hx hb hml hown hmn hts hK hA hP hD hS hret ls hl
  have hown : s.vm.findClass RX0 = some m.cls := hown
  have hl : lv_has ls 6 [(0, .ref hd), (1, .ref h0), (2, .ref hs), (3, .int (nI i)), (4, .int (nI nn))] := hl
  have hinX0 : ∀ w ∈ wsX00, w ∈ wsX0_run := by decide +kernel
  have fl_9 := hts (.fieldLink RX0 9 "GuardAbacus$Day" "firstWrong" "I") (by decide +kernel)
  have fl_15 := hts (.fieldLink RX0 15 "GuardAbacus$Day" "slid" "I") (by decide +kernel)
  have fl_18 := hts (.fieldLink RX0 18 "GuardAbacus$Day" "carried" "I") (by decide +kernel)
  have fl_21 := hts (.fieldLink RX0 21 "GuardAbacus$Day" "greatest" "I") (by decide +kernel)
  have hn := hg.le
  refine lv_aload_n hx hb dX0_run_0 rfl (lv_at hl 0 rfl) ?_
  refine lv_bipush (v := (-9)) hx hb dX0_run_1 (by decide) ?_
  refine va_put (D := E.1) (ci := 0) (v := .int (-9)) (ty := .int) (C := RX0) (T := TX0) (N := 4) hx hb hts hinX0 tyX0 tyX0_ok nmX0 hown hK.1 hP hD hS 0 rfl rfl 0 (by decide) fl_9 (fun _ h9 => h9) rfl (by decide +kernel) rfl rfl (Nat.le_of_ble_eq_true rfl) dX0_run_3 (fun H locs hP hD hS => ?_)
  have hP : va_P E.1 vwCl [ob hd 0 [.int (-9), .int sl, .int cr, .int gr], ob h0 5 [.ref a0, .ref a1, .ref a2, .ref a3, .ref a4, .int (nI n), .int mo], ar E a2 6 pu, ar E a3 6 ro, ar E a4 6 wo, ob hs 3 [.ref qs, .int th, .int la, .int (nI ln)], ar E qs 60 ce] H := hP
  have hD : va_D A [ob hd 0 [.int (-9), .int sl, .int cr, .int gr], ob h0 5 [.ref a0, .ref a1, .ref a2, .ref a3, .ref a4, .int (nI n), .int mo], ar E a2 6 pu, ar E a3 6 ro, ar E a4 6 wo, ob hs 3 [.ref qs, .int th, .int la, .int (nI ln)], ar E qs 60 ce] := hD
  refine lv_aload_n hx hb dX0_run_6 rfl (lv_at hl 0 rfl) ?_
  refine lv_iconst (v := 0) hx hb dX0_run_7 (by decide) ?_
  refine va_put (D := E.1) (ci := 0) (v := .int 0) (ty := .int) (C := RX0) (T := TX0) (N := 4) hx hb hts hinX0 tyX0 tyX0_ok nmX0 hown hK.1 hP hD hS 0 rfl rfl 1 (by decide) fl_15 (fun _ h9 => h9) rfl (by decide +kernel) rfl rfl (Nat.le_of_ble_eq_true rfl) dX0_run_8 (fun H locs hP hD hS => ?_)
  have hP : va_P E.1 vwCl [ob hd 0 [.int (-9), .int 0, .int cr, .int gr], ob h0 5 [.ref a0, .ref a1, .ref a2, .ref a3, .ref a4, .int (nI n), .int mo], ar E a2 6 pu, ar E a3 6 ro, ar E a4 6 wo, ob hs 3 [.ref qs, .int th, .int la, .int (nI ln)], ar E qs 60 ce] H := hP
  have hD : va_D A [ob hd 0 [.int (-9), .int 0, .int cr, .int gr], ob h0 5 [.ref a0, .ref a1, .ref a2, .ref a3, .ref a4, .int (nI n), .int mo], ar E a2 6 pu, ar E a3 6 ro, ar E a4 6 wo, ob hs 3 [.ref qs, .int th, .int la, .int (nI ln)], ar E qs 60 ce] := hD
  refine lv_aload_n hx hb dX0_run_11 rfl (lv_at hl 0 rfl) ?_
  refine lv_iconst (v := 0) hx hb dX0_run_12 (by decide) ?_
  refine va_put (D := E.1) (ci := 0) (v := .int 0) (ty := .int) (C := RX0) (T := TX0) (N := 4) hx hb hts hinX0 tyX0 tyX0_ok nmX0 hown hK.1 hP hD hS 0 rfl rfl 2 (by decide) fl_18 (fun _ h9 => h9) rfl (by decide +kernel) rfl rfl (Nat.le_of_ble_eq_true rfl) dX0_run_13 (fun H locs hP hD hS => ?_)
  have hP : va_P E.1 vwCl [ob hd 0 [.int (-9), .int 0, .int 0, .int gr], ob h0 5 [.ref a0, .ref a1, .ref a2, .ref a3, .ref a4, .int (nI n), .int mo], ar E a2 6 pu, ar E a3 6 ro, ar E a4 6 wo, ob hs 3 [.ref qs, .int th, .int la, .int (nI ln)], ar E qs 60 ce] H := hP
  have hD : va_D A [ob hd 0 [.int (-9), .int 0, .int 0, .int gr], ob h0 5 [.ref a0, .ref a1, .ref a2, .ref a3, .ref a4, .int (nI n), .int mo], ar E a2 6 pu, ar E a3 6 ro, ar E a4 6 wo, ob hs 3 [.ref qs, .int th, .int la, .int (nI ln)], ar E qs 60 ce] := hD
  refine lv_aload_n hx hb dX0_run_16 rfl (lv_at hl 0 rfl) ?_
  refine lv_aload_n hx hb dX0_run_17 rfl (lv_at hl 1 rfl) ?_
  refine crV (As := []) (rest := [.ref hd]) ⟨hx, hb, hml, hown, hts⟩ (c_X5_numberNow l E h0 a0 a1 a2 a3 a4 n mo pu wo (by first | assumption | omega)) (cwV 0 hts gX0_run_X5_numberNow rfl rfl rfl (by decide +kernel) ⟨Nat.le_of_ble_eq_true rfl, Nat.le_of_ble_eq_true rfl⟩) hK hP [1, 2, 4] rfl 0 rfl rfl rfl rfl hl.1 rfl (catLe (Nat.le_of_ble_eq_true rfl)) dX0_run_18 ⟨Nat.zero_le _, Nat.zero_le _⟩ (fun r_1 hr_1 => ?_)
  subst hr_1
  refine va_put (D := E.1) (ci := 0) (v := .int (numF pu wo n)) (ty := .int) (C := RX0) (T := TX0) (N := 4) hx hb hts hinX0 tyX0 tyX0_ok nmX0 hown hK.1 hP hD hS 0 rfl rfl 3 (by decide) fl_21 (fun _ h9 => h9) rfl (by decide +kernel) rfl rfl (Nat.le_of_ble_eq_true rfl) dX0_run_21 (fun H locs hP hD hS => ?_)
  have hP : va_P E.1 vwCl [ob hd 0 [.int (-9), .int 0, .int 0, .int (numF pu wo n)], ob h0 5 [.ref a0, .ref a1, .ref a2, .ref a3, .ref a4, .int (nI n), .int mo], ar E a2 6 pu, ar E a3 6 ro, ar E a4 6 wo, ob hs 3 [.ref qs, .int th, .int la, .int (nI ln)], ar E qs 60 ce] H := hP
  have hD : va_D A [ob hd 0 [.int (-9), .int 0, .int 0, .int (numF pu wo n)], ob h0 5 [.ref a0, .ref a1, .ref a2, .ref a3, .ref a4, .int (nI n), .int mo], ar E a2 6 pu, ar E a3 6 ro, ar E a4 6 wo, ob hs 3 [.ref qs, .int th, .int la, .int (nI ln)], ar E qs 60 ce] := hD
  refine lv_iconst (v := 0) hx hb dX0_run_24 (by decide) ?_
  refine lv_istore (lv' := [(5, .int 0), (0, .ref hd), (1, .ref h0), (2, .ref hs), (3, .int (nI i)), (4, .int (nI nn))]) hx hb dX0_run_25 hl (by decide) rfl (fun ls hl => ?_)
  have L27 : ∀ (fuel : Nat) (k : Nat), (k ≤ nn) → (nn - k) < fuel → ∀ (H : Heap) (locs : List Loc), va_P E.1 vwCl [ob hd 0 [.int ((dRun n mo ro wo ce i pu k).1), .int ((dRun n mo ro wo ce i pu k).2.1.2.1), .int ((dRun n mo ro wo ce i pu k).2.1.2.2), .int ((dRun n mo ro wo ce i pu k).2.2)], ob h0 5 [.ref a0, .ref a1, .ref a2, .ref a3, .ref a4, .int (nI n), .int mo], ar E a2 6 ((dRun n mo ro wo ce i pu k).2.1.1), ar E a3 6 ro, ar E a4 6 wo, ob hs 3 [.ref qs, .int th, .int la, .int (nI ln)], ar E qs 60 ce] H → va_D A [ob hd 0 [.int ((dRun n mo ro wo ce i pu k).1), .int ((dRun n mo ro wo ce i pu k).2.1.2.1), .int ((dRun n mo ro wo ce i pu k).2.1.2.2), .int ((dRun n mo ro wo ce i pu k).2.2)], ob h0 5 [.ref a0, .ref a1, .ref a2, .ref a3, .ref a4, .int (nI n), .int mo], ar E a2 6 ((dRun n mo ro wo ce i pu k).2.1.1), ar E a3 6 ro, ar E a4 6 wo, ob hs 3 [.ref qs, .int th, .int la, .int (nI ln)], ar E qs 60 ce] → va_S A s.heap H locs → ∀ ls : Array Slot, lv_has ls 6 [(5, .int (nI k)), (0, .ref hd), (1, .ref h0), (2, .ref hs), (3, .int (nI i)), (4, .int (nI nn))] → W p l e ({ frames := 6, cells := 0, slots := 0, locals := 136 }) s m args below meth c H locs 0 0 QQ (F0 m 27 ls []) := by
    intro fuel
    induction fuel with
    | zero => intro k hk hf; exact absurd hf (Nat.not_lt_zero _)
    | succ fuel ih27 =>
      intro k hk hf27 H locs hP hD hS ls hl
      refine lv_iload hx hb dX0_run_27 (lv_at hl 0 rfl) ?_
      refine lv_iload hx hb dX0_run_29 (lv_at hl 5 rfl) ?_
      refine icmpN_ge (tgt := 103) (a := k) (b := nn) hx hb rfl rfl (by omega) (by omega) dX0_run_31 (by decide) (fun c_2 => ?_) (fun c_2 => ?_)
      ·
        obtain rfl : nn = k := by omega
        exact hret _ _ _ _ () dX0_run_103 hS hP trivial
      ·
        refine lv_aload_n hx hb dX0_run_34 rfl (lv_at hl 1 rfl) ?_
        refine va_get (D := E.1) (ci := 0) (v := .int ((dRun n mo ro wo ce i pu k).1)) (C := RX0) (T := TX0) (N := 4) hx hb hts hinX0 hown hK.1 hP 0 rfl rfl 0 (by decide) fl_9 (fun _ h9 => h9) rfl dX0_run_35 ?_
        refine lv_bipush (v := (-9)) hx hb dX0_run_38 (by decide) ?_
        refine lv_icmp_ne (tgt := 103) hx hb dX0_run_40 (by decide) (fun c_3 => ?_) (fun c_3 => ?_)
        ·
          exact hret _ _ _ _ () dX0_run_103 hS (by rw [dRun_stop c_3 nn (by omega)]; exact hP) trivial
        ·
          refine lv_aload_n hx hb dX0_run_43 rfl (lv_at hl 1 rfl) ?_
          refine lv_aload_n hx hb dX0_run_44 rfl (lv_at hl 2 rfl) ?_
          refine lv_aload_n hx hb dX0_run_45 rfl (lv_at hl 3 rfl) ?_
          refine lv_iload_n hx hb dX0_run_46 rfl (lv_at hl 4 rfl) ?_
          refine lv_iconst (v := 2) hx hb dX0_run_47 (by decide) ?_
          refine lv_iload hx hb dX0_run_48 (lv_at hl 0 rfl) ?_
          refine N_imul (a := 2) (b := k) hx hb rfl rfl dX0_run_50 ?_
          refine N_iadd (a := i) (b := 2 * k) hx hb rfl rfl dX0_run_51 ?_
          refine crV (As := [.int (nI (i + (2 * k)))]) (rest := [.ref h0, .ref hd]) ⟨hx, hb, hml, hown, hts⟩ (c_X3_at l E hs qs th la ln ce (nI (i + (2 * k))) (i + (2 * k)) (by first | assumption | omega) (by first | assumption | omega) rfl) (cwV 1 hts gX0_run_X3_at rfl rfl rfl (by decide +kernel) ⟨Nat.le_of_ble_eq_true rfl, Nat.le_of_ble_eq_true rfl⟩) hK hP [5, 6] rfl 0 rfl rfl rfl rfl hl.1 rfl (catLe (Nat.le_of_ble_eq_true rfl)) dX0_run_52 ⟨Nat.zero_le _, Nat.zero_le _⟩ (fun r_4 hr_4 => ?_)
          subst hr_4
          refine lv_aload_n hx hb dX0_run_55 rfl (lv_at hl 3 rfl) ?_
          refine lv_iload_n hx hb dX0_run_56 rfl (lv_at hl 4 rfl) ?_
          refine lv_iconst (v := 2) hx hb dX0_run_57 (by decide) ?_
          refine lv_iload hx hb dX0_run_58 (lv_at hl 0 rfl) ?_
          refine N_imul (a := 2) (b := k) hx hb rfl rfl dX0_run_60 ?_
          refine N_iadd (a := i) (b := 2 * k) hx hb rfl rfl dX0_run_61 ?_
          refine lv_iconst (v := 1) hx hb dX0_run_62 (by decide) ?_
          refine N_iadd (a := i + (2 * k)) (b := 1) hx hb rfl rfl dX0_run_63 ?_
          refine crV (As := [.int (nI ((i + (2 * k)) + 1))]) (rest := [.int (ce (i + (2 * k))), .ref h0, .ref hd]) ⟨hx, hb, hml, hown, hts⟩ (c_X3_at l E hs qs th la ln ce (nI ((i + (2 * k)) + 1)) ((i + (2 * k)) + 1) (by first | assumption | omega) (by first | assumption | omega) rfl) (cwV 1 hts gX0_run_X3_at rfl rfl rfl (by decide +kernel) ⟨Nat.le_of_ble_eq_true rfl, Nat.le_of_ble_eq_true rfl⟩) hK hP [5, 6] rfl 0 rfl rfl rfl rfl hl.1 rfl (catLe (Nat.le_of_ble_eq_true rfl)) dX0_run_64 ⟨Nat.zero_le _, Nat.zero_le _⟩ (fun r_5 hr_5 => ?_)
          subst hr_5
          refine cwVi (As := [.ref h0, .int (ce (i + (2 * k))), .int (ce ((i + (2 * k)) + 1))]) (rest := []) ⟨hx, hb, hml, hown, hts⟩ (c_X0_isDone l E _ hd ((dRun n mo ro wo ce i pu k).1) ((dRun n mo ro wo ce i pu k).2.1.2.1) ((dRun n mo ro wo ce i pu k).2.1.2.2) ((dRun n mo ro wo ce i pu k).2.2) h0 a0 a1 a2 a3 a4 n mo ((dRun n mo ro wo ce i pu k).2.1.1) ro wo (ce (i + (2 * k))) (ce ((i + (2 * k)) + 1)) (by first | assumption | omega)) (cwV 3 hts gX0_run_X0_isDone rfl rfl rfl (by decide +kernel) ⟨Nat.le_of_ble_eq_true rfl, Nat.le_of_ble_eq_true rfl⟩) hK hP hD hS hA [0, 1, 2, 3, 4] (by decide) rfl [hd, h0, a2, a3, a4] (fun _ => rfl) rfl 0 rfl rfl rfl rfl hl.1 rfl (catLe (Nat.le_of_ble_eq_true rfl)) dX0_run_67 ⟨Nat.zero_le _, Nat.zero_le _⟩ (fun r_6 u_7 H locs hwr_6 hP hD hS => ?_)
          have hP : va_P E.1 vwCl [ob hd 0 [.int ((dRun n mo ro wo ce i pu k).1), .int (((dStep n mo ro wo (ce (i + (2 * k))) (ce ((i + (2 * k)) + 1)) (((dRun n mo ro wo ce i pu k).2.1.1), ((dRun n mo ro wo ce i pu k).2.1.2.1), ((dRun n mo ro wo ce i pu k).2.1.2.2))).getD (((dRun n mo ro wo ce i pu k).2.1.1), ((dRun n mo ro wo ce i pu k).2.1.2.1), ((dRun n mo ro wo ce i pu k).2.1.2.2))).2.1), .int (((dStep n mo ro wo (ce (i + (2 * k))) (ce ((i + (2 * k)) + 1)) (((dRun n mo ro wo ce i pu k).2.1.1), ((dRun n mo ro wo ce i pu k).2.1.2.1), ((dRun n mo ro wo ce i pu k).2.1.2.2))).getD (((dRun n mo ro wo ce i pu k).2.1.1), ((dRun n mo ro wo ce i pu k).2.1.2.1), ((dRun n mo ro wo ce i pu k).2.1.2.2))).2.2), .int ((dRun n mo ro wo ce i pu k).2.2)], ob h0 5 [.ref a0, .ref a1, .ref a2, .ref a3, .ref a4, .int (nI n), .int mo], ar E a2 6 (((dStep n mo ro wo (ce (i + (2 * k))) (ce ((i + (2 * k)) + 1)) (((dRun n mo ro wo ce i pu k).2.1.1), ((dRun n mo ro wo ce i pu k).2.1.2.1), ((dRun n mo ro wo ce i pu k).2.1.2.2))).getD (((dRun n mo ro wo ce i pu k).2.1.1), ((dRun n mo ro wo ce i pu k).2.1.2.1), ((dRun n mo ro wo ce i pu k).2.1.2.2))).1), ar E a3 6 ro, ar E a4 6 wo, ob hs 3 [.ref qs, .int th, .int la, .int (nI ln)], ar E qs 60 ce] H := hP
          have hD : va_D A [ob hd 0 [.int ((dRun n mo ro wo ce i pu k).1), .int (((dStep n mo ro wo (ce (i + (2 * k))) (ce ((i + (2 * k)) + 1)) (((dRun n mo ro wo ce i pu k).2.1.1), ((dRun n mo ro wo ce i pu k).2.1.2.1), ((dRun n mo ro wo ce i pu k).2.1.2.2))).getD (((dRun n mo ro wo ce i pu k).2.1.1), ((dRun n mo ro wo ce i pu k).2.1.2.1), ((dRun n mo ro wo ce i pu k).2.1.2.2))).2.1), .int (((dStep n mo ro wo (ce (i + (2 * k))) (ce ((i + (2 * k)) + 1)) (((dRun n mo ro wo ce i pu k).2.1.1), ((dRun n mo ro wo ce i pu k).2.1.2.1), ((dRun n mo ro wo ce i pu k).2.1.2.2))).getD (((dRun n mo ro wo ce i pu k).2.1.1), ((dRun n mo ro wo ce i pu k).2.1.2.1), ((dRun n mo ro wo ce i pu k).2.1.2.2))).2.2), .int ((dRun n mo ro wo ce i pu k).2.2)], ob h0 5 [.ref a0, .ref a1, .ref a2, .ref a3, .ref a4, .int (nI n), .int mo], ar E a2 6 (((dStep n mo ro wo (ce (i + (2 * k))) (ce ((i + (2 * k)) + 1)) (((dRun n mo ro wo ce i pu k).2.1.1), ((dRun n mo ro wo ce i pu k).2.1.2.1), ((dRun n mo ro wo ce i pu k).2.1.2.2))).getD (((dRun n mo ro wo ce i pu k).2.1.1), ((dRun n mo ro wo ce i pu k).2.1.2.1), ((dRun n mo ro wo ce i pu k).2.1.2.2))).1), ar E a3 6 ro, ar E a4 6 wo, ob hs 3 [.ref qs, .int th, .int la, .int (nI ln)], ar E qs 60 ce] := hD
          subst hwr_6
          refine ifB_eq (P := (dStep n mo ro wo (ce (i + (2 * k))) (ce ((i + (2 * k)) + 1)) (((dRun n mo ro wo ce i pu k).2.1.1), ((dRun n mo ro wo ce i pu k).2.1.2.1), ((dRun n mo ro wo ce i pu k).2.1.2.2))).isSome = true) (tgt := 91) hx hb dX0_run_70 (by decide) (fun c_8 => ?_) (fun c_8 => ?_)
          ·
            have ed := isSome_none c_8
            rw [ed] at hP hD
            have hP : va_P E.1 vwCl [ob hd 0 [.int ((dRun n mo ro wo ce i pu k).1), .int ((dRun n mo ro wo ce i pu k).2.1.2.1), .int ((dRun n mo ro wo ce i pu k).2.1.2.2), .int ((dRun n mo ro wo ce i pu k).2.2)], ob h0 5 [.ref a0, .ref a1, .ref a2, .ref a3, .ref a4, .int (nI n), .int mo], ar E a2 6 ((dRun n mo ro wo ce i pu k).2.1.1), ar E a3 6 ro, ar E a4 6 wo, ob hs 3 [.ref qs, .int th, .int la, .int (nI ln)], ar E qs 60 ce] H := hP
            have hD : va_D A [ob hd 0 [.int ((dRun n mo ro wo ce i pu k).1), .int ((dRun n mo ro wo ce i pu k).2.1.2.1), .int ((dRun n mo ro wo ce i pu k).2.1.2.2), .int ((dRun n mo ro wo ce i pu k).2.2)], ob h0 5 [.ref a0, .ref a1, .ref a2, .ref a3, .ref a4, .int (nI n), .int mo], ar E a2 6 ((dRun n mo ro wo ce i pu k).2.1.1), ar E a3 6 ro, ar E a4 6 wo, ob hs 3 [.ref qs, .int th, .int la, .int (nI ln)], ar E qs 60 ce] := hD
            refine lv_aload_n hx hb dX0_run_91 rfl (lv_at hl 1 rfl) ?_
            refine lv_iload hx hb dX0_run_92 (lv_at hl 0 rfl) ?_
            refine va_put (D := E.1) (ci := 0) (v := .int (nI k)) (ty := .int) (C := RX0) (T := TX0) (N := 4) hx hb hts hinX0 tyX0 tyX0_ok nmX0 hown hK.1 hP hD hS 0 rfl rfl 0 (by decide) fl_9 (fun _ h9 => h9) rfl (by decide +kernel) rfl rfl (Nat.le_of_ble_eq_true rfl) dX0_run_94 (fun H locs hP hD hS => ?_)
            have hP : va_P E.1 vwCl [ob hd 0 [.int (nI k), .int ((dRun n mo ro wo ce i pu k).2.1.2.1), .int ((dRun n mo ro wo ce i pu k).2.1.2.2), .int ((dRun n mo ro wo ce i pu k).2.2)], ob h0 5 [.ref a0, .ref a1, .ref a2, .ref a3, .ref a4, .int (nI n), .int mo], ar E a2 6 ((dRun n mo ro wo ce i pu k).2.1.1), ar E a3 6 ro, ar E a4 6 wo, ob hs 3 [.ref qs, .int th, .int la, .int (nI ln)], ar E qs 60 ce] H := hP
            have hD : va_D A [ob hd 0 [.int (nI k), .int ((dRun n mo ro wo ce i pu k).2.1.2.1), .int ((dRun n mo ro wo ce i pu k).2.1.2.2), .int ((dRun n mo ro wo ce i pu k).2.2)], ob h0 5 [.ref a0, .ref a1, .ref a2, .ref a3, .ref a4, .int (nI n), .int mo], ar E a2 6 ((dRun n mo ro wo ce i pu k).2.1.1), ar E a3 6 ro, ar E a4 6 wo, ob hs 3 [.ref qs, .int th, .int la, .int (nI ln)], ar E qs 60 ce] := hD
            refine lv_iinc (v := nI (k + 1)) (lv' := [(5, .int (nI (k + 1))), (0, .ref hd), (1, .ref h0), (2, .ref hs), (3, .int (nI i)), (4, .int (nI nn))]) hx hb dX0_run_97 hl (k := 0) rfl (nI_inc k) (by decide) rfl (fun ls hl => ?_)
            refine lv_goto (tgt := 27) hx hb dX0_run_100 (by decide) ?_
            have eX : dRun n mo ro wo ce i pu (k + 1) = (nI k, (dRun n mo ro wo ce i pu k).2) := dNext_none c_3 ed
            have hP : va_P E.1 vwCl [ob hd 0 [.int ((dRun n mo ro wo ce i pu (k + 1)).1), .int ((dRun n mo ro wo ce i pu (k + 1)).2.1.2.1), .int ((dRun n mo ro wo ce i pu (k + 1)).2.1.2.2), .int ((dRun n mo ro wo ce i pu (k + 1)).2.2)], ob h0 5 [.ref a0, .ref a1, .ref a2, .ref a3, .ref a4, .int (nI n), .int mo], ar E a2 6 ((dRun n mo ro wo ce i pu (k + 1)).2.1.1), ar E a3 6 ro, ar E a4 6 wo, ob hs 3 [.ref qs, .int th, .int la, .int (nI ln)], ar E qs 60 ce] H := by rw [eX]; exact hP
            have hD : va_D A [ob hd 0 [.int ((dRun n mo ro wo ce i pu (k + 1)).1), .int ((dRun n mo ro wo ce i pu (k + 1)).2.1.2.1), .int ((dRun n mo ro wo ce i pu (k + 1)).2.1.2.2), .int ((dRun n mo ro wo ce i pu (k + 1)).2.2)], ob h0 5 [.ref a0, .ref a1, .ref a2, .ref a3, .ref a4, .int (nI n), .int mo], ar E a2 6 ((dRun n mo ro wo ce i pu (k + 1)).2.1.1), ar E a3 6 ro, ar E a4 6 wo, ob hs 3 [.ref qs, .int th, .int la, .int (nI ln)], ar E qs 60 ce] := va_D_addr hD [hd, h0, a2, a3, a4, hs, qs] rfl rfl
            exact ih27 (k + 1) (by omega) (by omega) _ _ hP hD hS ls (lv_sub hl [0, 1, 2, 3, 4, 5] rfl)
          ·
            obtain ⟨d, ed⟩ := Option.isSome_iff_exists.mp c_8
            rw [ed] at hP hD
            have hP : va_P E.1 vwCl [ob hd 0 [.int ((dRun n mo ro wo ce i pu k).1), .int d.2.1, .int d.2.2, .int ((dRun n mo ro wo ce i pu k).2.2)], ob h0 5 [.ref a0, .ref a1, .ref a2, .ref a3, .ref a4, .int (nI n), .int mo], ar E a2 6 d.1, ar E a3 6 ro, ar E a4 6 wo, ob hs 3 [.ref qs, .int th, .int la, .int (nI ln)], ar E qs 60 ce] H := hP
            have hD : va_D A [ob hd 0 [.int ((dRun n mo ro wo ce i pu k).1), .int d.2.1, .int d.2.2, .int ((dRun n mo ro wo ce i pu k).2.2)], ob h0 5 [.ref a0, .ref a1, .ref a2, .ref a3, .ref a4, .int (nI n), .int mo], ar E a2 6 d.1, ar E a3 6 ro, ar E a4 6 wo, ob hs 3 [.ref qs, .int th, .int la, .int (nI ln)], ar E qs 60 ce] := hD
            refine lv_aload_n hx hb dX0_run_73 rfl (lv_at hl 1 rfl) ?_
            refine lv_aload_n hx hb dX0_run_74 rfl (lv_at hl 1 rfl) ?_
            refine va_get (D := E.1) (ci := 0) (v := .int ((dRun n mo ro wo ce i pu k).2.2)) (C := RX0) (T := TX0) (N := 4) hx hb hts hinX0 hown hK.1 hP 0 rfl rfl 3 (by decide) fl_21 (fun _ h9 => h9) rfl dX0_run_75 ?_
            refine lv_aload_n hx hb dX0_run_78 rfl (lv_at hl 2 rfl) ?_
            refine crV (As := []) (rest := [.int ((dRun n mo ro wo ce i pu k).2.2), .ref hd]) ⟨hx, hb, hml, hown, hts⟩ (c_X5_numberNow l E h0 a0 a1 a2 a3 a4 n mo d.1 wo (by first | assumption | omega)) (cwV 0 hts gX0_run_X5_numberNow rfl rfl rfl (by decide +kernel) ⟨Nat.le_of_ble_eq_true rfl, Nat.le_of_ble_eq_true rfl⟩) hK hP [1, 2, 4] rfl 0 rfl rfl rfl rfl hl.1 rfl (catLe (Nat.le_of_ble_eq_true rfl)) dX0_run_79 ⟨Nat.zero_le _, Nat.zero_le _⟩ (fun r_9 hr_9 => ?_)
            subst hr_9
            refine va_mmax hx hb (hml.trans hl.1.symm) hown (hts (.methodLink RX0 40 Lib.Math.max.name) (by decide +kernel)) (hts (.static Lib.Math.max.name) (by decide +kernel)) (hts (.initialized "java/lang/Math") (by decide +kernel)) (hts (.code Lib.Math.max.name Lib.Math.max.code 2 (some .int)) (by decide +kernel)) (Nat.le_of_ble_eq_true rfl) (Nat.le_of_ble_eq_true rfl) (Nat.zero_le _) (Nat.zero_le _) dX0_run_82 ?_
            refine va_put (D := E.1) (ci := 0) (v := .int (if ((dRun n mo ro wo ce i pu k).2.2) < (numF d.1 wo n) then numF d.1 wo n else ((dRun n mo ro wo ce i pu k).2.2))) (ty := .int) (C := RX0) (T := TX0) (N := 4) hx hb hts hinX0 tyX0 tyX0_ok nmX0 hown hK.1 hP hD hS 0 rfl rfl 3 (by decide) fl_21 (fun _ h9 => h9) rfl (by decide +kernel) rfl rfl (Nat.le_of_ble_eq_true rfl) dX0_run_85 (fun H locs hP hD hS => ?_)
            have hP : va_P E.1 vwCl [ob hd 0 [.int ((dRun n mo ro wo ce i pu k).1), .int d.2.1, .int d.2.2, .int (if ((dRun n mo ro wo ce i pu k).2.2) < (numF d.1 wo n) then numF d.1 wo n else ((dRun n mo ro wo ce i pu k).2.2))], ob h0 5 [.ref a0, .ref a1, .ref a2, .ref a3, .ref a4, .int (nI n), .int mo], ar E a2 6 d.1, ar E a3 6 ro, ar E a4 6 wo, ob hs 3 [.ref qs, .int th, .int la, .int (nI ln)], ar E qs 60 ce] H := hP
            have hD : va_D A [ob hd 0 [.int ((dRun n mo ro wo ce i pu k).1), .int d.2.1, .int d.2.2, .int (if ((dRun n mo ro wo ce i pu k).2.2) < (numF d.1 wo n) then numF d.1 wo n else ((dRun n mo ro wo ce i pu k).2.2))], ob h0 5 [.ref a0, .ref a1, .ref a2, .ref a3, .ref a4, .int (nI n), .int mo], ar E a2 6 d.1, ar E a3 6 ro, ar E a4 6 wo, ob hs 3 [.ref qs, .int th, .int la, .int (nI ln)], ar E qs 60 ce] := hD
            refine lv_goto (tgt := 97) hx hb dX0_run_88 (by decide) ?_
            refine lv_iinc (v := nI (k + 1)) (lv' := [(5, .int (nI (k + 1))), (0, .ref hd), (1, .ref h0), (2, .ref hs), (3, .int (nI i)), (4, .int (nI nn))]) hx hb dX0_run_97 hl (k := 0) rfl (nI_inc k) (by decide) rfl (fun ls hl => ?_)
            refine lv_goto (tgt := 27) hx hb dX0_run_100 (by decide) ?_
            have eX : dRun n mo ro wo ce i pu (k + 1) = ((dRun n mo ro wo ce i pu k).1, d, if (dRun n mo ro wo ce i pu k).2.2 < numF d.1 wo n then numF d.1 wo n else (dRun n mo ro wo ce i pu k).2.2) := dNext_some c_3 ed
            have hP : va_P E.1 vwCl [ob hd 0 [.int ((dRun n mo ro wo ce i pu (k + 1)).1), .int ((dRun n mo ro wo ce i pu (k + 1)).2.1.2.1), .int ((dRun n mo ro wo ce i pu (k + 1)).2.1.2.2), .int ((dRun n mo ro wo ce i pu (k + 1)).2.2)], ob h0 5 [.ref a0, .ref a1, .ref a2, .ref a3, .ref a4, .int (nI n), .int mo], ar E a2 6 ((dRun n mo ro wo ce i pu (k + 1)).2.1.1), ar E a3 6 ro, ar E a4 6 wo, ob hs 3 [.ref qs, .int th, .int la, .int (nI ln)], ar E qs 60 ce] H := by rw [eX]; exact hP
            have hD : va_D A [ob hd 0 [.int ((dRun n mo ro wo ce i pu (k + 1)).1), .int ((dRun n mo ro wo ce i pu (k + 1)).2.1.2.1), .int ((dRun n mo ro wo ce i pu (k + 1)).2.1.2.2), .int ((dRun n mo ro wo ce i pu (k + 1)).2.2)], ob h0 5 [.ref a0, .ref a1, .ref a2, .ref a3, .ref a4, .int (nI n), .int mo], ar E a2 6 ((dRun n mo ro wo ce i pu (k + 1)).2.1.1), ar E a3 6 ro, ar E a4 6 wo, ob hs 3 [.ref qs, .int th, .int la, .int (nI ln)], ar E qs 60 ce] := va_D_addr hD [hd, h0, a2, a3, a4, hs, qs] rfl rfl
            exact ih27 (k + 1) (by omega) (by omega) _ _ hP hD hS ls (lv_sub hl [0, 1, 2, 3, 4, 5] rfl)
  exact L27 _ 0 (by omega) (Nat.lt_succ_self _) _ _ hP hD hS ls (lv_sub hl [0, 1, 2, 3, 4, 5] rfl)
