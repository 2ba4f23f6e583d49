set_option maxHeartbeats 4000000 in
set_option maxRecDepth 100000 in
theorem c_X7_turn (l : Launch) (E : gE) (m0 : Nat) (lf : Int32) (tr : Int32) (z0 : Nat) (z1 : Nat) (z2 : Nat) (n : Nat) (y0 : Nat) (y1 : Nat) (y2 : Nat) (at_ : Int32) (rwi : Int32) (y3 : Nat) (y4 : Nat) (sl : Int32) (cr : Int32) (gr : Int32) (y5 : Nat) (y6 : Nat) (rc : Nat) (x0 : Nat) (x1 : Nat) (x2 : Nat) (x3 : Nat) (pu : Nat → Int32) (what : Int32) (hn : n ≤ 6) : Met l yX7_turn wsX7_turn ({ frames := 1, cells := 0, slots := 0, locals := 22 }) (PR E [.ref m0, .int what] [ob m0 7 [.int lf, .int tr, .ref z0, .ref z1, .ref z2, .int (nI n), .ref y0, .ref y1, .ref y2, .int at_, .int rwi, .ref y3, .ref y4, .int sl, .int cr, .int gr, .ref y5, .ref y6, .int (nI rc), .ref x0, .ref x1, .ref x2, .ref x3], ar E y2 6 pu]) (vp_Si (fun r => r = spTurn n pu what)) 0 0 (fun _ => False) := by
  refine mkRi (cc := cX7_turn) (maxL := 4) (by decide) rfl (Nat.le_of_ble_eq_true rfl) ?_
  intro p e s m args below meth c QQ hx hb hml hown hmn hts hK hP hret ls hl
  have hown : s.vm.findClass RX7 = some m.cls := hown
  have hl : lv_has ls 4 [(0, .ref m0), (1, .int what)] := hl
  have hinX7 : ∀ w ∈ wsX70, w ∈ wsX7_turn := by decide +kernel
  have fl_25 := hts (.fieldLink RX7 25 "GuardAbacusModel" "pushed" "[I") (by decide +kernel)
  have fl_62 := hts (.fieldLink RX7 62 "GuardAbacusModel" "wires" "I") (by decide +kernel)
  refine lv_iload_n hx hb dX7_turn_0 rfl (lv_at hl 1 rfl) ?_
  refine lv_iconst (v := 0) hx hb dX7_turn_1 (by decide) ?_
  refine lv_iconst (v := 1) hx hb dX7_turn_2 (by decide) ?_
  refine crS (As := [.int what, .int 0, .int 1]) (rest := []) ⟨hx, hb, hml, hown, hts⟩ (c_X7_within l E what 0 1) (va_cwS 3 hts gX7_turn_X7_within rfl rfl rfl (by decide +kernel) ⟨Nat.le_of_ble_eq_true rfl, Nat.le_of_ble_eq_true rfl⟩) hK hP [] rfl rfl hl.1 rfl (catLe (Nat.le_of_ble_eq_true rfl)) dX7_turn_3 ⟨Nat.zero_le _, Nat.zero_le _⟩ (fun r_1 hr_1 => ?_)
  subst hr_1
  refine ifB_ne (P := wiP what 0 1) (tgt := 12) hx hb dX7_turn_6 (by decide) (fun c_2 => ?_) (fun c_2 => ?_)
  ·
    refine lv_aload_n hx hb dX7_turn_12 rfl (lv_at hl 0 rfl) ?_
    refine va_get (D := E.1) (ci := 7) (v := .int (nI n)) (C := RX7) (T := TX7) (N := 23) hx hb hts hinX7 hown hK.1 hP 0 rfl rfl 5 (by decide) fl_62 (fun _ h9 => h9) rfl dX7_turn_13 ?_
    refine ifN_ne (tgt := 22) (a := n) hx hb rfl (by omega) dX7_turn_16 (by decide) (fun c_3 => ?_) (fun c_3 => ?_)
    ·
      refine lv_iconst (v := 0) hx hb dX7_turn_22 (by decide) ?_
      refine lv_istore_n (lv' := [(2, .int 0), (0, .ref m0), (1, .int what)]) hx hb dX7_turn_23 rfl hl (by decide) rfl (fun ls hl => ?_)
      refine lv_iconst (v := 0) hx hb dX7_turn_24 (by decide) ?_
      refine lv_istore_n (lv' := [(3, .int 0), (2, .int 0), (0, .ref m0), (1, .int what)]) hx hb dX7_turn_25 rfl hl (by decide) rfl (fun ls hl => ?_)
      have L26 : ∀ (fuel : Nat) (k : Nat), (k ≤ n) → (n - k) < fuel → ∀ ls : Array Slot, lv_has ls 4 [(3, .int (nI k)), (2, .int (xrF pu k)), (0, .ref m0), (1, .int what)] → W p l e ({ frames := 1, cells := 0, slots := 0, locals := 22 }) s m args below meth c s.heap [] 0 0 QQ (F0 m 26 ls []) := by
        intro fuel
        induction fuel with
        | zero => intro k hk hf; exact absurd hf (Nat.not_lt_zero _)
        | succ fuel ih26 =>
          intro k hk hf26 ls hl
          refine lv_iload_n hx hb dX7_turn_26 rfl (lv_at hl 0 rfl) ?_
          refine lv_aload_n hx hb dX7_turn_27 rfl (lv_at hl 2 rfl) ?_
          refine va_get (D := E.1) (ci := 7) (v := .int (nI n)) (C := RX7) (T := TX7) (N := 23) hx hb hts hinX7 hown hK.1 hP 0 rfl rfl 5 (by decide) fl_62 (fun _ h9 => h9) rfl dX7_turn_28 ?_
          refine icmpN_ge (tgt := 49) (a := k) (b := n) hx hb rfl rfl (by omega) (by omega) dX7_turn_31 (by decide) (fun c_4 => ?_) (fun c_4 => ?_)
          ·
            obtain rfl : n = k := by omega
            refine lv_iconst (v := 0) hx hb dX7_turn_49 (by decide) ?_
            refine lv_istore_n (lv' := [(3, .int 0), (2, .int (xrF pu n)), (0, .ref m0), (1, .int what)]) hx hb dX7_turn_50 rfl hl (by decide) rfl (fun ls hl => ?_)
            have L51 : ∀ (fuel : Nat) (z : Nat), (z ≤ n) → (tuF pu (xrF pu n) z = none) → (n - z) < fuel → ∀ ls : Array Slot, lv_has ls 4 [(3, .int (nI z)), (2, .int (xrF pu n)), (0, .ref m0), (1, .int what)] → W p l e ({ frames := 1, cells := 0, slots := 0, locals := 22 }) s m args below meth c s.heap [] 0 0 QQ (F0 m 51 ls []) := by
              intro fuel
              induction fuel with
              | zero => intro z hz hq hf; exact absurd hf (Nat.not_lt_zero _)
              | succ fuel ih51 =>
                intro z hz hq hf51 ls hl
                refine lv_iload_n hx hb dX7_turn_51 rfl (lv_at hl 0 rfl) ?_
                refine lv_aload_n hx hb dX7_turn_52 rfl (lv_at hl 2 rfl) ?_
                refine va_get (D := E.1) (ci := 7) (v := .int (nI n)) (C := RX7) (T := TX7) (N := 23) hx hb hts hinX7 hown hK.1 hP 0 rfl rfl 5 (by decide) fl_62 (fun _ h9 => h9) rfl dX7_turn_53 ?_
                refine icmpN_ge (tgt := 103) (a := z) (b := n) hx hb rfl rfl (by omega) (by omega) dX7_turn_56 (by decide) (fun c_5 => ?_) (fun c_5 => ?_)
                ·
                  obtain rfl : n = z := by omega
                  refine lv_bipush (v := (-9)) hx hb dX7_turn_103 (by decide) ?_
                  exact hret _ _ _ dX7_turn_105 (by rw [spTurn, if_neg c_2.1, if_neg (not_not_intro (Int32.not_lt.mp c_2.2)), if_neg (by omega), hq])
                ·
                  refine lv_iload_n hx hb dX7_turn_59 rfl (lv_at hl 1 rfl) ?_
                  refine lv_if_eq (tgt := 103) hx hb dX7_turn_60 (by decide) (fun c_6 => ?_) (fun c_6 => ?_)
                  ·
                    refine lv_bipush (v := (-9)) hx hb dX7_turn_103 (by decide) ?_
                    exact hret _ _ _ dX7_turn_105 (by rw [spTurn, if_neg c_2.1, if_neg (not_not_intro (Int32.not_lt.mp c_2.2)), if_neg (by omega), show tuF pu (xrF pu n) n = none from by rw [c_6]; exact tuF_zero pu n])
                  ·
                    refine lv_aload_n hx hb dX7_turn_63 rfl (lv_at hl 2 rfl) ?_
                    refine va_get (D := E.1) (ci := 7) (v := .ref y2) (C := RX7) (T := TX7) (N := 23) hx hb hts hinX7 hown hK.1 hP 0 rfl rfl 8 (by decide) fl_25 (fun _ h9 => h9) rfl dX7_turn_64 ?_
                    refine lv_iload_n hx hb dX7_turn_67 rfl (lv_at hl 0 rfl) ?_
                    refine ild hx hb hK hP 1 rfl (j := z) rfl (by omega) (by decide) dX7_turn_68 ?_
                    refine lv_iload_n hx hb dX7_turn_69 rfl (lv_at hl 1 rfl) ?_
                    refine lv_ixor hx hb dX7_turn_70 ?_
                    refine lv_aload_n hx hb dX7_turn_71 rfl (lv_at hl 2 rfl) ?_
                    refine va_get (D := E.1) (ci := 7) (v := .ref y2) (C := RX7) (T := TX7) (N := 23) hx hb hts hinX7 hown hK.1 hP 0 rfl rfl 8 (by decide) fl_25 (fun _ h9 => h9) rfl dX7_turn_72 ?_
                    refine lv_iload_n hx hb dX7_turn_75 rfl (lv_at hl 0 rfl) ?_
                    refine ild hx hb hK hP 1 rfl (j := z) rfl (by omega) (by decide) dX7_turn_76 ?_
                    refine lv_icmp_ge (tgt := 97) hx hb dX7_turn_77 (by decide) (fun c_7 => ?_) (fun c_7 => ?_)
                    ·
                      have c_7b := Int32.not_lt.mpr c_7
                      refine lv_iinc (v := nI (z + 1)) (lv' := [(3, .int (nI (z + 1))), (2, .int (xrF pu n)), (0, .ref m0), (1, .int what)]) hx hb dX7_turn_97 hl (k := 0) rfl (nI_inc z) (by decide) rfl (fun ls hl => ?_)
                      refine lv_goto (tgt := 51) hx hb dX7_turn_100 (by decide) ?_
                      exact ih51 (z + 1) (by omega) (tuF_miss hq (Int32.not_lt.mpr c_7)) (by omega) ls (lv_sub hl [0, 1, 2, 3] rfl)
                    ·
                      have c_7b := Int32.not_le.mp c_7
                      refine lv_iload_n hx hb dX7_turn_80 rfl (lv_at hl 3 rfl) ?_
                      refine lv_if_ne (tgt := 88) hx hb dX7_turn_81 (by decide) (fun c_8 => ?_) (fun c_8 => ?_)
                      ·
                        refine lv_aload_n hx hb dX7_turn_88 rfl (lv_at hl 2 rfl) ?_
                        refine va_get (D := E.1) (ci := 7) (v := .ref y2) (C := RX7) (T := TX7) (N := 23) hx hb hts hinX7 hown hK.1 hP 0 rfl rfl 8 (by decide) fl_25 (fun _ h9 => h9) rfl dX7_turn_89 ?_
                        refine lv_iload_n hx hb dX7_turn_92 rfl (lv_at hl 0 rfl) ?_
                        refine ild hx hb hK hP 1 rfl (j := z) rfl (by omega) (by decide) dX7_turn_93 ?_
                        refine lv_iload_n hx hb dX7_turn_94 rfl (lv_at hl 1 rfl) ?_
                        refine lv_ixor hx hb dX7_turn_95 ?_
                        exact hret _ _ _ dX7_turn_96 (by rw [spTurn, if_neg c_2.1, if_neg (not_not_intro (Int32.not_lt.mp c_2.2)), if_neg (by omega), tuF_hit hq (Int32.not_le.mp c_7) n (by omega)]; simp [c_8])
                      ·
                        refine lv_iload_n hx hb dX7_turn_84 rfl (lv_at hl 0 rfl) ?_
                        refine lv_goto (tgt := 96) hx hb dX7_turn_85 (by decide) ?_
                        exact hret _ _ _ dX7_turn_96 (by rw [spTurn, if_neg c_2.1, if_neg (not_not_intro (Int32.not_lt.mp c_2.2)), if_neg (by omega), tuF_hit hq (Int32.not_le.mp c_7) n (by omega)]; simp [c_8])
            exact L51 _ 0 (by omega) rfl (Nat.lt_succ_self _) ls (lv_sub hl [0, 1, 2, 3] rfl)
          ·
            refine lv_iload_n hx hb dX7_turn_34 rfl (lv_at hl 1 rfl) ?_
            refine lv_aload_n hx hb dX7_turn_35 rfl (lv_at hl 2 rfl) ?_
            refine va_get (D := E.1) (ci := 7) (v := .ref y2) (C := RX7) (T := TX7) (N := 23) hx hb hts hinX7 hown hK.1 hP 0 rfl rfl 8 (by decide) fl_25 (fun _ h9 => h9) rfl dX7_turn_36 ?_
            refine lv_iload_n hx hb dX7_turn_39 rfl (lv_at hl 0 rfl) ?_
            refine ild hx hb hK hP 1 rfl (j := k) rfl (by omega) (by decide) dX7_turn_40 ?_
            refine lv_ixor hx hb dX7_turn_41 ?_
            refine lv_istore_n (lv' := [(2, .int ((xrF pu k) ^^^ (pu k))), (3, .int (nI k)), (0, .ref m0), (1, .int what)]) hx hb dX7_turn_42 rfl hl (by decide) rfl (fun ls hl => ?_)
            refine lv_iinc (v := nI (k + 1)) (lv' := [(3, .int (nI (k + 1))), (2, .int ((xrF pu k) ^^^ (pu k))), (0, .ref m0), (1, .int what)]) hx hb dX7_turn_43 hl (k := 1) rfl (nI_inc k) (by decide) rfl (fun ls hl => ?_)
            refine lv_goto (tgt := 26) hx hb dX7_turn_46 (by decide) ?_
            exact ih26 (k + 1) (by omega) (by omega) ls (lv_sub hl [0, 1, 2, 3] rfl)
      exact L26 _ 0 (by omega) (Nat.lt_succ_self _) ls (lv_sub hl [0, 1, 2, 3] rfl)
    ·
      refine lv_bipush (v := (-3)) hx hb dX7_turn_19 (by decide) ?_
      exact hret _ _ _ dX7_turn_21 (by rw [spTurn, if_neg c_2.1, if_neg (not_not_intro (Int32.not_lt.mp c_2.2)), if_pos (by omega)])
  ·
    refine lv_bipush (v := (-2)) hx hb dX7_turn_9 (by decide) ?_
    exact hret _ _ _ dX7_turn_11 (by rw [spTurn, wi_no c_2])
set_option maxHeartbeats 4000000 in
set_option maxRecDepth 100000 in
theorem c_X7_reading (l : Launch) (E : gE) (sz : Nat) (m0 : Nat) (lf : Int32) (tr : Int32) (z0 : Nat) (z1 : Nat) (z2 : Nat) (n : Nat) (y0 : Nat) (y1 : Nat) (y2 : Nat) (at_ : Int32) (rwi : Int32) (y3 : Nat) (y4 : Nat) (sl : Int32) (cr : Int32) (gr : Int32) (y5 : Nat) (y6 : Nat) (rc : Nat) (x0 : Nat) (x1 : Nat) (x2 : Nat) (x3 : Nat) (rs : Nat → Int32) (rw : Nat → Int32) (rf : Nat → Int32) (v : Int32) (w : Int32) (fg : Int32) (hrc : rc ≤ 8) : Met l yX7_reading wsX7_reading ({ frames := 1, cells := 0, slots := 0, locals := 22 }) (PW E [.ref m0, .int v, .int w, .int fg] [ob m0 7 [.int lf, .int tr, .ref z0, .ref z1, .ref z2, .int (nI n), .ref y0, .ref y1, .ref y2, .int at_, .int rwi, .ref y3, .ref y4, .int sl, .int cr, .int gr, .ref y5, .ref y6, .int (nI rc), .ref x0, .ref x1, .ref x2, .ref x3], ar E x0 8 rs, ar E x1 8 rw, ar E x2 8 rf] sz) (QWi E (fun r _ => r = spReading n rc v w fg) (fun (_ : Unit) => [ob m0 7 [.int lf, .int tr, .ref z0, .ref z1, .ref z2, .int (nI n), .ref y0, .ref y1, .ref y2, .int at_, .int rwi, .ref y3, .ref y4, .int sl, .int cr, .int gr, .ref y5, .ref y6, .int (nI (if rdOk n v w fg ∧ rc < 8 then rc + 1 else rc)), .ref x0, .ref x1, .ref x2, .ref x3], ar E x0 8 (if rdOk n v w fg then upd rs rc v else rs), ar E x1 8 (if rdOk n v w fg then upd rw rc w else rw), ar E x2 8 (if rdOk n v w fg then upd rf rc fg else rf)]) (va_A [ob m0 7 [.int lf, .int tr, .ref z0, .ref z1, .ref z2, .int (nI n), .ref y0, .ref y1, .ref y2, .int at_, .int rwi, .ref y3, .ref y4, .int sl, .int cr, .int gr, .ref y5, .ref y6, .int (nI rc), .ref x0, .ref x1, .ref x2, .ref x3], ar E x0 8 rs, ar E x1 8 rw, ar E x2 8 rf] sz)) 0 0 (va_A [ob m0 7 [.int lf, .int tr, .ref z0, .ref z1, .ref z2, .int (nI n), .ref y0, .ref y1, .ref y2, .int at_, .int rwi, .ref y3, .ref y4, .int sl, .int cr, .int gr, .ref y5, .ref y6, .int (nI rc), .ref x0, .ref x1, .ref x2, .ref x3], ar E x0 8 rs, ar E x1 8 rw, ar E x2 8 rf] sz) := by
  refine mkWi (cc := cX7_reading) (maxL := 4) (by decide) rfl (Nat.le_of_ble_eq_true rfl) ?_
  intro p e s m args below meth c QQ A hx hb hml hown hmn hts hK hA hP hD hS hret ls hl
  have hown : s.vm.findClass RX7 = some m.cls := hown
  have hl : lv_has ls 4 [(0, .ref m0), (1, .int v), (2, .int w), (3, .int fg)] := hl
  have hinX7 : ∀ w ∈ wsX70, w ∈ wsX7_reading := by decide +kernel
  have fl_40 := hts (.fieldLink RX7 40 "GuardAbacusModel" "readSum" "[I") (by decide +kernel)
  have fl_43 := hts (.fieldLink RX7 43 "GuardAbacusModel" "readOn" "[I") (by decide +kernel)
  have fl_46 := hts (.fieldLink RX7 46 "GuardAbacusModel" "readFigure" "[I") (by decide +kernel)
  have fl_89 := hts (.fieldLink RX7 89 "GuardAbacusModel" "readings" "I") (by decide +kernel)
  refine lv_aload_n hx hb dX7_reading_0 rfl (lv_at hl 0 rfl) ?_
  refine lv_iload_n hx hb dX7_reading_1 rfl (lv_at hl 2 rfl) ?_
  refine crV (As := [.int w]) (rest := []) ⟨hx, hb, hml, hown, hts⟩ (c_X7_isWire l E m0 lf tr z0 z1 z2 n y0 y1 y2 at_ rwi y3 y4 sl cr gr y5 y6 rc x0 x1 x2 x3 w) (cwV 1 hts gX7_reading_X7_isWire rfl rfl rfl (by decide +kernel) ⟨Nat.le_of_ble_eq_true rfl, Nat.le_of_ble_eq_true rfl⟩) hK hP [0] rfl 0 rfl rfl rfl rfl hl.1 rfl (catLe (Nat.le_of_ble_eq_true rfl)) dX7_reading_2 ⟨Nat.zero_le _, Nat.zero_le _⟩ (fun r_1 hr_1 => ?_)
  subst hr_1
  refine ifB_ne (P := hasP n w) (tgt := 10) hx hb dX7_reading_5 (by decide) (fun c_2 => ?_) (fun c_2 => ?_)
  ·
    refine lv_iload_n hx hb dX7_reading_10 rfl (lv_at hl 1 rfl) ?_
    refine lv_iconst (v := 0) hx hb dX7_reading_11 (by decide) ?_
    refine lv_sipush (v := 999) hx hb dX7_reading_12 (by decide) ?_
    refine crS (As := [.int v, .int 0, .int 999]) (rest := []) ⟨hx, hb, hml, hown, hts⟩ (c_X7_within l E v 0 999) (va_cwS 3 hts gX7_reading_X7_within rfl rfl rfl (by decide +kernel) ⟨Nat.le_of_ble_eq_true rfl, Nat.le_of_ble_eq_true rfl⟩) hK hP [] rfl rfl hl.1 rfl (catLe (Nat.le_of_ble_eq_true rfl)) dX7_reading_15 ⟨Nat.zero_le _, Nat.zero_le _⟩ (fun r_3 hr_3 => ?_)
    subst hr_3
    refine ifB_eq (P := wiP v 0 999) (tgt := 31) hx hb dX7_reading_18 (by decide) (fun c_4 => ?_) (fun c_4 => ?_)
    ·
      refine lv_bipush (v := (-2)) hx hb dX7_reading_31 (by decide) ?_
      have hk : ¬ rdOk n v w fg := fun h => c_4 ⟨fun q => h.2 (Or.inl q), fun q => h.2 (Or.inr (Or.inl q))⟩
      exact hret _ _ _ _ _ () dX7_reading_33 hS (by rw [if_neg (fun h => hk h.1), if_neg hk, if_neg hk, if_neg hk]; exact hP) (by rw [spReading, if_neg (not_not_intro c_2), if_pos (Decidable.of_not_not (fun h => hk ⟨c_2, h⟩))])
    ·
      refine lv_iload_n hx hb dX7_reading_21 rfl (lv_at hl 3 rfl) ?_
      refine lv_iconst (v := 0) hx hb dX7_reading_22 (by decide) ?_
      refine lv_bipush (v := 18) hx hb dX7_reading_23 (by decide) ?_
      refine crS (As := [.int fg, .int 0, .int 18]) (rest := []) ⟨hx, hb, hml, hown, hts⟩ (c_X7_within l E fg 0 18) (va_cwS 3 hts gX7_reading_X7_within rfl rfl rfl (by decide +kernel) ⟨Nat.le_of_ble_eq_true rfl, Nat.le_of_ble_eq_true rfl⟩) hK hP [] rfl rfl hl.1 rfl (catLe (Nat.le_of_ble_eq_true rfl)) dX7_reading_25 ⟨Nat.zero_le _, Nat.zero_le _⟩ (fun r_5 hr_5 => ?_)
      subst hr_5
      refine ifB_ne (P := wiP fg 0 18) (tgt := 34) hx hb dX7_reading_28 (by decide) (fun c_6 => ?_) (fun c_6 => ?_)
      ·
        refine lv_aload_n hx hb dX7_reading_34 rfl (lv_at hl 0 rfl) ?_
        refine va_get (D := E.1) (ci := 7) (v := .int (nI rc)) (C := RX7) (T := TX7) (N := 23) hx hb hts hinX7 hown hK.1 hP 0 rfl rfl 18 (by decide) fl_89 (fun _ h9 => h9) rfl dX7_reading_35 ?_
        refine lv_bipush (v := 8) hx hb dX7_reading_38 (by decide) ?_
        refine icmpN_ne (tgt := 46) (a := rc) (b := 8) hx hb rfl rfl (by omega) (by omega) dX7_reading_40 (by decide) (fun c_7 => ?_) (fun c_7 => ?_)
        ·
          refine lv_aload_n hx hb dX7_reading_46 rfl (lv_at hl 0 rfl) ?_
          refine va_get (D := E.1) (ci := 7) (v := .ref x0) (C := RX7) (T := TX7) (N := 23) hx hb hts hinX7 hown hK.1 hP 0 rfl rfl 19 (by decide) fl_40 (fun _ h9 => h9) rfl dX7_reading_47 ?_
          refine lv_aload_n hx hb dX7_reading_50 rfl (lv_at hl 0 rfl) ?_
          refine va_get (D := E.1) (ci := 7) (v := .int (nI rc)) (C := RX7) (T := TX7) (N := 23) hx hb hts hinX7 hown hK.1 hP 0 rfl rfl 18 (by decide) fl_89 (fun _ h9 => h9) rfl dX7_reading_51 ?_
          refine lv_iload_n hx hb dX7_reading_54 rfl (lv_at hl 1 rfl) ?_
          refine ist hx hb hK hP hD hS 1 rfl (j := rc) rfl (by omega) (by decide) dX7_reading_55 (fun H locs hP hD hS => ?_)
          have hP : va_P E.1 vwCl [ob m0 7 [.int lf, .int tr, .ref z0, .ref z1, .ref z2, .int (nI n), .ref y0, .ref y1, .ref y2, .int at_, .int rwi, .ref y3, .ref y4, .int sl, .int cr, .int gr, .ref y5, .ref y6, .int (nI rc), .ref x0, .ref x1, .ref x2, .ref x3], ar E x0 8 (upd rs rc v), ar E x1 8 rw, ar E x2 8 rf] H := hP
          have hD : va_D A [ob m0 7 [.int lf, .int tr, .ref z0, .ref z1, .ref z2, .int (nI n), .ref y0, .ref y1, .ref y2, .int at_, .int rwi, .ref y3, .ref y4, .int sl, .int cr, .int gr, .ref y5, .ref y6, .int (nI rc), .ref x0, .ref x1, .ref x2, .ref x3], ar E x0 8 (upd rs rc v), ar E x1 8 rw, ar E x2 8 rf] := hD
          refine lv_aload_n hx hb dX7_reading_56 rfl (lv_at hl 0 rfl) ?_
          refine va_get (D := E.1) (ci := 7) (v := .ref x1) (C := RX7) (T := TX7) (N := 23) hx hb hts hinX7 hown hK.1 hP 0 rfl rfl 20 (by decide) fl_43 (fun _ h9 => h9) rfl dX7_reading_57 ?_
          refine lv_aload_n hx hb dX7_reading_60 rfl (lv_at hl 0 rfl) ?_
          refine va_get (D := E.1) (ci := 7) (v := .int (nI rc)) (C := RX7) (T := TX7) (N := 23) hx hb hts hinX7 hown hK.1 hP 0 rfl rfl 18 (by decide) fl_89 (fun _ h9 => h9) rfl dX7_reading_61 ?_
          refine lv_iload_n hx hb dX7_reading_64 rfl (lv_at hl 2 rfl) ?_
          refine ist hx hb hK hP hD hS 2 rfl (j := rc) rfl (by omega) (by decide) dX7_reading_65 (fun H locs hP hD hS => ?_)
          have hP : va_P E.1 vwCl [ob m0 7 [.int lf, .int tr, .ref z0, .ref z1, .ref z2, .int (nI n), .ref y0, .ref y1, .ref y2, .int at_, .int rwi, .ref y3, .ref y4, .int sl, .int cr, .int gr, .ref y5, .ref y6, .int (nI rc), .ref x0, .ref x1, .ref x2, .ref x3], ar E x0 8 (upd rs rc v), ar E x1 8 (upd rw rc w), ar E x2 8 rf] H := hP
          have hD : va_D A [ob m0 7 [.int lf, .int tr, .ref z0, .ref z1, .ref z2, .int (nI n), .ref y0, .ref y1, .ref y2, .int at_, .int rwi, .ref y3, .ref y4, .int sl, .int cr, .int gr, .ref y5, .ref y6, .int (nI rc), .ref x0, .ref x1, .ref x2, .ref x3], ar E x0 8 (upd rs rc v), ar E x1 8 (upd rw rc w), ar E x2 8 rf] := hD
          refine lv_aload_n hx hb dX7_reading_66 rfl (lv_at hl 0 rfl) ?_
          refine va_get (D := E.1) (ci := 7) (v := .ref x2) (C := RX7) (T := TX7) (N := 23) hx hb hts hinX7 hown hK.1 hP 0 rfl rfl 21 (by decide) fl_46 (fun _ h9 => h9) rfl dX7_reading_67 ?_
          refine lv_aload_n hx hb dX7_reading_70 rfl (lv_at hl 0 rfl) ?_
          refine va_get (D := E.1) (ci := 7) (v := .int (nI rc)) (C := RX7) (T := TX7) (N := 23) hx hb hts hinX7 hown hK.1 hP 0 rfl rfl 18 (by decide) fl_89 (fun _ h9 => h9) rfl dX7_reading_71 ?_
          refine lv_iload_n hx hb dX7_reading_74 rfl (lv_at hl 3 rfl) ?_
          refine ist hx hb hK hP hD hS 3 rfl (j := rc) rfl (by omega) (by decide) dX7_reading_75 (fun H locs hP hD hS => ?_)
          have hP : va_P E.1 vwCl [ob m0 7 [.int lf, .int tr, .ref z0, .ref z1, .ref z2, .int (nI n), .ref y0, .ref y1, .ref y2, .int at_, .int rwi, .ref y3, .ref y4, .int sl, .int cr, .int gr, .ref y5, .ref y6, .int (nI rc), .ref x0, .ref x1, .ref x2, .ref x3], ar E x0 8 (upd rs rc v), ar E x1 8 (upd rw rc w), ar E x2 8 (upd rf rc fg)] H := hP
          have hD : va_D A [ob m0 7 [.int lf, .int tr, .ref z0, .ref z1, .ref z2, .int (nI n), .ref y0, .ref y1, .ref y2, .int at_, .int rwi, .ref y3, .ref y4, .int sl, .int cr, .int gr, .ref y5, .ref y6, .int (nI rc), .ref x0, .ref x1, .ref x2, .ref x3], ar E x0 8 (upd rs rc v), ar E x1 8 (upd rw rc w), ar E x2 8 (upd rf rc fg)] := hD
          refine lv_aload_n hx hb dX7_reading_76 rfl (lv_at hl 0 rfl) ?_
          refine lv_dup hx hb dX7_reading_77 rfl ?_
          refine va_get (D := E.1) (ci := 7) (v := .int (nI rc)) (C := RX7) (T := TX7) (N := 23) hx hb hts hinX7 hown hK.1 hP 0 rfl rfl 18 (by decide) fl_89 (fun _ h9 => h9) rfl dX7_reading_78 ?_
          refine lv_iconst (v := 1) hx hb dX7_reading_81 (by decide) ?_
          refine N_iadd (a := rc) (b := 1) hx hb rfl rfl dX7_reading_82 ?_
          refine va_put (D := E.1) (ci := 7) (v := .int (nI (rc + 1))) (ty := .int) (C := RX7) (T := TX7) (N := 23) hx hb hts hinX7 tyX7 tyX7_ok nmX7 hown hK.1 hP hD hS 0 rfl rfl 18 (by decide) fl_89 (fun _ h9 => h9) rfl (by decide +kernel) rfl rfl (Nat.le_of_ble_eq_true rfl) dX7_reading_83 (fun H locs hP hD hS => ?_)
          have hP : va_P E.1 vwCl [ob m0 7 [.int lf, .int tr, .ref z0, .ref z1, .ref z2, .int (nI n), .ref y0, .ref y1, .ref y2, .int at_, .int rwi, .ref y3, .ref y4, .int sl, .int cr, .int gr, .ref y5, .ref y6, .int (nI (rc + 1)), .ref x0, .ref x1, .ref x2, .ref x3], ar E x0 8 (upd rs rc v), ar E x1 8 (upd rw rc w), ar E x2 8 (upd rf rc fg)] H := hP
          have hD : va_D A [ob m0 7 [.int lf, .int tr, .ref z0, .ref z1, .ref z2, .int (nI n), .ref y0, .ref y1, .ref y2, .int at_, .int rwi, .ref y3, .ref y4, .int sl, .int cr, .int gr, .ref y5, .ref y6, .int (nI (rc + 1)), .ref x0, .ref x1, .ref x2, .ref x3], ar E x0 8 (upd rs rc v), ar E x1 8 (upd rw rc w), ar E x2 8 (upd rf rc fg)] := hD
          refine lv_aload_n hx hb dX7_reading_86 rfl (lv_at hl 0 rfl) ?_
          refine va_get (D := E.1) (ci := 7) (v := .int (nI (rc + 1))) (C := RX7) (T := TX7) (N := 23) hx hb hts hinX7 hown hK.1 hP 0 rfl rfl 18 (by decide) fl_89 (fun _ h9 => h9) rfl dX7_reading_87 ?_
          refine lv_iconst (v := 1) hx hb dX7_reading_90 (by decide) ?_
          refine lv_isub hx hb dX7_reading_91 ?_
          have hk : rdOk n v w fg := ⟨c_2, fun h => h.elim c_4.1 (fun h => h.elim c_4.2 (fun h => h.elim c_6.1 (fun h => h (Int32.not_lt.mp c_6.2))))⟩
          exact hret _ _ _ _ _ () dX7_reading_92 hS (by rw [if_pos ⟨hk, by omega⟩, if_pos hk, if_pos hk, if_pos hk]; exact hP) (by rw [spReading, if_neg (not_not_intro c_2), if_neg hk.2, if_pos (by omega), nI_pred])
        ·
          refine lv_bipush (v := (-4)) hx hb dX7_reading_43 (by decide) ?_
          have hk : rdOk n v w fg := ⟨c_2, fun h => h.elim c_4.1 (fun h => h.elim c_4.2 (fun h => h.elim c_6.1 (fun h => h (Int32.not_lt.mp c_6.2))))⟩
          have hP := va_P_ar hP 1 x0 8 (g := upd rs rc v) rfl (upd_far rs v (by omega))
          have hP := va_P_ar hP 2 x1 8 (g := upd rw rc w) rfl (upd_far rw w (by omega))
          have hP := va_P_ar hP 3 x2 8 (g := upd rf rc fg) rfl (upd_far rf fg (by omega))
          exact hret _ _ _ _ _ () dX7_reading_45 hS (by rw [if_neg (fun h => by have := h.2; omega), if_pos hk, if_pos hk, if_pos hk]; exact hP) (by rw [spReading, if_neg (not_not_intro c_2), if_neg hk.2, if_neg (by omega)])
      ·
        refine lv_bipush (v := (-2)) hx hb dX7_reading_31 (by decide) ?_
        have hk : ¬ rdOk n v w fg := fun h => c_6 ⟨fun q => h.2 (Or.inr (Or.inr (Or.inl q))), fun q => h.2 (Or.inr (Or.inr (Or.inr (Int32.not_le.mpr q))))⟩
        exact hret _ _ _ _ _ () dX7_reading_33 hS (by rw [if_neg (fun h => hk h.1), if_neg hk, if_neg hk, if_neg hk]; exact hP) (by rw [spReading, if_neg (not_not_intro c_2), if_pos (Decidable.of_not_not (fun h => hk ⟨c_2, h⟩))])
  ·
    refine lv_iconst (v := (-1)) hx hb dX7_reading_8 (by decide) ?_
    have hk : ¬ rdOk n v w fg := fun h => c_2 h.1
    exact hret _ _ _ _ _ () dX7_reading_9 hS (by rw [if_neg (fun h => hk h.1), if_neg hk, if_neg hk, if_neg hk]; exact hP) (by rw [spReading, if_pos c_2])
set_option maxHeartbeats 4000000 in
set_option maxRecDepth 100000 in
theorem c_X7_back (l : Launch) (E : gE) (sz : Nat) (m0 : Nat) (lf : Int32) (tr : Int32) (z0 : Nat) (z1 : Nat) (z2 : Nat) (n : Nat) (y0 : Nat) (y1 : Nat) (y2 : Nat) (at_ : Int32) (rwi : Int32) (y3 : Nat) (y4 : Nat) (sl : Int32) (cr : Int32) (gr : Int32) (y5 : Nat) (y6 : Nat) (rc : Nat) (x0 : Nat) (x1 : Nat) (x2 : Nat) (x3 : Nat) (x : Int32) (hrc : rc ≤ 8) : Met l yX7_back wsX7_back ({ frames := 1, cells := 0, slots := 0, locals := 22 }) (PW E [.ref m0, .int x] [ob m0 7 [.int lf, .int tr, .ref z0, .ref z1, .ref z2, .int (nI n), .ref y0, .ref y1, .ref y2, .int at_, .int rwi, .ref y3, .ref y4, .int sl, .int cr, .int gr, .ref y5, .ref y6, .int (nI rc), .ref x0, .ref x1, .ref x2, .ref x3]] sz) (QWi E (fun r _ => r = spBack rc x) (fun (_ : Unit) => [ob m0 7 [.int lf, .int tr, .ref z0, .ref z1, .ref z2, .int (nI n), .ref y0, .ref y1, .ref y2, .int at_, .int rwi, .ref y3, .ref y4, .int sl, .int cr, .int gr, .ref y5, .ref y6, .int (nI (spBackC rc x)), .ref x0, .ref x1, .ref x2, .ref x3]]) (va_A [ob m0 7 [.int lf, .int tr, .ref z0, .ref z1, .ref z2, .int (nI n), .ref y0, .ref y1, .ref y2, .int at_, .int rwi, .ref y3, .ref y4, .int sl, .int cr, .int gr, .ref y5, .ref y6, .int (nI rc), .ref x0, .ref x1, .ref x2, .ref x3]] sz)) 0 0 (va_A [ob m0 7 [.int lf, .int tr, .ref z0, .ref z1, .ref z2, .int (nI n), .ref y0, .ref y1, .ref y2, .int at_, .int rwi, .ref y3, .ref y4, .int sl, .int cr, .int gr, .ref y5, .ref y6, .int (nI rc), .ref x0, .ref x1, .ref x2, .ref x3]] sz) := by
  refine mkWi (cc := cX7_back) (maxL := 2) (by decide) rfl (Nat.le_of_ble_eq_true rfl) ?_
  intro p e s m args below meth c QQ A hx hb hml hown hmn hts hK hA hP hD hS hret ls hl
  have hown : s.vm.findClass RX7 = some m.cls := hown
  have hl : lv_has ls 2 [(0, .ref m0), (1, .int x)] := hl
  have hinX7 : ∀ w ∈ wsX70, w ∈ wsX7_back := by decide +kernel
  have fl_89 := hts (.fieldLink RX7 89 "GuardAbacusModel" "readings" "I") (by decide +kernel)
  refine lv_iload_n hx hb dX7_back_0 rfl (lv_at hl 1 rfl) ?_
  refine lv_iconst (v := 0) hx hb dX7_back_1 (by decide) ?_
  refine lv_aload_n hx hb dX7_back_2 rfl (lv_at hl 0 rfl) ?_
  refine va_get (D := E.1) (ci := 7) (v := .int (nI rc)) (C := RX7) (T := TX7) (N := 23) hx hb hts hinX7 hown hK.1 hP 0 rfl rfl 18 (by decide) fl_89 (fun _ h9 => h9) rfl dX7_back_3 ?_
  refine crS (As := [.int x, .int 0, .int (nI rc)]) (rest := []) ⟨hx, hb, hml, hown, hts⟩ (c_X7_within l E x 0 (nI rc)) (va_cwS 3 hts gX7_back_X7_within rfl rfl rfl (by decide +kernel) ⟨Nat.le_of_ble_eq_true rfl, Nat.le_of_ble_eq_true rfl⟩) hK hP [] rfl rfl hl.1 rfl (catLe (Nat.le_of_ble_eq_true rfl)) dX7_back_6 ⟨Nat.zero_le _, Nat.zero_le _⟩ (fun r_1 hr_1 => ?_)
  subst hr_1
  refine ifB_ne (P := wiP x 0 (nI rc)) (tgt := 15) hx hb dX7_back_9 (by decide) (fun c_2 => ?_) (fun c_2 => ?_)
  ·
    obtain ⟨y, hy, rfl⟩ := nI_of2 (n := rc) (nI_toInt (by omega)) c_2.1 (Int32.not_lt.mp c_2.2)
    have hix_y : ix (nI y) = y := ix_nI (by omega)
    have eC : spBackC rc (nI y) = rc - y := by rw [spBackC, if_neg c_2.1, if_neg (not_not_intro (Int32.not_lt.mp c_2.2)), hix_y]
    have eB : spBack rc (nI y) = nI (rc - y) := by rw [spBack, if_neg c_2.1, if_neg (not_not_intro (Int32.not_lt.mp c_2.2)), hix_y]
    refine lv_aload_n hx hb dX7_back_15 rfl (lv_at hl 0 rfl) ?_
    refine lv_dup hx hb dX7_back_16 rfl ?_
    refine va_get (D := E.1) (ci := 7) (v := .int (nI rc)) (C := RX7) (T := TX7) (N := 23) hx hb hts hinX7 hown hK.1 hP 0 rfl rfl 18 (by decide) fl_89 (fun _ h9 => h9) rfl dX7_back_17 ?_
    refine lv_iload_n hx hb dX7_back_20 rfl (lv_at hl 1 rfl) ?_
    refine N_isub (a := rc) (b := y) hx hb rfl rfl (by omega) dX7_back_21 ?_
    refine va_put (D := E.1) (ci := 7) (v := .int (nI (rc - y))) (ty := .int) (C := RX7) (T := TX7) (N := 23) hx hb hts hinX7 tyX7 tyX7_ok nmX7 hown hK.1 hP hD hS 0 rfl rfl 18 (by decide) fl_89 (fun _ h9 => h9) rfl (by decide +kernel) rfl rfl (Nat.le_of_ble_eq_true rfl) dX7_back_22 (fun H locs hP hD hS => ?_)
    have hP : va_P E.1 vwCl [ob m0 7 [.int lf, .int tr, .ref z0, .ref z1, .ref z2, .int (nI n), .ref y0, .ref y1, .ref y2, .int at_, .int rwi, .ref y3, .ref y4, .int sl, .int cr, .int gr, .ref y5, .ref y6, .int (nI (rc - y)), .ref x0, .ref x1, .ref x2, .ref x3]] H := hP
    have hD : va_D A [ob m0 7 [.int lf, .int tr, .ref z0, .ref z1, .ref z2, .int (nI n), .ref y0, .ref y1, .ref y2, .int at_, .int rwi, .ref y3, .ref y4, .int sl, .int cr, .int gr, .ref y5, .ref y6, .int (nI (rc - y)), .ref x0, .ref x1, .ref x2, .ref x3]] := hD
    refine lv_aload_n hx hb dX7_back_25 rfl (lv_at hl 0 rfl) ?_
    refine va_get (D := E.1) (ci := 7) (v := .int (nI (rc - y))) (C := RX7) (T := TX7) (N := 23) hx hb hts hinX7 hown hK.1 hP 0 rfl rfl 18 (by decide) fl_89 (fun _ h9 => h9) rfl dX7_back_26 ?_
    exact hret _ _ _ _ _ () dX7_back_29 hS (by rw [eC]; exact hP) eB.symm
  ·
    refine lv_bipush (v := (-2)) hx hb dX7_back_12 (by decide) ?_
    exact hret _ _ _ _ _ () dX7_back_14 hS (by rw [spBackC, wi_no c_2]; exact hP) (by rw [spBack, wi_no c_2])
set_option maxHeartbeats 4000000 in
set_option maxRecDepth 100000 in
theorem c_X7_areSo (l : Launch) (E : gE) (m0 : Nat) (lf : Int32) (tr : Int32) (z0 : Nat) (z1 : Nat) (z2 : Nat) (n : Nat) (y0 : Nat) (y1 : Nat) (y2 : Nat) (at_ : Int32) (rwi : Int32) (y3 : Nat) (y4 : Nat) (sl : Int32) (cr : Int32) (gr : Int32) (y5 : Nat) (y6 : Nat) (rc : Nat) (x0 : Nat) (x1 : Nat) (x2 : Nat) (x3 : Nat) (kd : Nat → Int32) (mn : Nat → Int32) (pu : Nat → Int32) (rs : Nat → Int32) (rw : Nat → Int32) (rf : Nat → Int32) (hFR : FR n kd mn) (hrc : rc ≤ 8) (hrw : rwP n rw rc) : Met l yX7_areSo wsX7_areSo ({ frames := 5, cells := 0, slots := 0, locals := 108 }) (PR E [.ref m0] [ob m0 7 [.int lf, .int tr, .ref z0, .ref z1, .ref z2, .int (nI n), .ref y0, .ref y1, .ref y2, .int at_, .int rwi, .ref y3, .ref y4, .int sl, .int cr, .int gr, .ref y5, .ref y6, .int (nI rc), .ref x0, .ref x1, .ref x2, .ref x3], ar E y0 6 kd, ar E y1 6 mn, ar E y2 6 pu, ar E x0 8 rs, ar E x1 8 rw, ar E x2 8 rf]) (vp_Si (fun r => r = if cbP n kd mn pu rs rw rf rc then 1 else 0)) 0 0 (fun _ => False) := by
  refine mkRz (cc := cX7_areSo) (maxL := 3) (by decide) rfl (Nat.le_of_ble_eq_true rfl) ?_
  intro p e s m args below meth c QQ hx hb hml hown hmn hts hK hP hret ls hl
  have hown : s.vm.findClass RX7 = some m.cls := hown
  have hl : lv_has ls 3 [(0, .ref m0)] := hl
  have hinX7 : ∀ w ∈ wsX70, w ∈ wsX7_areSo := by decide +kernel
  have fl_25 := hts (.fieldLink RX7 25 "GuardAbacusModel" "pushed" "[I") (by decide +kernel)
  have fl_40 := hts (.fieldLink RX7 40 "GuardAbacusModel" "readSum" "[I") (by decide +kernel)
  have fl_43 := hts (.fieldLink RX7 43 "GuardAbacusModel" "readOn" "[I") (by decide +kernel)
  have fl_46 := hts (.fieldLink RX7 46 "GuardAbacusModel" "readFigure" "[I") (by decide +kernel)
  have fl_62 := hts (.fieldLink RX7 62 "GuardAbacusModel" "wires" "I") (by decide +kernel)
  have fl_89 := hts (.fieldLink RX7 89 "GuardAbacusModel" "readings" "I") (by decide +kernel)
  have hn := hFR.1
  refine lv_iconst (v := 0) hx hb dX7_areSo_0 (by decide) ?_
  refine lv_istore_n (lv' := [(1, .int 0), (0, .ref m0)]) hx hb dX7_areSo_1 rfl hl (by decide) rfl (fun ls hl => ?_)
  have L2 : ∀ (fuel : Nat) (k : Nat), (k ≤ n) → (∀ w, w < k → pu w ≤ rmF kd mn w) → (n - k) < fuel → ∀ ls : Array Slot, lv_has ls 3 [(1, .int (nI k)), (0, .ref m0)] → W p l e ({ frames := 5, cells := 0, slots := 0, locals := 108 }) s m args below meth c s.heap [] 0 0 QQ (F0 m 2 ls []) := by
    intro fuel
    induction fuel with
    | zero => intro k hk hro hf; exact absurd hf (Nat.not_lt_zero _)
    | succ fuel ih2 =>
      intro k hk hro hf2 ls hl
      refine lv_iload_n hx hb dX7_areSo_2 rfl (lv_at hl 0 rfl) ?_
      refine lv_aload_n hx hb dX7_areSo_3 rfl (lv_at hl 1 rfl) ?_
      refine va_get (D := E.1) (ci := 7) (v := .int (nI n)) (C := RX7) (T := TX7) (N := 23) hx hb hts hinX7 hown hK.1 hP 0 rfl rfl 5 (by decide) fl_62 (fun _ h9 => h9) rfl dX7_areSo_4 ?_
      refine icmpN_ge (tgt := 32) (a := k) (b := n) hx hb rfl rfl (by omega) (by omega) dX7_areSo_7 (by decide) (fun c_1 => ?_) (fun c_1 => ?_)
      ·
        obtain rfl : n = k := by omega
        refine lv_aload_n hx hb dX7_areSo_32 rfl (lv_at hl 1 rfl) ?_
        refine crV (As := []) (rest := []) ⟨hx, hb, hml, hown, hts⟩ (c_X7_numberNow l E m0 lf tr z0 z1 z2 n y0 y1 y2 at_ rwi y3 y4 sl cr gr y5 y6 rc x0 x1 x2 x3 kd mn pu (by first | assumption | omega)) (cwV 0 hts gX7_areSo_X7_numberNow rfl rfl rfl (by decide +kernel) ⟨Nat.le_of_ble_eq_true rfl, Nat.le_of_ble_eq_true rfl⟩) hK hP [0, 1, 2, 3] rfl 0 rfl rfl rfl rfl hl.1 rfl (catLe (Nat.le_of_ble_eq_true rfl)) dX7_areSo_33 ⟨Nat.zero_le _, Nat.zero_le _⟩ (fun r_2 hr_2 => ?_)
        subst hr_2
        refine lv_istore_n (lv' := [(1, .int (numF pu (woF kd mn) n)), (0, .ref m0)]) hx hb dX7_areSo_36 rfl hl (by decide) rfl (fun ls hl => ?_)
        refine lv_iconst (v := 0) hx hb dX7_areSo_37 (by decide) ?_
        refine lv_istore_n (lv' := [(2, .int 0), (1, .int (numF pu (woF kd mn) n)), (0, .ref m0)]) hx hb dX7_areSo_38 rfl hl (by decide) rfl (fun ls hl => ?_)
        have L39 : ∀ (fuel : Nat) (z : Nat), (z ≤ rc) → (∀ r, r < z → canP n (woF kd mn n - 1) (numF pu (woF kd mn) n) (rs r) ∧ figF ((woF kd mn) (ix (rw r))) ((rmF kd mn) (ix (rw r))) ((numF pu (woF kd mn) n) + rs r) = rf r) → (rc - z) < fuel → ∀ ls : Array Slot, lv_has ls 3 [(2, .int (nI z)), (1, .int (numF pu (woF kd mn) n)), (0, .ref m0)] → W p l e ({ frames := 5, cells := 0, slots := 0, locals := 108 }) s m args below meth c s.heap [] 0 0 QQ (F0 m 39 ls []) := by
          intro fuel
          induction fuel with
          | zero => intro z hz hso hf; exact absurd hf (Nat.not_lt_zero _)
          | succ fuel ih39 =>
            intro z hz hso hf39 ls hl
            refine lv_iload_n hx hb dX7_areSo_39 rfl (lv_at hl 0 rfl) ?_
            refine lv_aload_n hx hb dX7_areSo_40 rfl (lv_at hl 2 rfl) ?_
            refine va_get (D := E.1) (ci := 7) (v := .int (nI rc)) (C := RX7) (T := TX7) (N := 23) hx hb hts hinX7 hown hK.1 hP 0 rfl rfl 18 (by decide) fl_89 (fun _ h9 => h9) rfl dX7_areSo_41 ?_
            refine icmpN_ge (tgt := 95) (a := z) (b := rc) hx hb rfl rfl (by omega) (by omega) dX7_areSo_44 (by decide) (fun c_3 => ?_) (fun c_3 => ?_)
            ·
              obtain rfl : rc = z := by omega
              refine lv_iconst (v := 1) hx hb dX7_areSo_95 (by decide) ?_
              exact hret _ _ _ dX7_areSo_96 rfl (if_pos ⟨hro, hso⟩).symm
            ·
              refine lv_aload_n hx hb dX7_areSo_47 rfl (lv_at hl 2 rfl) ?_
              refine lv_aload_n hx hb dX7_areSo_48 rfl (lv_at hl 2 rfl) ?_
              refine va_get (D := E.1) (ci := 7) (v := .ref x0) (C := RX7) (T := TX7) (N := 23) hx hb hts hinX7 hown hK.1 hP 0 rfl rfl 19 (by decide) fl_40 (fun _ h9 => h9) rfl dX7_areSo_49 ?_
              refine lv_iload_n hx hb dX7_areSo_52 rfl (lv_at hl 0 rfl) ?_
              refine ild hx hb hK hP 4 rfl (j := z) rfl (by omega) (by decide) dX7_areSo_53 ?_
              refine crV (As := [.int (rs z)]) (rest := []) ⟨hx, hb, hml, hown, hts⟩ (c_X7_canAdd l E m0 lf tr z0 z1 z2 n y0 y1 y2 at_ rwi y3 y4 sl cr gr y5 y6 rc x0 x1 x2 x3 kd mn pu (rs z) (by first | assumption | omega)) (cwV 1 hts gX7_areSo_X7_canAdd rfl rfl rfl (by decide +kernel) ⟨Nat.le_of_ble_eq_true rfl, Nat.le_of_ble_eq_true rfl⟩) hK hP [0, 1, 2, 3] rfl 0 rfl rfl rfl rfl hl.1 rfl (catLe (Nat.le_of_ble_eq_true rfl)) dX7_areSo_54 ⟨Nat.zero_le _, Nat.zero_le _⟩ (fun r_4 hr_4 => ?_)
              subst hr_4
              refine ifB_eq (P := ¬ woF kd mn n - 1 - (numF pu (woF kd mn) n) < (rs z)) (tgt := 87) hx hb dX7_areSo_57 (by decide) (fun c_5 => ?_) (fun c_5 => ?_)
              ·
                refine lv_iconst (v := 0) hx hb dX7_areSo_87 (by decide) ?_
                exact hret _ _ _ dX7_areSo_88 rfl (if_neg (fun h => c_5 (h.2 z (by omega)).1.2)).symm
              ·
                refine lv_aload_n hx hb dX7_areSo_60 rfl (lv_at hl 2 rfl) ?_
                refine lv_aload_n hx hb dX7_areSo_61 rfl (lv_at hl 2 rfl) ?_
                refine va_get (D := E.1) (ci := 7) (v := .ref x1) (C := RX7) (T := TX7) (N := 23) hx hb hts hinX7 hown hK.1 hP 0 rfl rfl 20 (by decide) fl_43 (fun _ h9 => h9) rfl dX7_areSo_62 ?_
                refine lv_iload_n hx hb dX7_areSo_65 rfl (lv_at hl 0 rfl) ?_
                refine ild hx hb hK hP 5 rfl (j := z) rfl (by omega) (by decide) dX7_areSo_66 ?_
                refine lv_iload_n hx hb dX7_areSo_67 rfl (lv_at hl 1 rfl) ?_
                refine lv_aload_n hx hb dX7_areSo_68 rfl (lv_at hl 2 rfl) ?_
                refine va_get (D := E.1) (ci := 7) (v := .ref x0) (C := RX7) (T := TX7) (N := 23) hx hb hts hinX7 hown hK.1 hP 0 rfl rfl 19 (by decide) fl_40 (fun _ h9 => h9) rfl dX7_areSo_69 ?_
                refine lv_iload_n hx hb dX7_areSo_72 rfl (lv_at hl 0 rfl) ?_
                refine ild hx hb hK hP 4 rfl (j := z) rfl (by omega) (by decide) dX7_areSo_73 ?_
                refine lv_iadd hx hb dX7_areSo_74 ?_
                refine crV (As := [.int (rw z), .int ((numF pu (woF kd mn) n) + (rs z))]) (rest := []) ⟨hx, hb, hml, hown, hts⟩ (c_X7_figureOf l E m0 lf tr z0 z1 z2 n y0 y1 y2 at_ rwi y3 y4 sl cr gr y5 y6 rc x0 x1 x2 x3 kd mn (rw z) (ix (rw z)) ((numF pu (woF kd mn) n) + (rs z)) (by first | assumption | omega) (hrw z (by omega)).1 (hrw z (by omega)).2) (cwV 2 hts gX7_areSo_X7_figureOf rfl rfl rfl (by decide +kernel) ⟨Nat.le_of_ble_eq_true rfl, Nat.le_of_ble_eq_true rfl⟩) hK hP [0, 1, 2] rfl 0 rfl rfl rfl rfl hl.1 rfl (catLe (Nat.le_of_ble_eq_true rfl)) dX7_areSo_75 ⟨Nat.zero_le _, Nat.zero_le _⟩ (fun r_6 hr_6 => ?_)
                subst hr_6
                refine lv_aload_n hx hb dX7_areSo_78 rfl (lv_at hl 2 rfl) ?_
                refine va_get (D := E.1) (ci := 7) (v := .ref x2) (C := RX7) (T := TX7) (N := 23) hx hb hts hinX7 hown hK.1 hP 0 rfl rfl 21 (by decide) fl_46 (fun _ h9 => h9) rfl dX7_areSo_79 ?_
                refine lv_iload_n hx hb dX7_areSo_82 rfl (lv_at hl 0 rfl) ?_
                refine ild hx hb hK hP 6 rfl (j := z) rfl (by omega) (by decide) dX7_areSo_83 ?_
                refine lv_icmp_eq (tgt := 89) hx hb dX7_areSo_84 (by decide) (fun c_7 => ?_) (fun c_7 => ?_)
                ·
                  refine lv_iinc (v := nI (z + 1)) (lv' := [(2, .int (nI (z + 1))), (1, .int (numF pu (woF kd mn) n)), (0, .ref m0)]) hx hb dX7_areSo_89 hl (k := 0) rfl (nI_inc z) (by decide) rfl (fun ls hl => ?_)
                  refine lv_goto (tgt := 39) hx hb dX7_areSo_92 (by decide) ?_
                  exact ih39 (z + 1) (by omega) (lt_s hso ⟨⟨Nat.lt_of_le_of_lt (Nat.zero_le _) (hrw z (by omega)).1, c_5⟩, c_7⟩) (by omega) ls (lv_sub hl [0, 1, 2] rfl)
                ·
                  refine lv_iconst (v := 0) hx hb dX7_areSo_87 (by decide) ?_
                  exact hret _ _ _ dX7_areSo_88 rfl (if_neg (fun h => c_7 (h.2 z (by omega)).2)).symm
        exact L39 _ 0 (by omega) (fun w h => absurd h (Nat.not_lt_zero w)) (Nat.lt_succ_self _) ls (lv_sub hl [0, 1, 2] rfl)
      ·
        refine lv_aload_n hx hb dX7_areSo_10 rfl (lv_at hl 1 rfl) ?_
        refine va_get (D := E.1) (ci := 7) (v := .ref y2) (C := RX7) (T := TX7) (N := 23) hx hb hts hinX7 hown hK.1 hP 0 rfl rfl 8 (by decide) fl_25 (fun _ h9 => h9) rfl dX7_areSo_11 ?_
        refine lv_iload_n hx hb dX7_areSo_14 rfl (lv_at hl 0 rfl) ?_
        refine ild hx hb hK hP 3 rfl (j := k) rfl (by omega) (by decide) dX7_areSo_15 ?_
        refine lv_aload_n hx hb dX7_areSo_16 rfl (lv_at hl 1 rfl) ?_
        refine lv_iload_n hx hb dX7_areSo_17 rfl (lv_at hl 0 rfl) ?_
        refine crV (As := [.int (nI k)]) (rest := [.int (pu k)]) ⟨hx, hb, hml, hown, hts⟩ (c_X7_roomOf l E m0 lf tr z0 z1 z2 n y0 y1 y2 at_ rwi y3 y4 sl cr gr y5 y6 rc x0 x1 x2 x3 kd mn (nI k) k (by first | assumption | omega) (by first | assumption | omega) rfl) (cwV 1 hts gX7_areSo_X7_roomOf rfl rfl rfl (by decide +kernel) ⟨Nat.le_of_ble_eq_true rfl, Nat.le_of_ble_eq_true rfl⟩) hK hP [0, 1, 2] rfl 0 rfl rfl rfl rfl hl.1 rfl (catLe (Nat.le_of_ble_eq_true rfl)) dX7_areSo_18 ⟨Nat.zero_le _, Nat.zero_le _⟩ (fun r_8 hr_8 => ?_)
        subst hr_8
        refine lv_icmp_le (tgt := 26) hx hb dX7_areSo_21 (by decide) (fun c_9 => ?_) (fun c_9 => ?_)
        ·
          have c_9b := Int32.not_lt.mpr c_9
          refine lv_iinc (v := nI (k + 1)) (lv' := [(1, .int (nI (k + 1))), (0, .ref m0)]) hx hb dX7_areSo_26 hl (k := 0) rfl (nI_inc k) (by decide) rfl (fun ls hl => ?_)
          refine lv_goto (tgt := 2) hx hb dX7_areSo_29 (by decide) ?_
          exact ih2 (k + 1) (by omega) (lt_s hro c_9) (by omega) ls (lv_sub hl [0, 1] rfl)
        ·
          have c_9b := Int32.not_le.mp c_9
          refine lv_iconst (v := 0) hx hb dX7_areSo_24 (by decide) ?_
          exact hret _ _ _ dX7_areSo_25 rfl (if_neg (fun h => c_9 (h.1 k (by omega)))).symm
  exact L2 _ 0 (by omega) (fun w h => absurd h (Nat.not_lt_zero w)) (Nat.lt_succ_self _) ls (lv_sub hl [0, 1] rfl)
set_option maxHeartbeats 4000000 in
set_option maxRecDepth 100000 in
theorem c_X7_mens (l : Launch) (E : gE) (sz : Nat) (m0 : Nat) (lf : Int32) (tr : Int32) (z0 : Nat) (z1 : Nat) (z2 : Nat) (n : Nat) (y0 : Nat) (y1 : Nat) (y2 : Nat) (at_ : Int32) (rwi : Int32) (y3 : Nat) (y4 : Nat) (sl : Int32) (cr : Int32) (gr : Int32) (y5 : Nat) (y6 : Nat) (rc : Nat) (x0 : Nat) (x1 : Nat) (x2 : Nat) (x3 : Nat) (kd : Nat → Int32) (mn : Nat → Int32) (pu : Nat → Int32) (rs : Nat → Int32) (rw : Nat → Int32) (rf : Nat → Int32) (w : Int32) (hFR : FR n kd mn) (hrc : rc ≤ 8) (hrw : rwP n rw rc) : Met l yX7_mens wsX7_mens ({ frames := 6, cells := 0, slots := 0, locals := 130 }) (PW E [.ref m0, .int w] [ob m0 7 [.int lf, .int tr, .ref z0, .ref z1, .ref z2, .int (nI n), .ref y0, .ref y1, .ref y2, .int at_, .int rwi, .ref y3, .ref y4, .int sl, .int cr, .int gr, .ref y5, .ref y6, .int (nI rc), .ref x0, .ref x1, .ref x2, .ref x3], ar E y0 6 kd, ar E y1 6 mn, ar E y2 6 pu, ar E x0 8 rs, ar E x1 8 rw, ar E x2 8 rf] sz) (QWi E (fun r _ => r = spMens n kd mn pu rs rw rf rc w) (fun (_ : Unit) => [ob m0 7 [.int lf, .int tr, .ref z0, .ref z1, .ref z2, .int (nI n), .ref y0, .ref y1, .ref y2, .int at_, .int rwi, .ref y3, .ref y4, .int sl, .int cr, .int gr, .ref y5, .ref y6, .int (nI rc), .ref x0, .ref x1, .ref x2, .ref x3], ar E y0 6 kd, ar E y1 6 mn, ar E y2 6 pu, ar E x0 8 rs, ar E x1 8 rw, ar E x2 8 rf]) (va_A [ob m0 7 [.int lf, .int tr, .ref z0, .ref z1, .ref z2, .int (nI n), .ref y0, .ref y1, .ref y2, .int at_, .int rwi, .ref y3, .ref y4, .int sl, .int cr, .int gr, .ref y5, .ref y6, .int (nI rc), .ref x0, .ref x1, .ref x2, .ref x3], ar E y0 6 kd, ar E y1 6 mn, ar E y2 6 pu, ar E x0 8 rs, ar E x1 8 rw, ar E x2 8 rf] sz)) 0 0 (va_A [ob m0 7 [.int lf, .int tr, .ref z0, .ref z1, .ref z2, .int (nI n), .ref y0, .ref y1, .ref y2, .int at_, .int rwi, .ref y3, .ref y4, .int sl, .int cr, .int gr, .ref y5, .ref y6, .int (nI rc), .ref x0, .ref x1, .ref x2, .ref x3], ar E y0 6 kd, ar E y1 6 mn, ar E y2 6 pu, ar E x0 8 rs, ar E x1 8 rw, ar E x2 8 rf] sz) := by
  refine mkWi (cc := cX7_mens) (maxL := 5) (by decide) rfl (Nat.le_of_ble_eq_true rfl) ?_
  intro p e s m args below meth c QQ A hx hb hml hown hmn hts hK hA hP hD hS hret ls hl
  have hown : s.vm.findClass RX7 = some m.cls := hown
  have hl : lv_has ls 5 [(0, .ref m0), (1, .int w)] := hl
  have hinX7 : ∀ w ∈ wsX70, w ∈ wsX7_mens := by decide +kernel
  have fl_22 := hts (.fieldLink RX7 22 "GuardAbacusModel" "men" "[I") (by decide +kernel)
  have hn := hFR.1
  refine lv_aload_n hx hb dX7_mens_0 rfl (lv_at hl 0 rfl) ?_
  refine lv_iload_n hx hb dX7_mens_1 rfl (lv_at hl 1 rfl) ?_
  refine crV (As := [.int w]) (rest := []) ⟨hx, hb, hml, hown, hts⟩ (c_X7_isWire l E m0 lf tr z0 z1 z2 n y0 y1 y2 at_ rwi y3 y4 sl cr gr y5 y6 rc x0 x1 x2 x3 w) (cwV 1 hts gX7_mens_X7_isWire rfl rfl rfl (by decide +kernel) ⟨Nat.le_of_ble_eq_true rfl, Nat.le_of_ble_eq_true rfl⟩) hK hP [0] rfl 0 rfl rfl rfl rfl hl.1 rfl (catLe (Nat.le_of_ble_eq_true rfl)) dX7_mens_2 ⟨Nat.zero_le _, Nat.zero_le _⟩ (fun r_1 hr_1 => ?_)
  subst hr_1
  refine ifB_ne (P := hasP n w) (tgt := 10) hx hb dX7_mens_5 (by decide) (fun c_2 => ?_) (fun c_2 => ?_)
  ·
    obtain ⟨j, hj, rfl⟩ := hasP_of c_2 hn
    have hix_j : ix (nI j) = j := ix_nI (by omega)
    refine lv_aload_n hx hb dX7_mens_10 rfl (lv_at hl 0 rfl) ?_
    refine va_get (D := E.1) (ci := 7) (v := .ref y1) (C := RX7) (T := TX7) (N := 23) hx hb hts hinX7 hown hK.1 hP 0 rfl rfl 7 (by decide) fl_22 (fun _ h9 => h9) rfl dX7_mens_11 ?_
    refine lv_iload_n hx hb dX7_mens_14 rfl (lv_at hl 1 rfl) ?_
    refine ild hx hb hK hP 2 rfl (j := j) rfl (by omega) (by decide) dX7_mens_15 ?_
    refine lv_istore_n (lv' := [(2, .int (mn j)), (0, .ref m0), (1, .int (nI j))]) hx hb dX7_mens_16 rfl hl (by decide) rfl (fun ls hl => ?_)
    refine lv_iconst (v := 0) hx hb dX7_mens_17 (by decide) ?_
    refine lv_istore_n (lv' := [(3, .int 0), (2, .int (mn j)), (0, .ref m0), (1, .int (nI j))]) hx hb dX7_mens_18 rfl hl (by decide) rfl (fun ls hl => ?_)
    refine lv_iconst (v := 1) hx hb dX7_mens_19 (by decide) ?_
    refine lv_istore (lv' := [(4, .int 1), (3, .int 0), (2, .int (mn j)), (0, .ref m0), (1, .int (nI j))]) hx hb dX7_mens_20 hl (by decide) rfl (fun ls hl => ?_)
    have L22 : ∀ (fuel : Nat) (k : Nat) (mq : Nat → Int32), (k ≤ 9) → (∀ x, upd mq j x = upd mn j x) → (9 - k) < fuel → ∀ (H : Heap) (locs : List Loc), va_P E.1 vwCl [ob m0 7 [.int lf, .int tr, .ref z0, .ref z1, .ref z2, .int (nI n), .ref y0, .ref y1, .ref y2, .int at_, .int rwi, .ref y3, .ref y4, .int sl, .int cr, .int gr, .ref y5, .ref y6, .int (nI rc), .ref x0, .ref x1, .ref x2, .ref x3], ar E y0 6 kd, ar E y1 6 mq, ar E y2 6 pu, ar E x0 8 rs, ar E x1 8 rw, ar E x2 8 rf] H → va_D A [ob m0 7 [.int lf, .int tr, .ref z0, .ref z1, .ref z2, .int (nI n), .ref y0, .ref y1, .ref y2, .int at_, .int rwi, .ref y3, .ref y4, .int sl, .int cr, .int gr, .ref y5, .ref y6, .int (nI rc), .ref x0, .ref x1, .ref x2, .ref x3], ar E y0 6 kd, ar E y1 6 mq, ar E y2 6 pu, ar E x0 8 rs, ar E x1 8 rw, ar E x2 8 rf] → va_S A s.heap H locs → ∀ ls : Array Slot, lv_has ls 5 [(4, .int (nI (k + 1))), (3, .int (mnS n kd mn pu rs rw rf rc j k)), (2, .int (mn j)), (0, .ref m0), (1, .int (nI j))] → W p l e ({ frames := 6, cells := 0, slots := 0, locals := 130 }) s m args below meth c H locs 0 0 QQ (F0 m 22 ls []) := by
      intro fuel
      induction fuel with
      | zero => intro k mq hk hmq hf; exact absurd hf (Nat.not_lt_zero _)
      | succ fuel ih22 =>
        intro k mq hk hmq hf22 H locs hP hD hS ls hl
        refine lv_iload hx hb dX7_mens_22 (lv_at hl 0 rfl) ?_
        refine lv_bipush (v := 9) hx hb dX7_mens_24 (by decide) ?_
        refine icmpN_gt (tgt := 61) (a := k + 1) (b := 9) hx hb rfl rfl (by omega) (by omega) dX7_mens_26 (by decide) (fun c_3 => ?_) (fun c_3 => ?_)
        ·
          obtain rfl : k = 9 := by omega
          refine lv_aload_n hx hb dX7_mens_61 rfl (lv_at hl 3 rfl) ?_
          refine va_get (D := E.1) (ci := 7) (v := .ref y1) (C := RX7) (T := TX7) (N := 23) hx hb hts hinX7 hown hK.1 hP 0 rfl rfl 7 (by decide) fl_22 (fun _ h9 => h9) rfl dX7_mens_62 ?_
          refine lv_iload_n hx hb dX7_mens_65 rfl (lv_at hl 4 rfl) ?_
          refine lv_iload_n hx hb dX7_mens_66 rfl (lv_at hl 2 rfl) ?_
          refine ist hx hb hK hP hD hS 2 rfl (j := j) rfl (by omega) (by decide) dX7_mens_67 (fun H locs hP hD hS => ?_)
          have hP : va_P E.1 vwCl [ob m0 7 [.int lf, .int tr, .ref z0, .ref z1, .ref z2, .int (nI n), .ref y0, .ref y1, .ref y2, .int at_, .int rwi, .ref y3, .ref y4, .int sl, .int cr, .int gr, .ref y5, .ref y6, .int (nI rc), .ref x0, .ref x1, .ref x2, .ref x3], ar E y0 6 kd, ar E y1 6 (upd mq j (mn j)), ar E y2 6 pu, ar E x0 8 rs, ar E x1 8 rw, ar E x2 8 rf] H := hP
          have hD : va_D A [ob m0 7 [.int lf, .int tr, .ref z0, .ref z1, .ref z2, .int (nI n), .ref y0, .ref y1, .ref y2, .int at_, .int rwi, .ref y3, .ref y4, .int sl, .int cr, .int gr, .ref y5, .ref y6, .int (nI rc), .ref x0, .ref x1, .ref x2, .ref x3], ar E y0 6 kd, ar E y1 6 (upd mq j (mn j)), ar E y2 6 pu, ar E x0 8 rs, ar E x1 8 rw, ar E x2 8 rf] := hD
          rw [hmq, upd_self] at hP hD
          have hP : va_P E.1 vwCl [ob m0 7 [.int lf, .int tr, .ref z0, .ref z1, .ref z2, .int (nI n), .ref y0, .ref y1, .ref y2, .int at_, .int rwi, .ref y3, .ref y4, .int sl, .int cr, .int gr, .ref y5, .ref y6, .int (nI rc), .ref x0, .ref x1, .ref x2, .ref x3], ar E y0 6 kd, ar E y1 6 mn, ar E y2 6 pu, ar E x0 8 rs, ar E x1 8 rw, ar E x2 8 rf] H := hP
          have hD : va_D A [ob m0 7 [.int lf, .int tr, .ref z0, .ref z1, .ref z2, .int (nI n), .ref y0, .ref y1, .ref y2, .int at_, .int rwi, .ref y3, .ref y4, .int sl, .int cr, .int gr, .ref y5, .ref y6, .int (nI rc), .ref x0, .ref x1, .ref x2, .ref x3], ar E y0 6 kd, ar E y1 6 mn, ar E y2 6 pu, ar E x0 8 rs, ar E x1 8 rw, ar E x2 8 rf] := hD
          refine lv_iload_n hx hb dX7_mens_68 rfl (lv_at hl 1 rfl) ?_
          exact hret _ _ _ _ _ () dX7_mens_69 hS hP (by simp [spMens, c_2, hix_j, c_3])
        ·
          refine lv_aload_n hx hb dX7_mens_29 rfl (lv_at hl 3 rfl) ?_
          refine va_get (D := E.1) (ci := 7) (v := .ref y1) (C := RX7) (T := TX7) (N := 23) hx hb hts hinX7 hown hK.1 hP 0 rfl rfl 7 (by decide) fl_22 (fun _ h9 => h9) rfl dX7_mens_30 ?_
          refine lv_iload_n hx hb dX7_mens_33 rfl (lv_at hl 4 rfl) ?_
          refine lv_iload hx hb dX7_mens_34 (lv_at hl 0 rfl) ?_
          refine ist hx hb hK hP hD hS 2 rfl (j := j) rfl (by omega) (by decide) dX7_mens_36 (fun H locs hP hD hS => ?_)
          have hP : va_P E.1 vwCl [ob m0 7 [.int lf, .int tr, .ref z0, .ref z1, .ref z2, .int (nI n), .ref y0, .ref y1, .ref y2, .int at_, .int rwi, .ref y3, .ref y4, .int sl, .int cr, .int gr, .ref y5, .ref y6, .int (nI rc), .ref x0, .ref x1, .ref x2, .ref x3], ar E y0 6 kd, ar E y1 6 (upd mq j (nI (k + 1))), ar E y2 6 pu, ar E x0 8 rs, ar E x1 8 rw, ar E x2 8 rf] H := hP
          have hD : va_D A [ob m0 7 [.int lf, .int tr, .ref z0, .ref z1, .ref z2, .int (nI n), .ref y0, .ref y1, .ref y2, .int at_, .int rwi, .ref y3, .ref y4, .int sl, .int cr, .int gr, .ref y5, .ref y6, .int (nI rc), .ref x0, .ref x1, .ref x2, .ref x3], ar E y0 6 kd, ar E y1 6 (upd mq j (nI (k + 1))), ar E y2 6 pu, ar E x0 8 rs, ar E x1 8 rw, ar E x2 8 rf] := hD
          rw [hmq (nI (k + 1))] at hP hD
          have hP : va_P E.1 vwCl [ob m0 7 [.int lf, .int tr, .ref z0, .ref z1, .ref z2, .int (nI n), .ref y0, .ref y1, .ref y2, .int at_, .int rwi, .ref y3, .ref y4, .int sl, .int cr, .int gr, .ref y5, .ref y6, .int (nI rc), .ref x0, .ref x1, .ref x2, .ref x3], ar E y0 6 kd, ar E y1 6 (upd mn j (nI (k + 1))), ar E y2 6 pu, ar E x0 8 rs, ar E x1 8 rw, ar E x2 8 rf] H := hP
          have hD : va_D A [ob m0 7 [.int lf, .int tr, .ref z0, .ref z1, .ref z2, .int (nI n), .ref y0, .ref y1, .ref y2, .int at_, .int rwi, .ref y3, .ref y4, .int sl, .int cr, .int gr, .ref y5, .ref y6, .int (nI rc), .ref x0, .ref x1, .ref x2, .ref x3], ar E y0 6 kd, ar E y1 6 (upd mn j (nI (k + 1))), ar E y2 6 pu, ar E x0 8 rs, ar E x1 8 rw, ar E x2 8 rf] := hD
          refine lv_iload_n hx hb dX7_mens_37 rfl (lv_at hl 1 rfl) ?_
          refine lv_aload_n hx hb dX7_mens_38 rfl (lv_at hl 3 rfl) ?_
          have hFRk : FR n kd (upd mn j (nI (k + 1))) := hFR.men j (by omega) (by omega)
          refine crV (As := []) (rest := [.int (mnS n kd mn pu rs rw rf rc j k)]) ⟨hx, hb, hml, hown, hts⟩ (c_X7_areSo l E m0 lf tr z0 z1 z2 n y0 y1 y2 at_ rwi y3 y4 sl cr gr y5 y6 rc x0 x1 x2 x3 kd (upd mn j (nI (k + 1))) pu rs rw rf hFRk (by first | assumption | omega) (by first | assumption | omega)) (cwV 0 hts gX7_mens_X7_areSo rfl rfl rfl (by decide +kernel) ⟨Nat.le_of_ble_eq_true rfl, Nat.le_of_ble_eq_true rfl⟩) hK hP [0, 1, 2, 3, 4, 5, 6] rfl 0 rfl rfl rfl rfl hl.1 rfl (catLe (Nat.le_of_ble_eq_true rfl)) dX7_mens_39 ⟨Nat.zero_le _, Nat.zero_le _⟩ (fun r_4 hr_4 => ?_)
          subst hr_4
          refine ifB_eq (P := cbP n kd (upd mn j (nI (k + 1))) pu rs rw rf rc) (tgt := 52) hx hb dX7_mens_42 (by decide) (fun c_5 => ?_) (fun c_5 => ?_)
          ·
            refine lv_iconst (v := 0) hx hb dX7_mens_52 (by decide) ?_
            refine lv_ior hx hb dX7_mens_53 ?_
            refine lv_istore_n (lv' := [(3, .int ((mnS n kd mn pu rs rw rf rc j k) ||| 0)), (4, .int (nI (k + 1))), (2, .int (mn j)), (0, .ref m0), (1, .int (nI j))]) hx hb dX7_mens_54 rfl hl (by decide) rfl (fun ls hl => ?_)
            refine lv_iinc (v := nI ((k + 1) + 1)) (lv' := [(4, .int (nI ((k + 1) + 1))), (3, .int ((mnS n kd mn pu rs rw rf rc j k) ||| 0)), (2, .int (mn j)), (0, .ref m0), (1, .int (nI j))]) hx hb dX7_mens_55 hl (k := 1) rfl (nI_inc (k + 1)) (by decide) rfl (fun ls hl => ?_)
            refine lv_goto (tgt := 22) hx hb dX7_mens_58 (by decide) ?_
            have eS : mnS n kd mn pu rs rw rf rc j (k + 1) = (mnS n kd mn pu rs rw rf rc j k ||| 0) := (if_neg c_5).trans (Int32.or_zero).symm
            have hl : lv_has ls 5 [(4, .int (nI ((k + 1) + 1))), (3, .int (mnS n kd mn pu rs rw rf rc j (k + 1))), (2, .int (mn j)), (0, .ref m0), (1, .int (nI j))] := by rw [eS]; exact lv_sub hl [0, 1, 2, 3, 4] rfl
            exact ih22 (k + 1) (upd mn j (nI (k + 1))) (by omega) (fun _ => upd_twice _ _ _ _) (by omega) _ _ hP hD hS ls (lv_sub hl [0, 1, 2, 3, 4] rfl)
          ·
            refine lv_iconst (v := 1) hx hb dX7_mens_45 (by decide) ?_
            refine lv_iload hx hb dX7_mens_46 (lv_at hl 0 rfl) ?_
            refine lv_ishl hx hb dX7_mens_48 ?_
            refine lv_goto (tgt := 53) hx hb dX7_mens_49 (by decide) ?_
            rw [shl1 (k + 1) (by omega)]
            refine lv_ior hx hb dX7_mens_53 ?_
            refine lv_istore_n (lv' := [(3, .int ((mnS n kd mn pu rs rw rf rc j k) ||| (nI (2 ^ (k + 1))))), (4, .int (nI (k + 1))), (2, .int (mn j)), (0, .ref m0), (1, .int (nI j))]) hx hb dX7_mens_54 rfl hl (by decide) rfl (fun ls hl => ?_)
            refine lv_iinc (v := nI ((k + 1) + 1)) (lv' := [(4, .int (nI ((k + 1) + 1))), (3, .int ((mnS n kd mn pu rs rw rf rc j k) ||| (nI (2 ^ (k + 1))))), (2, .int (mn j)), (0, .ref m0), (1, .int (nI j))]) hx hb dX7_mens_55 hl (k := 1) rfl (nI_inc (k + 1)) (by decide) rfl (fun ls hl => ?_)
            refine lv_goto (tgt := 22) hx hb dX7_mens_58 (by decide) ?_
            have eS : mnS n kd mn pu rs rw rf rc j (k + 1) = (mnS n kd mn pu rs rw rf rc j k ||| nI (2 ^ (k + 1))) := if_pos c_5
            have hl : lv_has ls 5 [(4, .int (nI ((k + 1) + 1))), (3, .int (mnS n kd mn pu rs rw rf rc j (k + 1))), (2, .int (mn j)), (0, .ref m0), (1, .int (nI j))] := by rw [eS]; exact lv_sub hl [0, 1, 2, 3, 4] rfl
            exact ih22 (k + 1) (upd mn j (nI (k + 1))) (by omega) (fun _ => upd_twice _ _ _ _) (by omega) _ _ hP hD hS ls (lv_sub hl [0, 1, 2, 3, 4] rfl)
    exact L22 _ 0 mn (by omega) (fun _ => rfl) (Nat.lt_succ_self _) _ _ hP hD hS ls (lv_sub hl [0, 1, 2, 3, 4] rfl)
  ·
    refine lv_iconst (v := (-1)) hx hb dX7_mens_8 (by decide) ?_
    exact hret _ _ _ _ _ () dX7_mens_9 hS hP (by simp [spMens, c_2])
set_option maxHeartbeats 4000000 in
set_option maxRecDepth 100000 in
theorem c_X7_kinds (l : Launch) (E : gE) (sz : Nat) (m0 : Nat) (lf : Int32) (tr : Int32) (z0 : Nat) (z1 : Nat) (z2 : Nat) (n : Nat) (y0 : Nat) (y1 : Nat) (y2 : Nat) (at_ : Int32) (rwi : Int32) (y3 : Nat) (y4 : Nat) (sl : Int32) (cr : Int32) (gr : Int32) (y5 : Nat) (y6 : Nat) (rc : Nat) (x0 : Nat) (x1 : Nat) (x2 : Nat) (x3 : Nat) (kd : Nat → Int32) (mn : Nat → Int32) (pu : Nat → Int32) (rs : Nat → Int32) (rw : Nat → Int32) (rf : Nat → Int32) (w : Int32) (hFR : FR n kd mn) (hrc : rc ≤ 8) (hrw : rwP n rw rc) : Met l yX7_kinds wsX7_kinds ({ frames := 6, cells := 0, slots := 0, locals := 130 }) (PW E [.ref m0, .int w] [ob m0 7 [.int lf, .int tr, .ref z0, .ref z1, .ref z2, .int (nI n), .ref y0, .ref y1, .ref y2, .int at_, .int rwi, .ref y3, .ref y4, .int sl, .int cr, .int gr, .ref y5, .ref y6, .int (nI rc), .ref x0, .ref x1, .ref x2, .ref x3], ar E y0 6 kd, ar E y1 6 mn, ar E y2 6 pu, ar E x0 8 rs, ar E x1 8 rw, ar E x2 8 rf] sz) (QWi E (fun r _ => r = spKinds n kd mn pu rs rw rf rc w) (fun (_ : Unit) => [ob m0 7 [.int lf, .int tr, .ref z0, .ref z1, .ref z2, .int (nI n), .ref y0, .ref y1, .ref y2, .int at_, .int rwi, .ref y3, .ref y4, .int sl, .int cr, .int gr, .ref y5, .ref y6, .int (nI rc), .ref x0, .ref x1, .ref x2, .ref x3], ar E y0 6 kd, ar E y1 6 mn, ar E y2 6 pu, ar E x0 8 rs, ar E x1 8 rw, ar E x2 8 rf]) (va_A [ob m0 7 [.int lf, .int tr, .ref z0, .ref z1, .ref z2, .int (nI n), .ref y0, .ref y1, .ref y2, .int at_, .int rwi, .ref y3, .ref y4, .int sl, .int cr, .int gr, .ref y5, .ref y6, .int (nI rc), .ref x0, .ref x1, .ref x2, .ref x3], ar E y0 6 kd, ar E y1 6 mn, ar E y2 6 pu, ar E x0 8 rs, ar E x1 8 rw, ar E x2 8 rf] sz)) 0 0 (va_A [ob m0 7 [.int lf, .int tr, .ref z0, .ref z1, .ref z2, .int (nI n), .ref y0, .ref y1, .ref y2, .int at_, .int rwi, .ref y3, .ref y4, .int sl, .int cr, .int gr, .ref y5, .ref y6, .int (nI rc), .ref x0, .ref x1, .ref x2, .ref x3], ar E y0 6 kd, ar E y1 6 mn, ar E y2 6 pu, ar E x0 8 rs, ar E x1 8 rw, ar E x2 8 rf] sz) := by
  refine mkWi (cc := cX7_kinds) (maxL := 5) (by decide) rfl (Nat.le_of_ble_eq_true rfl) ?_
  intro p e s m args below meth c QQ A hx hb hml hown hmn hts hK hA hP hD hS hret ls hl
  have hown : s.vm.findClass RX7 = some m.cls := hown
  have hl : lv_has ls 5 [(0, .ref m0), (1, .int w)] := hl
  have hinX7 : ∀ w ∈ wsX70, w ∈ wsX7_kinds := by decide +kernel
  have fl_19 := hts (.fieldLink RX7 19 "GuardAbacusModel" "kind" "[I") (by decide +kernel)
  have hn := hFR.1
  refine lv_aload_n hx hb dX7_kinds_0 rfl (lv_at hl 0 rfl) ?_
  refine lv_iload_n hx hb dX7_kinds_1 rfl (lv_at hl 1 rfl) ?_
  refine crV (As := [.int w]) (rest := []) ⟨hx, hb, hml, hown, hts⟩ (c_X7_isWire l E m0 lf tr z0 z1 z2 n y0 y1 y2 at_ rwi y3 y4 sl cr gr y5 y6 rc x0 x1 x2 x3 w) (cwV 1 hts gX7_kinds_X7_isWire rfl rfl rfl (by decide +kernel) ⟨Nat.le_of_ble_eq_true rfl, Nat.le_of_ble_eq_true rfl⟩) hK hP [0] rfl 0 rfl rfl rfl rfl hl.1 rfl (catLe (Nat.le_of_ble_eq_true rfl)) dX7_kinds_2 ⟨Nat.zero_le _, Nat.zero_le _⟩ (fun r_1 hr_1 => ?_)
  subst hr_1
  refine ifB_ne (P := hasP n w) (tgt := 10) hx hb dX7_kinds_5 (by decide) (fun c_2 => ?_) (fun c_2 => ?_)
  ·
    obtain ⟨j, hj, rfl⟩ := hasP_of c_2 hn
    have hix_j : ix (nI j) = j := ix_nI (by omega)
    refine lv_aload_n hx hb dX7_kinds_10 rfl (lv_at hl 0 rfl) ?_
    refine va_get (D := E.1) (ci := 7) (v := .ref y0) (C := RX7) (T := TX7) (N := 23) hx hb hts hinX7 hown hK.1 hP 0 rfl rfl 6 (by decide) fl_19 (fun _ h9 => h9) rfl dX7_kinds_11 ?_
    refine lv_iload_n hx hb dX7_kinds_14 rfl (lv_at hl 1 rfl) ?_
    refine ild hx hb hK hP 1 rfl (j := j) rfl (by omega) (by decide) dX7_kinds_15 ?_
    refine lv_istore_n (lv' := [(2, .int (kd j)), (0, .ref m0), (1, .int (nI j))]) hx hb dX7_kinds_16 rfl hl (by decide) rfl (fun ls hl => ?_)
    refine lv_iconst (v := 0) hx hb dX7_kinds_17 (by decide) ?_
    refine lv_istore_n (lv' := [(3, .int 0), (2, .int (kd j)), (0, .ref m0), (1, .int (nI j))]) hx hb dX7_kinds_18 rfl hl (by decide) rfl (fun ls hl => ?_)
    refine lv_iconst (v := 0) hx hb dX7_kinds_19 (by decide) ?_
    refine lv_istore (lv' := [(4, .int 0), (3, .int 0), (2, .int (kd j)), (0, .ref m0), (1, .int (nI j))]) hx hb dX7_kinds_20 hl (by decide) rfl (fun ls hl => ?_)
    have L22 : ∀ (fuel : Nat) (k : Nat) (mq : Nat → Int32), (k ≤ 3) → (∀ x, upd mq j x = upd kd j x) → (3 - k) < fuel → ∀ (H : Heap) (locs : List Loc), va_P E.1 vwCl [ob m0 7 [.int lf, .int tr, .ref z0, .ref z1, .ref z2, .int (nI n), .ref y0, .ref y1, .ref y2, .int at_, .int rwi, .ref y3, .ref y4, .int sl, .int cr, .int gr, .ref y5, .ref y6, .int (nI rc), .ref x0, .ref x1, .ref x2, .ref x3], ar E y0 6 mq, ar E y1 6 mn, ar E y2 6 pu, ar E x0 8 rs, ar E x1 8 rw, ar E x2 8 rf] H → va_D A [ob m0 7 [.int lf, .int tr, .ref z0, .ref z1, .ref z2, .int (nI n), .ref y0, .ref y1, .ref y2, .int at_, .int rwi, .ref y3, .ref y4, .int sl, .int cr, .int gr, .ref y5, .ref y6, .int (nI rc), .ref x0, .ref x1, .ref x2, .ref x3], ar E y0 6 mq, ar E y1 6 mn, ar E y2 6 pu, ar E x0 8 rs, ar E x1 8 rw, ar E x2 8 rf] → va_S A s.heap H locs → ∀ ls : Array Slot, lv_has ls 5 [(4, .int (nI k)), (3, .int (kdS n kd mn pu rs rw rf rc j k)), (2, .int (kd j)), (0, .ref m0), (1, .int (nI j))] → W p l e ({ frames := 6, cells := 0, slots := 0, locals := 130 }) s m args below meth c H locs 0 0 QQ (F0 m 22 ls []) := by
      intro fuel
      induction fuel with
      | zero => intro k mq hk hmq hf; exact absurd hf (Nat.not_lt_zero _)
      | succ fuel ih22 =>
        intro k mq hk hmq hf22 H locs hP hD hS ls hl
        refine lv_iload hx hb dX7_kinds_22 (lv_at hl 0 rfl) ?_
        refine lv_iconst (v := 3) hx hb dX7_kinds_24 (by decide) ?_
        refine icmpN_ge (tgt := 60) (a := k) (b := 3) hx hb rfl rfl (by omega) (by omega) dX7_kinds_25 (by decide) (fun c_3 => ?_) (fun c_3 => ?_)
        ·
          obtain rfl : k = 3 := by omega
          refine lv_aload_n hx hb dX7_kinds_60 rfl (lv_at hl 3 rfl) ?_
          refine va_get (D := E.1) (ci := 7) (v := .ref y0) (C := RX7) (T := TX7) (N := 23) hx hb hts hinX7 hown hK.1 hP 0 rfl rfl 6 (by decide) fl_19 (fun _ h9 => h9) rfl dX7_kinds_61 ?_
          refine lv_iload_n hx hb dX7_kinds_64 rfl (lv_at hl 4 rfl) ?_
          refine lv_iload_n hx hb dX7_kinds_65 rfl (lv_at hl 2 rfl) ?_
          refine ist hx hb hK hP hD hS 1 rfl (j := j) rfl (by omega) (by decide) dX7_kinds_66 (fun H locs hP hD hS => ?_)
          have hP : va_P E.1 vwCl [ob m0 7 [.int lf, .int tr, .ref z0, .ref z1, .ref z2, .int (nI n), .ref y0, .ref y1, .ref y2, .int at_, .int rwi, .ref y3, .ref y4, .int sl, .int cr, .int gr, .ref y5, .ref y6, .int (nI rc), .ref x0, .ref x1, .ref x2, .ref x3], ar E y0 6 (upd mq j (kd j)), ar E y1 6 mn, ar E y2 6 pu, ar E x0 8 rs, ar E x1 8 rw, ar E x2 8 rf] H := hP
          have hD : va_D A [ob m0 7 [.int lf, .int tr, .ref z0, .ref z1, .ref z2, .int (nI n), .ref y0, .ref y1, .ref y2, .int at_, .int rwi, .ref y3, .ref y4, .int sl, .int cr, .int gr, .ref y5, .ref y6, .int (nI rc), .ref x0, .ref x1, .ref x2, .ref x3], ar E y0 6 (upd mq j (kd j)), ar E y1 6 mn, ar E y2 6 pu, ar E x0 8 rs, ar E x1 8 rw, ar E x2 8 rf] := hD
          rw [hmq, upd_self] at hP hD
          have hP : va_P E.1 vwCl [ob m0 7 [.int lf, .int tr, .ref z0, .ref z1, .ref z2, .int (nI n), .ref y0, .ref y1, .ref y2, .int at_, .int rwi, .ref y3, .ref y4, .int sl, .int cr, .int gr, .ref y5, .ref y6, .int (nI rc), .ref x0, .ref x1, .ref x2, .ref x3], ar E y0 6 kd, ar E y1 6 mn, ar E y2 6 pu, ar E x0 8 rs, ar E x1 8 rw, ar E x2 8 rf] H := hP
          have hD : va_D A [ob m0 7 [.int lf, .int tr, .ref z0, .ref z1, .ref z2, .int (nI n), .ref y0, .ref y1, .ref y2, .int at_, .int rwi, .ref y3, .ref y4, .int sl, .int cr, .int gr, .ref y5, .ref y6, .int (nI rc), .ref x0, .ref x1, .ref x2, .ref x3], ar E y0 6 kd, ar E y1 6 mn, ar E y2 6 pu, ar E x0 8 rs, ar E x1 8 rw, ar E x2 8 rf] := hD
          refine lv_iload_n hx hb dX7_kinds_67 rfl (lv_at hl 1 rfl) ?_
          exact hret _ _ _ _ _ () dX7_kinds_68 hS hP (by simp [spKinds, c_2, hix_j, c_3])
        ·
          refine lv_aload_n hx hb dX7_kinds_28 rfl (lv_at hl 3 rfl) ?_
          refine va_get (D := E.1) (ci := 7) (v := .ref y0) (C := RX7) (T := TX7) (N := 23) hx hb hts hinX7 hown hK.1 hP 0 rfl rfl 6 (by decide) fl_19 (fun _ h9 => h9) rfl dX7_kinds_29 ?_
          refine lv_iload_n hx hb dX7_kinds_32 rfl (lv_at hl 4 rfl) ?_
          refine lv_iload hx hb dX7_kinds_33 (lv_at hl 0 rfl) ?_
          refine ist hx hb hK hP hD hS 1 rfl (j := j) rfl (by omega) (by decide) dX7_kinds_35 (fun H locs hP hD hS => ?_)
          have hP : va_P E.1 vwCl [ob m0 7 [.int lf, .int tr, .ref z0, .ref z1, .ref z2, .int (nI n), .ref y0, .ref y1, .ref y2, .int at_, .int rwi, .ref y3, .ref y4, .int sl, .int cr, .int gr, .ref y5, .ref y6, .int (nI rc), .ref x0, .ref x1, .ref x2, .ref x3], ar E y0 6 (upd mq j (nI k)), ar E y1 6 mn, ar E y2 6 pu, ar E x0 8 rs, ar E x1 8 rw, ar E x2 8 rf] H := hP
          have hD : va_D A [ob m0 7 [.int lf, .int tr, .ref z0, .ref z1, .ref z2, .int (nI n), .ref y0, .ref y1, .ref y2, .int at_, .int rwi, .ref y3, .ref y4, .int sl, .int cr, .int gr, .ref y5, .ref y6, .int (nI rc), .ref x0, .ref x1, .ref x2, .ref x3], ar E y0 6 (upd mq j (nI k)), ar E y1 6 mn, ar E y2 6 pu, ar E x0 8 rs, ar E x1 8 rw, ar E x2 8 rf] := hD
          rw [hmq (nI k)] at hP hD
          have hP : va_P E.1 vwCl [ob m0 7 [.int lf, .int tr, .ref z0, .ref z1, .ref z2, .int (nI n), .ref y0, .ref y1, .ref y2, .int at_, .int rwi, .ref y3, .ref y4, .int sl, .int cr, .int gr, .ref y5, .ref y6, .int (nI rc), .ref x0, .ref x1, .ref x2, .ref x3], ar E y0 6 (upd kd j (nI k)), ar E y1 6 mn, ar E y2 6 pu, ar E x0 8 rs, ar E x1 8 rw, ar E x2 8 rf] H := hP
          have hD : va_D A [ob m0 7 [.int lf, .int tr, .ref z0, .ref z1, .ref z2, .int (nI n), .ref y0, .ref y1, .ref y2, .int at_, .int rwi, .ref y3, .ref y4, .int sl, .int cr, .int gr, .ref y5, .ref y6, .int (nI rc), .ref x0, .ref x1, .ref x2, .ref x3], ar E y0 6 (upd kd j (nI k)), ar E y1 6 mn, ar E y2 6 pu, ar E x0 8 rs, ar E x1 8 rw, ar E x2 8 rf] := hD
          refine lv_iload_n hx hb dX7_kinds_36 rfl (lv_at hl 1 rfl) ?_
          refine lv_aload_n hx hb dX7_kinds_37 rfl (lv_at hl 3 rfl) ?_
          have hFRk : FR n (upd kd j (nI k)) mn := hFR.kin j (by omega)
          refine crV (As := []) (rest := [.int (kdS n kd mn pu rs rw rf rc j k)]) ⟨hx, hb, hml, hown, hts⟩ (c_X7_areSo l E m0 lf tr z0 z1 z2 n y0 y1 y2 at_ rwi y3 y4 sl cr gr y5 y6 rc x0 x1 x2 x3 (upd kd j (nI k)) mn pu rs rw rf hFRk (by first | assumption | omega) (by first | assumption | omega)) (cwV 0 hts gX7_kinds_X7_areSo rfl rfl rfl (by decide +kernel) ⟨Nat.le_of_ble_eq_true rfl, Nat.le_of_ble_eq_true rfl⟩) hK hP [0, 1, 2, 3, 4, 5, 6] rfl 0 rfl rfl rfl rfl hl.1 rfl (catLe (Nat.le_of_ble_eq_true rfl)) dX7_kinds_38 ⟨Nat.zero_le _, Nat.zero_le _⟩ (fun r_4 hr_4 => ?_)
          subst hr_4
          refine ifB_eq (P := cbP n (upd kd j (nI k)) mn pu rs rw rf rc) (tgt := 51) hx hb dX7_kinds_41 (by decide) (fun c_5 => ?_) (fun c_5 => ?_)
          ·
            refine lv_iconst (v := 0) hx hb dX7_kinds_51 (by decide) ?_
            refine lv_ior hx hb dX7_kinds_52 ?_
            refine lv_istore_n (lv' := [(3, .int ((kdS n kd mn pu rs rw rf rc j k) ||| 0)), (4, .int (nI k)), (2, .int (kd j)), (0, .ref m0), (1, .int (nI j))]) hx hb dX7_kinds_53 rfl hl (by decide) rfl (fun ls hl => ?_)
            refine lv_iinc (v := nI (k + 1)) (lv' := [(4, .int (nI (k + 1))), (3, .int ((kdS n kd mn pu rs rw rf rc j k) ||| 0)), (2, .int (kd j)), (0, .ref m0), (1, .int (nI j))]) hx hb dX7_kinds_54 hl (k := 1) rfl (nI_inc k) (by decide) rfl (fun ls hl => ?_)
            refine lv_goto (tgt := 22) hx hb dX7_kinds_57 (by decide) ?_
            have eS : kdS n kd mn pu rs rw rf rc j (k + 1) = (kdS n kd mn pu rs rw rf rc j k ||| 0) := (if_neg c_5).trans (Int32.or_zero).symm
            have hl : lv_has ls 5 [(4, .int (nI (k + 1))), (3, .int (kdS n kd mn pu rs rw rf rc j (k + 1))), (2, .int (kd j)), (0, .ref m0), (1, .int (nI j))] := by rw [eS]; exact lv_sub hl [0, 1, 2, 3, 4] rfl
            exact ih22 (k + 1) (upd kd j (nI k)) (by omega) (fun _ => upd_twice _ _ _ _) (by omega) _ _ hP hD hS ls (lv_sub hl [0, 1, 2, 3, 4] rfl)
          ·
            refine lv_iconst (v := 1) hx hb dX7_kinds_44 (by decide) ?_
            refine lv_iload hx hb dX7_kinds_45 (lv_at hl 0 rfl) ?_
            refine lv_ishl hx hb dX7_kinds_47 ?_
            refine lv_goto (tgt := 52) hx hb dX7_kinds_48 (by decide) ?_
            rw [shl1 k (by omega)]
            refine lv_ior hx hb dX7_kinds_52 ?_
            refine lv_istore_n (lv' := [(3, .int ((kdS n kd mn pu rs rw rf rc j k) ||| (nI (2 ^ k)))), (4, .int (nI k)), (2, .int (kd j)), (0, .ref m0), (1, .int (nI j))]) hx hb dX7_kinds_53 rfl hl (by decide) rfl (fun ls hl => ?_)
            refine lv_iinc (v := nI (k + 1)) (lv' := [(4, .int (nI (k + 1))), (3, .int ((kdS n kd mn pu rs rw rf rc j k) ||| (nI (2 ^ k)))), (2, .int (kd j)), (0, .ref m0), (1, .int (nI j))]) hx hb dX7_kinds_54 hl (k := 1) rfl (nI_inc k) (by decide) rfl (fun ls hl => ?_)
            refine lv_goto (tgt := 22) hx hb dX7_kinds_57 (by decide) ?_
            have eS : kdS n kd mn pu rs rw rf rc j (k + 1) = (kdS n kd mn pu rs rw rf rc j k ||| nI (2 ^ k)) := if_pos c_5
            have hl : lv_has ls 5 [(4, .int (nI (k + 1))), (3, .int (kdS n kd mn pu rs rw rf rc j (k + 1))), (2, .int (kd j)), (0, .ref m0), (1, .int (nI j))] := by rw [eS]; exact lv_sub hl [0, 1, 2, 3, 4] rfl
            exact ih22 (k + 1) (upd kd j (nI k)) (by omega) (fun _ => upd_twice _ _ _ _) (by omega) _ _ hP hD hS ls (lv_sub hl [0, 1, 2, 3, 4] rfl)
    exact L22 _ 0 kd (by omega) (fun _ => rfl) (Nat.lt_succ_self _) _ _ hP hD hS ls (lv_sub hl [0, 1, 2, 3, 4] rfl)
  ·
    refine lv_iconst (v := (-1)) hx hb dX7_kinds_8 (by decide) ?_
    exact hret _ _ _ _ _ () dX7_kinds_9 hS hP (by simp [spKinds, c_2])
set_option maxHeartbeats 4000000 in
set_option maxRecDepth 100000 in
theorem c_X7_tell (l : Launch) (E : gE) (sz : Nat) (m0 : Nat) (lf : Int32) (tr : Int32) (z0 : Nat) (z1 : Nat) (z2 : Nat) (n : Nat) (y0 : Nat) (y1 : Nat) (y2 : Nat) (at_ : Int32) (rwi : Int32) (y3 : Nat) (y4 : Nat) (sl : Int32) (cr : Int32) (gr : Int32) (y5 : Nat) (y6 : Nat) (rc : Nat) (x0 : Nat) (x1 : Nat) (x2 : Nat) (x3 : Nat) (kd : Nat → Int32) (mn : Nat → Int32) (w : Int32) (hn : n ≤ 6) : Met l yX7_tell wsX7_tell ({ frames := 1, cells := 0, slots := 0, locals := 21 }) (PW E [.ref m0, .int w] [ob m0 7 [.int lf, .int tr, .ref z0, .ref z1, .ref z2, .int (nI n), .ref y0, .ref y1, .ref y2, .int at_, .int rwi, .ref y3, .ref y4, .int sl, .int cr, .int gr, .ref y5, .ref y6, .int (nI rc), .ref x0, .ref x1, .ref x2, .ref x3], ar E y0 6 kd, ar E y1 6 mn] sz) (QWi E (fun r _ => r = spTell n kd mn w) (fun (_ : Unit) => [ob m0 7 [.int lf, .int (spTellT n kd w tr), .ref z0, .ref z1, .ref z2, .int (nI n), .ref y0, .ref y1, .ref y2, .int at_, .int rwi, .ref y3, .ref y4, .int sl, .int cr, .int gr, .ref y5, .ref y6, .int (nI rc), .ref x0, .ref x1, .ref x2, .ref x3], ar E y0 6 kd, ar E y1 6 mn]) (va_A [ob m0 7 [.int lf, .int tr, .ref z0, .ref z1, .ref z2, .int (nI n), .ref y0, .ref y1, .ref y2, .int at_, .int rwi, .ref y3, .ref y4, .int sl, .int cr, .int gr, .ref y5, .ref y6, .int (nI rc), .ref x0, .ref x1, .ref x2, .ref x3], ar E y0 6 kd, ar E y1 6 mn] sz)) 0 0 (va_A [ob m0 7 [.int lf, .int tr, .ref z0, .ref z1, .ref z2, .int (nI n), .ref y0, .ref y1, .ref y2, .int at_, .int rwi, .ref y3, .ref y4, .int sl, .int cr, .int gr, .ref y5, .ref y6, .int (nI rc), .ref x0, .ref x1, .ref x2, .ref x3], ar E y0 6 kd, ar E y1 6 mn] sz) := by
  refine mkWi (cc := cX7_tell) (maxL := 3) (by decide) rfl (Nat.le_of_ble_eq_true rfl) ?_
  intro p e s m args below meth c QQ A hx hb hml hown hmn hts hK hA hP hD hS hret ls hl
  have hown : s.vm.findClass RX7 = some m.cls := hown
  have hl : lv_has ls 3 [(0, .ref m0), (1, .int w)] := hl
  have hinX7 : ∀ w ∈ wsX70, w ∈ wsX7_tell := by decide +kernel
  have fl_19 := hts (.fieldLink RX7 19 "GuardAbacusModel" "kind" "[I") (by decide +kernel)
  have fl_22 := hts (.fieldLink RX7 22 "GuardAbacusModel" "men" "[I") (by decide +kernel)
  refine lv_aload_n hx hb dX7_tell_0 rfl (lv_at hl 0 rfl) ?_
  refine lv_iload_n hx hb dX7_tell_1 rfl (lv_at hl 1 rfl) ?_
  refine crV (As := [.int w]) (rest := []) ⟨hx, hb, hml, hown, hts⟩ (c_X7_isWire l E m0 lf tr z0 z1 z2 n y0 y1 y2 at_ rwi y3 y4 sl cr gr y5 y6 rc x0 x1 x2 x3 w) (cwV 1 hts gX7_tell_X7_isWire rfl rfl rfl (by decide +kernel) ⟨Nat.le_of_ble_eq_true rfl, Nat.le_of_ble_eq_true rfl⟩) hK hP [0] rfl 0 rfl rfl rfl rfl hl.1 rfl (catLe (Nat.le_of_ble_eq_true rfl)) dX7_tell_2 ⟨Nat.zero_le _, Nat.zero_le _⟩ (fun r_1 hr_1 => ?_)
  subst hr_1
  refine ifB_ne (P := hasP n w) (tgt := 10) hx hb dX7_tell_5 (by decide) (fun c_2 => ?_) (fun c_2 => ?_)
  ·
    obtain ⟨j, hj, rfl⟩ := hasP_of c_2 hn
    have hix_j : ix (nI j) = j := ix_nI (by omega)
    refine lv_aload_n hx hb dX7_tell_10 rfl (lv_at hl 0 rfl) ?_
    refine va_get (D := E.1) (ci := 7) (v := .ref y1) (C := RX7) (T := TX7) (N := 23) hx hb hts hinX7 hown hK.1 hP 0 rfl rfl 7 (by decide) fl_22 (fun _ h9 => h9) rfl dX7_tell_11 ?_
    refine lv_iload_n hx hb dX7_tell_14 rfl (lv_at hl 1 rfl) ?_
    refine ild hx hb hK hP 2 rfl (j := j) rfl (by omega) (by decide) dX7_tell_15 ?_
    refine lv_istore_n (lv' := [(2, .int (mn j)), (0, .ref m0), (1, .int (nI j))]) hx hb dX7_tell_16 rfl hl (by decide) rfl (fun ls hl => ?_)
    refine lv_aload_n hx hb dX7_tell_17 rfl (lv_at hl 1 rfl) ?_
    refine va_get (D := E.1) (ci := 7) (v := .ref y0) (C := RX7) (T := TX7) (N := 23) hx hb hts hinX7 hown hK.1 hP 0 rfl rfl 6 (by decide) fl_19 (fun _ h9 => h9) rfl dX7_tell_18 ?_
    refine lv_iload_n hx hb dX7_tell_21 rfl (lv_at hl 2 rfl) ?_
    refine ild hx hb hK hP 1 rfl (j := j) rfl (by omega) (by decide) dX7_tell_22 ?_
    by_cases q_3 : kd j = 1
    ·
      rw [q_3]
      refine lv_lookup (off := 25) (tgt := 48) hx hb dX7_tell_23 (by decide) (by decide) (by decide) ?_
      refine lv_aload_n hx hb dX7_tell_48 rfl (lv_at hl 1 rfl) ?_
      refine lv_iconst (v := 2) hx hb dX7_tell_49 (by decide) ?_
      refine cwVv (As := [.int 2]) (rest := []) ⟨hx, hb, hml, hown, hts⟩ (c_X7_begins l E _ m0 lf tr z0 z1 z2 n y0 y1 y2 at_ rwi y3 y4 sl cr gr y5 y6 rc x0 x1 x2 x3 2) (cwV 1 hts gX7_tell_X7_begins rfl rfl rfl (by decide +kernel) ⟨Nat.le_of_ble_eq_true rfl, Nat.le_of_ble_eq_true rfl⟩) hK hP hD hS hA [0] (by decide) rfl [m0] (fun _ => rfl) rfl 0 rfl rfl rfl rfl hl.1 rfl (catLe (Nat.le_of_ble_eq_true rfl)) dX7_tell_50 ⟨Nat.zero_le _, Nat.zero_le _⟩ (fun u_5 H locs hwr_4 hP hD hS => ?_)
      have hP : va_P E.1 vwCl [ob m0 7 [.int lf, .int (trF tr 2), .ref z0, .ref z1, .ref z2, .int (nI n), .ref y0, .ref y1, .ref y2, .int at_, .int rwi, .ref y3, .ref y4, .int sl, .int cr, .int gr, .ref y5, .ref y6, .int (nI rc), .ref x0, .ref x1, .ref x2, .ref x3], ar E y0 6 kd, ar E y1 6 mn] H := hP
      have hD : va_D A [ob m0 7 [.int lf, .int (trF tr 2), .ref z0, .ref z1, .ref z2, .int (nI n), .ref y0, .ref y1, .ref y2, .int at_, .int rwi, .ref y3, .ref y4, .int sl, .int cr, .int gr, .ref y5, .ref y6, .int (nI rc), .ref x0, .ref x1, .ref x2, .ref x3], ar E y0 6 kd, ar E y1 6 mn] := hD
      refine lv_aload_n hx hb dX7_tell_53 rfl (lv_at hl 1 rfl) ?_
      refine lv_iconst (v := 1) hx hb dX7_tell_54 (by decide) ?_
      refine cwVv (As := [.int 1]) (rest := []) ⟨hx, hb, hml, hown, hts⟩ (c_X7_begins l E _ m0 lf (trF tr 2) z0 z1 z2 n y0 y1 y2 at_ rwi y3 y4 sl cr gr y5 y6 rc x0 x1 x2 x3 1) (cwV 1 hts gX7_tell_X7_begins rfl rfl rfl (by decide +kernel) ⟨Nat.le_of_ble_eq_true rfl, Nat.le_of_ble_eq_true rfl⟩) hK hP hD hS hA [0] (by decide) rfl [m0] (fun _ => rfl) rfl 0 rfl rfl rfl rfl hl.1 rfl (catLe (Nat.le_of_ble_eq_true rfl)) dX7_tell_55 ⟨Nat.zero_le _, Nat.zero_le _⟩ (fun u_7 H locs hwr_6 hP hD hS => ?_)
      have hP : va_P E.1 vwCl [ob m0 7 [.int lf, .int (trF (trF tr 2) 1), .ref z0, .ref z1, .ref z2, .int (nI n), .ref y0, .ref y1, .ref y2, .int at_, .int rwi, .ref y3, .ref y4, .int sl, .int cr, .int gr, .ref y5, .ref y6, .int (nI rc), .ref x0, .ref x1, .ref x2, .ref x3], ar E y0 6 kd, ar E y1 6 mn] H := hP
      have hD : va_D A [ob m0 7 [.int lf, .int (trF (trF tr 2) 1), .ref z0, .ref z1, .ref z2, .int (nI n), .ref y0, .ref y1, .ref y2, .int at_, .int rwi, .ref y3, .ref y4, .int sl, .int cr, .int gr, .ref y5, .ref y6, .int (nI rc), .ref x0, .ref x1, .ref x2, .ref x3], ar E y0 6 kd, ar E y1 6 mn] := hD
      refine lv_iload_n hx hb dX7_tell_58 rfl (lv_at hl 0 rfl) ?_
      refine lv_bipush (v := 100) hx hb dX7_tell_59 (by decide) ?_
      refine lv_iadd hx hb dX7_tell_61 ?_
      have eo_8 : (spTellT n kd (nI j) tr) = (trF (trF tr 2) 1) := by simp [spTellT, c_2, hix_j, q_3]
      exact hret _ _ _ _ _ () dX7_tell_62 hS (by rw [eo_8]; exact hP) (by simp [spTell, two_x, c_2, hix_j, q_3])
    by_cases q_9 : kd j = 2
    ·
      rw [q_9]
      refine lv_lookup (off := 40) (tgt := 63) hx hb dX7_tell_23 (by decide) (by decide) (by decide) ?_
      refine lv_aload_n hx hb dX7_tell_63 rfl (lv_at hl 1 rfl) ?_
      refine lv_iconst (v := 3) hx hb dX7_tell_64 (by decide) ?_
      refine cwVv (As := [.int 3]) (rest := []) ⟨hx, hb, hml, hown, hts⟩ (c_X7_begins l E _ m0 lf tr z0 z1 z2 n y0 y1 y2 at_ rwi y3 y4 sl cr gr y5 y6 rc x0 x1 x2 x3 3) (cwV 1 hts gX7_tell_X7_begins rfl rfl rfl (by decide +kernel) ⟨Nat.le_of_ble_eq_true rfl, Nat.le_of_ble_eq_true rfl⟩) hK hP hD hS hA [0] (by decide) rfl [m0] (fun _ => rfl) rfl 0 rfl rfl rfl rfl hl.1 rfl (catLe (Nat.le_of_ble_eq_true rfl)) dX7_tell_65 ⟨Nat.zero_le _, Nat.zero_le _⟩ (fun u_11 H locs hwr_10 hP hD hS => ?_)
      have hP : va_P E.1 vwCl [ob m0 7 [.int lf, .int (trF tr 3), .ref z0, .ref z1, .ref z2, .int (nI n), .ref y0, .ref y1, .ref y2, .int at_, .int rwi, .ref y3, .ref y4, .int sl, .int cr, .int gr, .ref y5, .ref y6, .int (nI rc), .ref x0, .ref x1, .ref x2, .ref x3], ar E y0 6 kd, ar E y1 6 mn] H := hP
      have hD : va_D A [ob m0 7 [.int lf, .int (trF tr 3), .ref z0, .ref z1, .ref z2, .int (nI n), .ref y0, .ref y1, .ref y2, .int at_, .int rwi, .ref y3, .ref y4, .int sl, .int cr, .int gr, .ref y5, .ref y6, .int (nI rc), .ref x0, .ref x1, .ref x2, .ref x3], ar E y0 6 kd, ar E y1 6 mn] := hD
      refine lv_aload_n hx hb dX7_tell_68 rfl (lv_at hl 1 rfl) ?_
      refine lv_iconst (v := 2) hx hb dX7_tell_69 (by decide) ?_
      refine cwVv (As := [.int 2]) (rest := []) ⟨hx, hb, hml, hown, hts⟩ (c_X7_begins l E _ m0 lf (trF tr 3) z0 z1 z2 n y0 y1 y2 at_ rwi y3 y4 sl cr gr y5 y6 rc x0 x1 x2 x3 2) (cwV 1 hts gX7_tell_X7_begins rfl rfl rfl (by decide +kernel) ⟨Nat.le_of_ble_eq_true rfl, Nat.le_of_ble_eq_true rfl⟩) hK hP hD hS hA [0] (by decide) rfl [m0] (fun _ => rfl) rfl 0 rfl rfl rfl rfl hl.1 rfl (catLe (Nat.le_of_ble_eq_true rfl)) dX7_tell_70 ⟨Nat.zero_le _, Nat.zero_le _⟩ (fun u_13 H locs hwr_12 hP hD hS => ?_)
      have hP : va_P E.1 vwCl [ob m0 7 [.int lf, .int (trF (trF tr 3) 2), .ref z0, .ref z1, .ref z2, .int (nI n), .ref y0, .ref y1, .ref y2, .int at_, .int rwi, .ref y3, .ref y4, .int sl, .int cr, .int gr, .ref y5, .ref y6, .int (nI rc), .ref x0, .ref x1, .ref x2, .ref x3], ar E y0 6 kd, ar E y1 6 mn] H := hP
      have hD : va_D A [ob m0 7 [.int lf, .int (trF (trF tr 3) 2), .ref z0, .ref z1, .ref z2, .int (nI n), .ref y0, .ref y1, .ref y2, .int at_, .int rwi, .ref y3, .ref y4, .int sl, .int cr, .int gr, .ref y5, .ref y6, .int (nI rc), .ref x0, .ref x1, .ref x2, .ref x3], ar E y0 6 kd, ar E y1 6 mn] := hD
      refine lv_aload_n hx hb dX7_tell_73 rfl (lv_at hl 1 rfl) ?_
      refine lv_iconst (v := 1) hx hb dX7_tell_74 (by decide) ?_
      refine cwVv (As := [.int 1]) (rest := []) ⟨hx, hb, hml, hown, hts⟩ (c_X7_begins l E _ m0 lf (trF (trF tr 3) 2) z0 z1 z2 n y0 y1 y2 at_ rwi y3 y4 sl cr gr y5 y6 rc x0 x1 x2 x3 1) (cwV 1 hts gX7_tell_X7_begins rfl rfl rfl (by decide +kernel) ⟨Nat.le_of_ble_eq_true rfl, Nat.le_of_ble_eq_true rfl⟩) hK hP hD hS hA [0] (by decide) rfl [m0] (fun _ => rfl) rfl 0 rfl rfl rfl rfl hl.1 rfl (catLe (Nat.le_of_ble_eq_true rfl)) dX7_tell_75 ⟨Nat.zero_le _, Nat.zero_le _⟩ (fun u_15 H locs hwr_14 hP hD hS => ?_)
      have hP : va_P E.1 vwCl [ob m0 7 [.int lf, .int (trF (trF (trF tr 3) 2) 1), .ref z0, .ref z1, .ref z2, .int (nI n), .ref y0, .ref y1, .ref y2, .int at_, .int rwi, .ref y3, .ref y4, .int sl, .int cr, .int gr, .ref y5, .ref y6, .int (nI rc), .ref x0, .ref x1, .ref x2, .ref x3], ar E y0 6 kd, ar E y1 6 mn] H := hP
      have hD : va_D A [ob m0 7 [.int lf, .int (trF (trF (trF tr 3) 2) 1), .ref z0, .ref z1, .ref z2, .int (nI n), .ref y0, .ref y1, .ref y2, .int at_, .int rwi, .ref y3, .ref y4, .int sl, .int cr, .int gr, .ref y5, .ref y6, .int (nI rc), .ref x0, .ref x1, .ref x2, .ref x3], ar E y0 6 kd, ar E y1 6 mn] := hD
      refine lv_aload_n hx hb dX7_tell_78 rfl (lv_at hl 1 rfl) ?_
      refine lv_iconst (v := 1) hx hb dX7_tell_79 (by decide) ?_
      refine cwVv (As := [.int 1]) (rest := []) ⟨hx, hb, hml, hown, hts⟩ (c_X7_begins l E _ m0 lf (trF (trF (trF tr 3) 2) 1) z0 z1 z2 n y0 y1 y2 at_ rwi y3 y4 sl cr gr y5 y6 rc x0 x1 x2 x3 1) (cwV 1 hts gX7_tell_X7_begins rfl rfl rfl (by decide +kernel) ⟨Nat.le_of_ble_eq_true rfl, Nat.le_of_ble_eq_true rfl⟩) hK hP hD hS hA [0] (by decide) rfl [m0] (fun _ => rfl) rfl 0 rfl rfl rfl rfl hl.1 rfl (catLe (Nat.le_of_ble_eq_true rfl)) dX7_tell_80 ⟨Nat.zero_le _, Nat.zero_le _⟩ (fun u_17 H locs hwr_16 hP hD hS => ?_)
      have hP : va_P E.1 vwCl [ob m0 7 [.int lf, .int (trF (trF (trF (trF tr 3) 2) 1) 1), .ref z0, .ref z1, .ref z2, .int (nI n), .ref y0, .ref y1, .ref y2, .int at_, .int rwi, .ref y3, .ref y4, .int sl, .int cr, .int gr, .ref y5, .ref y6, .int (nI rc), .ref x0, .ref x1, .ref x2, .ref x3], ar E y0 6 kd, ar E y1 6 mn] H := hP
      have hD : va_D A [ob m0 7 [.int lf, .int (trF (trF (trF (trF tr 3) 2) 1) 1), .ref z0, .ref z1, .ref z2, .int (nI n), .ref y0, .ref y1, .ref y2, .int at_, .int rwi, .ref y3, .ref y4, .int sl, .int cr, .int gr, .ref y5, .ref y6, .int (nI rc), .ref x0, .ref x1, .ref x2, .ref x3], ar E y0 6 kd, ar E y1 6 mn] := hD
      refine lv_iconst (v := 2) hx hb dX7_tell_83 (by decide) ?_
      refine lv_iload_n hx hb dX7_tell_84 rfl (lv_at hl 0 rfl) ?_
      refine lv_imul hx hb dX7_tell_85 ?_
      refine lv_bipush (v := 100) hx hb dX7_tell_86 (by decide) ?_
      refine lv_iadd hx hb dX7_tell_88 ?_
      have eo_18 : (spTellT n kd (nI j) tr) = (trF (trF (trF (trF tr 3) 2) 1) 1) := by simp [spTellT, c_2, hix_j, q_9]
      exact hret _ _ _ _ _ () dX7_tell_89 hS (by rw [eo_18]; exact hP) (by simp [spTell, two_x, c_2, hix_j, q_9])
    refine lv_lookup (off := 67) (tgt := 90) hx hb dX7_tell_23 (by decide) ((lv_osw q_3 rfl).trans ((lv_osw q_9 rfl).trans rfl)) (by decide) ?_
    refine lv_aload_n hx hb dX7_tell_90 rfl (lv_at hl 1 rfl) ?_
    refine lv_iconst (v := 1) hx hb dX7_tell_91 (by decide) ?_
    refine cwVv (As := [.int 1]) (rest := []) ⟨hx, hb, hml, hown, hts⟩ (c_X7_begins l E _ m0 lf tr z0 z1 z2 n y0 y1 y2 at_ rwi y3 y4 sl cr gr y5 y6 rc x0 x1 x2 x3 1) (cwV 1 hts gX7_tell_X7_begins rfl rfl rfl (by decide +kernel) ⟨Nat.le_of_ble_eq_true rfl, Nat.le_of_ble_eq_true rfl⟩) hK hP hD hS hA [0] (by decide) rfl [m0] (fun _ => rfl) rfl 0 rfl rfl rfl rfl hl.1 rfl (catLe (Nat.le_of_ble_eq_true rfl)) dX7_tell_92 ⟨Nat.zero_le _, Nat.zero_le _⟩ (fun u_20 H locs hwr_19 hP hD hS => ?_)
    have hP : va_P E.1 vwCl [ob m0 7 [.int lf, .int (trF tr 1), .ref z0, .ref z1, .ref z2, .int (nI n), .ref y0, .ref y1, .ref y2, .int at_, .int rwi, .ref y3, .ref y4, .int sl, .int cr, .int gr, .ref y5, .ref y6, .int (nI rc), .ref x0, .ref x1, .ref x2, .ref x3], ar E y0 6 kd, ar E y1 6 mn] H := hP
    have hD : va_D A [ob m0 7 [.int lf, .int (trF tr 1), .ref z0, .ref z1, .ref z2, .int (nI n), .ref y0, .ref y1, .ref y2, .int at_, .int rwi, .ref y3, .ref y4, .int sl, .int cr, .int gr, .ref y5, .ref y6, .int (nI rc), .ref x0, .ref x1, .ref x2, .ref x3], ar E y0 6 kd, ar E y1 6 mn] := hD
    refine lv_iload_n hx hb dX7_tell_95 rfl (lv_at hl 0 rfl) ?_
    have eo_21 : (spTellT n kd (nI j) tr) = (trF tr 1) := by simp [spTellT, c_2, hix_j, q_3, q_9]
    exact hret _ _ _ _ _ () dX7_tell_96 hS (by rw [eo_21]; exact hP) (by simp [spTell, two_x, c_2, hix_j, q_3, q_9])
  ·
    refine lv_iconst (v := (-1)) hx hb dX7_tell_8 (by decide) ?_
    have eo_22 : (spTellT n kd w tr) = tr := by simp [spTellT, c_2]
    exact hret _ _ _ _ _ () dX7_tell_9 hS (by rw [eo_22]; exact hP) (by simp [spTell, two_x, c_2])
set_option maxHeartbeats 4000000 in
set_option maxRecDepth 100000 in
theorem c_X7_feel (l : Launch) (E : gE) (sz : Nat) (m0 : Nat) (lf : Int32) (tr : Int32) (z0 : Nat) (z1 : Nat) (z2 : Nat) (n : Nat) (y0 : Nat) (y1 : Nat) (y2 : Nat) (at_ : Int32) (rwi : Int32) (y3 : Nat) (y4 : Nat) (sl : Int32) (cr : Int32) (gr : Int32) (y5 : Nat) (y6 : Nat) (rc : Nat) (x0 : Nat) (x1 : Nat) (x2 : Nat) (x3 : Nat) (kd : Nat → Int32) (pu : Nat → Int32) (w : Int32) (hn : n ≤ 6) : Met l yX7_feel wsX7_feel ({ frames := 1, cells := 0, slots := 0, locals := 21 }) (PW E [.ref m0, .int w] [ob m0 7 [.int lf, .int tr, .ref z0, .ref z1, .ref z2, .int (nI n), .ref y0, .ref y1, .ref y2, .int at_, .int rwi, .ref y3, .ref y4, .int sl, .int cr, .int gr, .ref y5, .ref y6, .int (nI rc), .ref x0, .ref x1, .ref x2, .ref x3], ar E y0 6 kd, ar E y2 6 pu] sz) (QWi E (fun r _ => r = spFeel n kd pu w) (fun (_ : Unit) => [ob m0 7 [.int lf, .int (spFeelT n kd w tr), .ref z0, .ref z1, .ref z2, .int (nI n), .ref y0, .ref y1, .ref y2, .int at_, .int rwi, .ref y3, .ref y4, .int sl, .int cr, .int gr, .ref y5, .ref y6, .int (nI rc), .ref x0, .ref x1, .ref x2, .ref x3], ar E y0 6 kd, ar E y2 6 pu]) (va_A [ob m0 7 [.int lf, .int tr, .ref z0, .ref z1, .ref z2, .int (nI n), .ref y0, .ref y1, .ref y2, .int at_, .int rwi, .ref y3, .ref y4, .int sl, .int cr, .int gr, .ref y5, .ref y6, .int (nI rc), .ref x0, .ref x1, .ref x2, .ref x3], ar E y0 6 kd, ar E y2 6 pu] sz)) 0 0 (va_A [ob m0 7 [.int lf, .int tr, .ref z0, .ref z1, .ref z2, .int (nI n), .ref y0, .ref y1, .ref y2, .int at_, .int rwi, .ref y3, .ref y4, .int sl, .int cr, .int gr, .ref y5, .ref y6, .int (nI rc), .ref x0, .ref x1, .ref x2, .ref x3], ar E y0 6 kd, ar E y2 6 pu] sz) := by
  refine mkWi (cc := cX7_feel) (maxL := 2) (by decide) rfl (Nat.le_of_ble_eq_true rfl) ?_
  intro p e s m args below meth c QQ A hx hb hml hown hmn hts hK hA hP hD hS hret ls hl
  have hown : s.vm.findClass RX7 = some m.cls := hown
  have hl : lv_has ls 2 [(0, .ref m0), (1, .int w)] := hl
  have hinX7 : ∀ w ∈ wsX70, w ∈ wsX7_feel := by decide +kernel
  have fl_19 := hts (.fieldLink RX7 19 "GuardAbacusModel" "kind" "[I") (by decide +kernel)
  have fl_25 := hts (.fieldLink RX7 25 "GuardAbacusModel" "pushed" "[I") (by decide +kernel)
  refine lv_aload_n hx hb dX7_feel_0 rfl (lv_at hl 0 rfl) ?_
  refine lv_iload_n hx hb dX7_feel_1 rfl (lv_at hl 1 rfl) ?_
  refine crV (As := [.int w]) (rest := []) ⟨hx, hb, hml, hown, hts⟩ (c_X7_isWire l E m0 lf tr z0 z1 z2 n y0 y1 y2 at_ rwi y3 y4 sl cr gr y5 y6 rc x0 x1 x2 x3 w) (cwV 1 hts gX7_feel_X7_isWire rfl rfl rfl (by decide +kernel) ⟨Nat.le_of_ble_eq_true rfl, Nat.le_of_ble_eq_true rfl⟩) hK hP [0] rfl 0 rfl rfl rfl rfl hl.1 rfl (catLe (Nat.le_of_ble_eq_true rfl)) dX7_feel_2 ⟨Nat.zero_le _, Nat.zero_le _⟩ (fun r_1 hr_1 => ?_)
  subst hr_1
  refine ifB_ne (P := hasP n w) (tgt := 10) hx hb dX7_feel_5 (by decide) (fun c_2 => ?_) (fun c_2 => ?_)
  ·
    obtain ⟨j, hj, rfl⟩ := hasP_of c_2 hn
    have hix_j : ix (nI j) = j := ix_nI (by omega)
    refine lv_aload_n hx hb dX7_feel_10 rfl (lv_at hl 0 rfl) ?_
    refine lv_aload_n hx hb dX7_feel_11 rfl (lv_at hl 0 rfl) ?_
    refine va_get (D := E.1) (ci := 7) (v := .ref y0) (C := RX7) (T := TX7) (N := 23) hx hb hts hinX7 hown hK.1 hP 0 rfl rfl 6 (by decide) fl_19 (fun _ h9 => h9) rfl dX7_feel_12 ?_
    refine lv_iload_n hx hb dX7_feel_15 rfl (lv_at hl 1 rfl) ?_
    refine ild hx hb hK hP 1 rfl (j := j) rfl (by omega) (by decide) dX7_feel_16 ?_
    refine lv_iconst (v := 2) hx hb dX7_feel_17 (by decide) ?_
    refine lv_icmp_ne (tgt := 25) hx hb dX7_feel_18 (by decide) (fun c_3 => ?_) (fun c_3 => ?_)
    ·
      refine lv_iconst (v := 4) hx hb dX7_feel_25 (by decide) ?_
      refine cwVv (As := [.int 4]) (rest := []) ⟨hx, hb, hml, hown, hts⟩ (c_X7_begins l E _ m0 lf tr z0 z1 z2 n y0 y1 y2 at_ rwi y3 y4 sl cr gr y5 y6 rc x0 x1 x2 x3 4) (cwV 1 hts gX7_feel_X7_begins rfl rfl rfl (by decide +kernel) ⟨Nat.le_of_ble_eq_true rfl, Nat.le_of_ble_eq_true rfl⟩) hK hP hD hS hA [0] (by decide) rfl [m0] (fun _ => rfl) rfl 0 rfl rfl rfl rfl hl.1 rfl (catLe (Nat.le_of_ble_eq_true rfl)) dX7_feel_26 ⟨Nat.zero_le _, Nat.zero_le _⟩ (fun u_5 H locs hwr_4 hP hD hS => ?_)
      have hP : va_P E.1 vwCl [ob m0 7 [.int lf, .int (trF tr 4), .ref z0, .ref z1, .ref z2, .int (nI n), .ref y0, .ref y1, .ref y2, .int at_, .int rwi, .ref y3, .ref y4, .int sl, .int cr, .int gr, .ref y5, .ref y6, .int (nI rc), .ref x0, .ref x1, .ref x2, .ref x3], ar E y0 6 kd, ar E y2 6 pu] H := hP
      have hD : va_D A [ob m0 7 [.int lf, .int (trF tr 4), .ref z0, .ref z1, .ref z2, .int (nI n), .ref y0, .ref y1, .ref y2, .int at_, .int rwi, .ref y3, .ref y4, .int sl, .int cr, .int gr, .ref y5, .ref y6, .int (nI rc), .ref x0, .ref x1, .ref x2, .ref x3], ar E y0 6 kd, ar E y2 6 pu] := hD
      refine lv_aload_n hx hb dX7_feel_29 rfl (lv_at hl 0 rfl) ?_
      refine va_get (D := E.1) (ci := 7) (v := .ref y0) (C := RX7) (T := TX7) (N := 23) hx hb hts hinX7 hown hK.1 hP 0 rfl rfl 6 (by decide) fl_19 (fun _ h9 => h9) rfl dX7_feel_30 ?_
      refine lv_iload_n hx hb dX7_feel_33 rfl (lv_at hl 1 rfl) ?_
      refine ild hx hb hK hP 1 rfl (j := j) rfl (by omega) (by decide) dX7_feel_34 ?_
      refine lv_iconst (v := 2) hx hb dX7_feel_35 (by decide) ?_
      refine lv_icmp_ne (tgt := 44) hx hb dX7_feel_36 (by decide) (fun c_6 => ?_) (fun c_6 => ?_)
      ·
        refine lv_aload_n hx hb dX7_feel_44 rfl (lv_at hl 0 rfl) ?_
        refine va_get (D := E.1) (ci := 7) (v := .ref y2) (C := RX7) (T := TX7) (N := 23) hx hb hts hinX7 hown hK.1 hP 0 rfl rfl 8 (by decide) fl_25 (fun _ h9 => h9) rfl dX7_feel_45 ?_
        refine lv_iload_n hx hb dX7_feel_48 rfl (lv_at hl 1 rfl) ?_
        refine ild hx hb hK hP 2 rfl (j := j) rfl (by omega) (by decide) dX7_feel_49 ?_
        have eo_7 : (spFeelT n kd (nI j) tr) = (trF tr 4) := by simp [spFeelT, c_2, hix_j, c_3, c_6]
        exact hret _ _ _ _ _ () dX7_feel_50 hS (by rw [eo_7]; exact hP) (by simp [spFeel, c_2, hix_j, c_3, c_6])
      ·
        exact absurd c_6 c_3
    ·
      refine lv_iconst (v := 5) hx hb dX7_feel_21 (by decide) ?_
      refine lv_goto (tgt := 26) hx hb dX7_feel_22 (by decide) ?_
      refine cwVv (As := [.int 5]) (rest := []) ⟨hx, hb, hml, hown, hts⟩ (c_X7_begins l E _ m0 lf tr z0 z1 z2 n y0 y1 y2 at_ rwi y3 y4 sl cr gr y5 y6 rc x0 x1 x2 x3 5) (cwV 1 hts gX7_feel_X7_begins rfl rfl rfl (by decide +kernel) ⟨Nat.le_of_ble_eq_true rfl, Nat.le_of_ble_eq_true rfl⟩) hK hP hD hS hA [0] (by decide) rfl [m0] (fun _ => rfl) rfl 0 rfl rfl rfl rfl hl.1 rfl (catLe (Nat.le_of_ble_eq_true rfl)) dX7_feel_26 ⟨Nat.zero_le _, Nat.zero_le _⟩ (fun u_9 H locs hwr_8 hP hD hS => ?_)
      have hP : va_P E.1 vwCl [ob m0 7 [.int lf, .int (trF tr 5), .ref z0, .ref z1, .ref z2, .int (nI n), .ref y0, .ref y1, .ref y2, .int at_, .int rwi, .ref y3, .ref y4, .int sl, .int cr, .int gr, .ref y5, .ref y6, .int (nI rc), .ref x0, .ref x1, .ref x2, .ref x3], ar E y0 6 kd, ar E y2 6 pu] H := hP
      have hD : va_D A [ob m0 7 [.int lf, .int (trF tr 5), .ref z0, .ref z1, .ref z2, .int (nI n), .ref y0, .ref y1, .ref y2, .int at_, .int rwi, .ref y3, .ref y4, .int sl, .int cr, .int gr, .ref y5, .ref y6, .int (nI rc), .ref x0, .ref x1, .ref x2, .ref x3], ar E y0 6 kd, ar E y2 6 pu] := hD
      refine lv_aload_n hx hb dX7_feel_29 rfl (lv_at hl 0 rfl) ?_
      refine va_get (D := E.1) (ci := 7) (v := .ref y0) (C := RX7) (T := TX7) (N := 23) hx hb hts hinX7 hown hK.1 hP 0 rfl rfl 6 (by decide) fl_19 (fun _ h9 => h9) rfl dX7_feel_30 ?_
      refine lv_iload_n hx hb dX7_feel_33 rfl (lv_at hl 1 rfl) ?_
      refine ild hx hb hK hP 1 rfl (j := j) rfl (by omega) (by decide) dX7_feel_34 ?_
      refine lv_iconst (v := 2) hx hb dX7_feel_35 (by decide) ?_
      refine lv_icmp_ne (tgt := 44) hx hb dX7_feel_36 (by decide) (fun c_10 => ?_) (fun c_10 => ?_)
      ·
        exact absurd c_3 c_10
      ·
        refine lv_bipush (v := 90) hx hb dX7_feel_39 (by decide) ?_
        refine lv_goto (tgt := 50) hx hb dX7_feel_41 (by decide) ?_
        have eo_11 : (spFeelT n kd (nI j) tr) = (trF tr 5) := by simp [spFeelT, c_2, hix_j, c_3, c_10]
        exact hret _ _ _ _ _ () dX7_feel_50 hS (by rw [eo_11]; exact hP) (by simp [spFeel, c_2, hix_j, c_3, c_10])
  ·
    refine lv_iconst (v := (-1)) hx hb dX7_feel_8 (by decide) ?_
    have eo_12 : (spFeelT n kd w tr) = tr := by simp [spFeelT, c_2]
    exact hret _ _ _ _ _ () dX7_feel_9 hS (by rw [eo_12]; exact hP) (by simp [spFeel, c_2])
set_option maxHeartbeats 4000000 in
set_option maxRecDepth 100000 in
theorem c_X7_as (l : Launch) (E : gE) (sz : Nat) (m0 : Nat) (lf : Int32) (tr : Int32) (z0 : Nat) (z1 : Nat) (z2 : Nat) (n : Nat) (y0 : Nat) (y1 : Nat) (y2 : Nat) (at_ : Int32) (rwi : Int32) (y3 : Nat) (y4 : Nat) (sl : Int32) (cr : Int32) (gr : Int32) (y5 : Nat) (y6 : Nat) (rc : Nat) (x0 : Nat) (x1 : Nat) (x2 : Nat) (x3 : Nat) (kd : Nat → Int32) (w : Int32) (x : Int32) (hn : n ≤ 6) : Met l yX7_as wsX7_as ({ frames := 1, cells := 0, slots := 0, locals := 22 }) (PW E [.ref m0, .int w, .int x] [ob m0 7 [.int lf, .int tr, .ref z0, .ref z1, .ref z2, .int (nI n), .ref y0, .ref y1, .ref y2, .int at_, .int rwi, .ref y3, .ref y4, .int sl, .int cr, .int gr, .ref y5, .ref y6, .int (nI rc), .ref x0, .ref x1, .ref x2, .ref x3], ar E y0 6 kd] sz) (QWi E (fun r _ => r = spAs n kd w x) (fun (_ : Unit) => [ob m0 7 [.int (fltF (spAs n kd w x)), .int tr, .ref z0, .ref z1, .ref z2, .int (nI n), .ref y0, .ref y1, .ref y2, .int at_, .int rwi, .ref y3, .ref y4, .int sl, .int cr, .int gr, .ref y5, .ref y6, .int (nI rc), .ref x0, .ref x1, .ref x2, .ref x3], ar E y0 6 kd]) (va_A [ob m0 7 [.int lf, .int tr, .ref z0, .ref z1, .ref z2, .int (nI n), .ref y0, .ref y1, .ref y2, .int at_, .int rwi, .ref y3, .ref y4, .int sl, .int cr, .int gr, .ref y5, .ref y6, .int (nI rc), .ref x0, .ref x1, .ref x2, .ref x3], ar E y0 6 kd] sz)) 0 0 (va_A [ob m0 7 [.int lf, .int tr, .ref z0, .ref z1, .ref z2, .int (nI n), .ref y0, .ref y1, .ref y2, .int at_, .int rwi, .ref y3, .ref y4, .int sl, .int cr, .int gr, .ref y5, .ref y6, .int (nI rc), .ref x0, .ref x1, .ref x2, .ref x3], ar E y0 6 kd] sz) := by
  refine mkWi (cc := cX7_as) (maxL := 3) (by decide) rfl (Nat.le_of_ble_eq_true rfl) ?_
  intro p e s m args below meth c QQ A hx hb hml hown hmn hts hK hA hP hD hS hret ls hl
  have hown : s.vm.findClass RX7 = some m.cls := hown
  have hl : lv_has ls 3 [(0, .ref m0), (1, .int w), (2, .int x)] := hl
  have hinX7 : ∀ w ∈ wsX70, w ∈ wsX7_as := by decide +kernel
  have fl_19 := hts (.fieldLink RX7 19 "GuardAbacusModel" "kind" "[I") (by decide +kernel)
  have fl_52 := hts (.fieldLink RX7 52 "GuardAbacusModel" "fault" "I") (by decide +kernel)
  refine lv_aload_n hx hb dX7_as_0 rfl (lv_at hl 0 rfl) ?_
  refine lv_iconst (v := 0) hx hb dX7_as_1 (by decide) ?_
  refine va_put (D := E.1) (ci := 7) (v := .int 0) (ty := .int) (C := RX7) (T := TX7) (N := 23) hx hb hts hinX7 tyX7 tyX7_ok nmX7 hown hK.1 hP hD hS 0 rfl rfl 0 (by decide) fl_52 (fun _ h9 => h9) rfl (by decide +kernel) rfl rfl (Nat.le_of_ble_eq_true rfl) dX7_as_2 (fun H locs hP hD hS => ?_)
  have hP : va_P E.1 vwCl [ob m0 7 [.int 0, .int tr, .ref z0, .ref z1, .ref z2, .int (nI n), .ref y0, .ref y1, .ref y2, .int at_, .int rwi, .ref y3, .ref y4, .int sl, .int cr, .int gr, .ref y5, .ref y6, .int (nI rc), .ref x0, .ref x1, .ref x2, .ref x3], ar E y0 6 kd] H := hP
  have hD : va_D A [ob m0 7 [.int 0, .int tr, .ref z0, .ref z1, .ref z2, .int (nI n), .ref y0, .ref y1, .ref y2, .int at_, .int rwi, .ref y3, .ref y4, .int sl, .int cr, .int gr, .ref y5, .ref y6, .int (nI rc), .ref x0, .ref x1, .ref x2, .ref x3], ar E y0 6 kd] := hD
  refine lv_aload_n hx hb dX7_as_5 rfl (lv_at hl 0 rfl) ?_
  refine lv_iload_n hx hb dX7_as_6 rfl (lv_at hl 1 rfl) ?_
  refine crV (As := [.int w]) (rest := []) ⟨hx, hb, hml, hown, hts⟩ (c_X7_isWire l E m0 0 tr z0 z1 z2 n y0 y1 y2 at_ rwi y3 y4 sl cr gr y5 y6 rc x0 x1 x2 x3 w) (cwV 1 hts gX7_as_X7_isWire rfl rfl rfl (by decide +kernel) ⟨Nat.le_of_ble_eq_true rfl, Nat.le_of_ble_eq_true rfl⟩) hK hP [0] rfl 0 rfl rfl rfl rfl hl.1 rfl (catLe (Nat.le_of_ble_eq_true rfl)) dX7_as_7 ⟨Nat.zero_le _, Nat.zero_le _⟩ (fun r_1 hr_1 => ?_)
  subst hr_1
  refine ifB_ne (P := hasP n w) (tgt := 15) hx hb dX7_as_10 (by decide) (fun c_2 => ?_) (fun c_2 => ?_)
  ·
    obtain ⟨j, hj, rfl⟩ := hasP_of c_2 hn
    have hix_j : ix (nI j) = j := ix_nI (by omega)
    refine lv_iload_n hx hb dX7_as_15 rfl (lv_at hl 2 rfl) ?_
    refine lv_iconst (v := 0) hx hb dX7_as_16 (by decide) ?_
    refine lv_iconst (v := 2) hx hb dX7_as_17 (by decide) ?_
    refine crS (As := [.int x, .int 0, .int 2]) (rest := []) ⟨hx, hb, hml, hown, hts⟩ (c_X7_within l E x 0 2) (va_cwS 3 hts gX7_as_X7_within rfl rfl rfl (by decide +kernel) ⟨Nat.le_of_ble_eq_true rfl, Nat.le_of_ble_eq_true rfl⟩) hK hP [] rfl rfl hl.1 rfl (catLe (Nat.le_of_ble_eq_true rfl)) dX7_as_18 ⟨Nat.zero_le _, Nat.zero_le _⟩ (fun r_3 hr_3 => ?_)
    subst hr_3
    refine ifB_ne (P := wiP x 0 2) (tgt := 27) hx hb dX7_as_21 (by decide) (fun c_4 => ?_) (fun c_4 => ?_)
    ·
      refine lv_aload_n hx hb dX7_as_27 rfl (lv_at hl 0 rfl) ?_
      refine va_get (D := E.1) (ci := 7) (v := .ref y0) (C := RX7) (T := TX7) (N := 23) hx hb hts hinX7 hown hK.1 hP 0 rfl rfl 6 (by decide) fl_19 (fun _ h9 => h9) rfl dX7_as_28 ?_
      refine lv_iload_n hx hb dX7_as_31 rfl (lv_at hl 1 rfl) ?_
      refine ild hx hb hK hP 1 rfl (j := j) rfl (by omega) (by decide) dX7_as_32 ?_
      refine lv_iload_n hx hb dX7_as_33 rfl (lv_at hl 2 rfl) ?_
      refine lv_icmp_lt (tgt := 41) hx hb dX7_as_34 (by decide) (fun c_5 => ?_) (fun c_5 => ?_)
      ·
        have c_5b := Int32.not_le.mpr c_5
        refine lv_aload_n hx hb dX7_as_41 rfl (lv_at hl 0 rfl) ?_
        refine lv_iconst (v := 2) hx hb dX7_as_42 (by decide) ?_
        refine cwVi (As := [.int 2]) (rest := []) ⟨hx, hb, hml, hown, hts⟩ (c_X7_fails l E _ m0 0 tr z0 z1 z2 n y0 y1 y2 at_ rwi y3 y4 sl cr gr y5 y6 rc x0 x1 x2 x3 2) (cwV 1 hts gX7_as_X7_fails rfl rfl rfl (by decide +kernel) ⟨Nat.le_of_ble_eq_true rfl, Nat.le_of_ble_eq_true rfl⟩) hK hP hD hS hA [0] (by decide) rfl [m0] (fun _ => rfl) rfl 0 rfl rfl rfl rfl hl.1 rfl (catLe (Nat.le_of_ble_eq_true rfl)) dX7_as_43 ⟨Nat.zero_le _, Nat.zero_le _⟩ (fun r_6 u_7 H locs hwr_6 hP hD hS => ?_)
        have hP : va_P E.1 vwCl [ob m0 7 [.int 2, .int tr, .ref z0, .ref z1, .ref z2, .int (nI n), .ref y0, .ref y1, .ref y2, .int at_, .int rwi, .ref y3, .ref y4, .int sl, .int cr, .int gr, .ref y5, .ref y6, .int (nI rc), .ref x0, .ref x1, .ref x2, .ref x3], ar E y0 6 kd] H := hP
        have hD : va_D A [ob m0 7 [.int 2, .int tr, .ref z0, .ref z1, .ref z2, .int (nI n), .ref y0, .ref y1, .ref y2, .int at_, .int rwi, .ref y3, .ref y4, .int sl, .int cr, .int gr, .ref y5, .ref y6, .int (nI rc), .ref x0, .ref x1, .ref x2, .ref x3], ar E y0 6 kd] := hD
        subst hwr_6
        have eA : spAs n kd (nI j) x = -12 := by rw [spAs, if_neg (not_not_intro c_2), if_neg (wi_yes3 c_4).1, if_neg (not_not_intro (wi_yes3 c_4).2), hix_j, if_neg c_5b]
        exact hret _ _ _ _ _ () dX7_as_46 hS (by rw [eA]; exact hP) eA.symm
      ·
        have c_5b := Int32.not_lt.mp c_5
        refine lv_iconst (v := 1) hx hb dX7_as_37 (by decide) ?_
        refine lv_goto (tgt := 46) hx hb dX7_as_38 (by decide) ?_
        have eA : spAs n kd (nI j) x = 1 := by rw [spAs, if_neg (not_not_intro c_2), if_neg (wi_yes3 c_4).1, if_neg (not_not_intro (wi_yes3 c_4).2), hix_j, if_pos c_5b]
        exact hret _ _ _ _ _ () dX7_as_46 hS (by rw [eA]; exact hP) eA.symm
    ·
      refine lv_bipush (v := (-2)) hx hb dX7_as_24 (by decide) ?_
      have eA : spAs n kd (nI j) x = -2 := by rw [spAs, if_neg (not_not_intro c_2), wi_no3 c_4]
      exact hret _ _ _ _ _ () dX7_as_26 hS (by rw [eA]; exact hP) eA.symm
  ·
    refine lv_iconst (v := (-1)) hx hb dX7_as_13 (by decide) ?_
    have eA : spAs n kd w x = -1 := by rw [spAs, if_pos c_2]
    exact hret _ _ _ _ _ () dX7_as_14 hS (by rw [eA]; exact hP) eA.symm
set_option maxHeartbeats 4000000 in
set_option maxRecDepth 100000 in
theorem c_X7_many (l : Launch) (E : gE) (m0 : Nat) (lf : Int32) (tr : Int32) (z0 : Nat) (z1 : Nat) (z2 : Nat) (n : Nat) (y0 : Nat) (y1 : Nat) (y2 : Nat) (at_ : Int32) (rwi : Int32) (y3 : Nat) (y4 : Nat) (sl : Int32) (cr : Int32) (gr : Int32) (y5 : Nat) (y6 : Nat) (rc : Nat) (x0 : Nat) (x1 : Nat) (x2 : Nat) (x3 : Nat) (mn : Nat → Int32) (what : Int32) (hn : n ≤ 6) : Met l yX7_many wsX7_many ({ frames := 0, cells := 0, slots := 0, locals := 0 }) (PR E [.ref m0, .int what] [ob m0 7 [.int lf, .int tr, .ref z0, .ref z1, .ref z2, .int (nI n), .ref y0, .ref y1, .ref y2, .int at_, .int rwi, .ref y3, .ref y4, .int sl, .int cr, .int gr, .ref y5, .ref y6, .int (nI rc), .ref x0, .ref x1, .ref x2, .ref x3], ar E y1 6 mn]) (vp_Si (fun r => r = spMany n rc mn what)) 0 0 (fun _ => False) := by
  refine mkRi (cc := cX7_many) (maxL := 4) (by decide) rfl (Nat.le_of_ble_eq_true rfl) ?_
  intro p e s m args below meth c QQ hx hb hml hown hmn hts hK hP hret ls hl
  have hown : s.vm.findClass RX7 = some m.cls := hown
  have hl : lv_has ls 4 [(0, .ref m0), (1, .int what)] := hl
  have hinX7 : ∀ w ∈ wsX70, w ∈ wsX7_many := by decide +kernel
  have fl_22 := hts (.fieldLink RX7 22 "GuardAbacusModel" "men" "[I") (by decide +kernel)
  have fl_62 := hts (.fieldLink RX7 62 "GuardAbacusModel" "wires" "I") (by decide +kernel)
  have fl_89 := hts (.fieldLink RX7 89 "GuardAbacusModel" "readings" "I") (by decide +kernel)
  refine lv_iload_n hx hb dX7_many_0 rfl (lv_at hl 1 rfl) ?_
  by_cases q_1 : what = 0
  ·
    subst q_1
    refine lv_tableIn (off := 27) (tgt := 28) hx hb dX7_many_1 (by decide) (by decide) rfl (by decide) ?_
    refine lv_aload_n hx hb dX7_many_28 rfl (lv_at hl 0 rfl) ?_
    refine va_get (D := E.1) (ci := 7) (v := .int (nI n)) (C := RX7) (T := TX7) (N := 23) hx hb hts hinX7 hown hK.1 hP 0 rfl rfl 5 (by decide) fl_62 (fun _ h9 => h9) rfl dX7_many_29 ?_
    exact hret _ _ _ dX7_many_32 rfl
  by_cases q_2 : what = 1
  ·
    subst q_2
    refine lv_tableIn (off := 32) (tgt := 33) hx hb dX7_many_1 (by decide) (by decide) rfl (by decide) ?_
    refine lv_iconst (v := 0) hx hb dX7_many_33 (by decide) ?_
    refine lv_istore_n (lv' := [(2, .int 0), (0, .ref m0), (1, .int 1)]) hx hb dX7_many_34 rfl hl (by decide) rfl (fun ls hl => ?_)
    refine lv_iconst (v := 0) hx hb dX7_many_35 (by decide) ?_
    refine lv_istore_n (lv' := [(3, .int 0), (2, .int 0), (0, .ref m0), (1, .int 1)]) hx hb dX7_many_36 rfl hl (by decide) rfl (fun ls hl => ?_)
    have L37 : ∀ (fuel : Nat) (k : Nat), (k ≤ n) → (n - k) < fuel → ∀ ls : Array Slot, lv_has ls 4 [(3, .int (nI k)), (2, .int (sumF mn k)), (0, .ref m0), (1, .int 1)] → W p l e ({ frames := 0, cells := 0, slots := 0, locals := 0 }) s m args below meth c s.heap [] 0 0 QQ (F0 m 37 ls []) := by
      intro fuel
      induction fuel with
      | zero => intro k hk hf; exact absurd hf (Nat.not_lt_zero _)
      | succ fuel ih37 =>
        intro k hk hf37 ls hl
        refine lv_iload_n hx hb dX7_many_37 rfl (lv_at hl 0 rfl) ?_
        refine lv_aload_n hx hb dX7_many_38 rfl (lv_at hl 2 rfl) ?_
        refine va_get (D := E.1) (ci := 7) (v := .int (nI n)) (C := RX7) (T := TX7) (N := 23) hx hb hts hinX7 hown hK.1 hP 0 rfl rfl 5 (by decide) fl_62 (fun _ h9 => h9) rfl dX7_many_39 ?_
        refine icmpN_ge (tgt := 60) (a := k) (b := n) hx hb rfl rfl (by omega) (by omega) dX7_many_42 (by decide) (fun c_3 => ?_) (fun c_3 => ?_)
        ·
          obtain rfl : n = k := by omega
          refine lv_iload_n hx hb dX7_many_60 rfl (lv_at hl 1 rfl) ?_
          exact hret _ _ _ dX7_many_61 rfl
        ·
          refine lv_iload_n hx hb dX7_many_45 rfl (lv_at hl 1 rfl) ?_
          refine lv_aload_n hx hb dX7_many_46 rfl (lv_at hl 2 rfl) ?_
          refine va_get (D := E.1) (ci := 7) (v := .ref y1) (C := RX7) (T := TX7) (N := 23) hx hb hts hinX7 hown hK.1 hP 0 rfl rfl 7 (by decide) fl_22 (fun _ h9 => h9) rfl dX7_many_47 ?_
          refine lv_iload_n hx hb dX7_many_50 rfl (lv_at hl 0 rfl) ?_
          refine ild hx hb hK hP 1 rfl (j := k) rfl (by omega) (by decide) dX7_many_51 ?_
          refine lv_iadd hx hb dX7_many_52 ?_
          refine lv_istore_n (lv' := [(2, .int ((sumF mn k) + (mn k))), (3, .int (nI k)), (0, .ref m0), (1, .int 1)]) hx hb dX7_many_53 rfl hl (by decide) rfl (fun ls hl => ?_)
          refine lv_iinc (v := nI (k + 1)) (lv' := [(3, .int (nI (k + 1))), (2, .int ((sumF mn k) + (mn k))), (0, .ref m0), (1, .int 1)]) hx hb dX7_many_54 hl (k := 1) rfl (nI_inc k) (by decide) rfl (fun ls hl => ?_)
          refine lv_goto (tgt := 37) hx hb dX7_many_57 (by decide) ?_
          exact ih37 (k + 1) (by omega) (by omega) ls (lv_sub hl [0, 1, 2, 3] rfl)
    exact L37 _ 0 (by omega) (Nat.lt_succ_self _) ls (lv_sub hl [0, 1, 2, 3] rfl)
  by_cases q_4 : what = 2
  ·
    subst q_4
    refine lv_tableIn (off := 61) (tgt := 62) hx hb dX7_many_1 (by decide) (by decide) rfl (by decide) ?_
    refine lv_aload_n hx hb dX7_many_62 rfl (lv_at hl 0 rfl) ?_
    refine va_get (D := E.1) (ci := 7) (v := .int (nI rc)) (C := RX7) (T := TX7) (N := 23) hx hb hts hinX7 hown hK.1 hP 0 rfl rfl 18 (by decide) fl_89 (fun _ h9 => h9) rfl dX7_many_63 ?_
    exact hret _ _ _ dX7_many_66 rfl
  refine lv_tableOut (tgt := 67) hx hb dX7_many_1 (by have z0 := lv_neT q_1 (show (0 : Int32).toInt = 0 from rfl); have z1 := lv_neT q_2 (show (1 : Int32).toInt = 1 from rfl); have z2 := lv_neT q_4 (show (2 : Int32).toInt = 2 from rfl); omega) (by decide) ?_
  refine lv_bipush (v := (-2)) hx hb dX7_many_67 (by decide) ?_
  exact hret _ _ _ dX7_many_69 (by simp [spMany, q_1, q_2, q_4])
set_option maxHeartbeats 4000000 in
set_option maxRecDepth 100000 in
theorem c_X7_sheet (l : Launch) (E : gE) (sz : Nat) (m0 : Nat) (lf : Int32) (tr : Int32) (z0 : Nat) (z1 : Nat) (z2 : Nat) (n : Nat) (y0 : Nat) (y1 : Nat) (y2 : Nat) (at_ : Int32) (rwi : Int32) (y3 : Nat) (y4 : Nat) (sl : Int32) (cr : Int32) (gr : Int32) (y5 : Nat) (y6 : Nat) (rc : Nat) (x0 : Nat) (x1 : Nat) (x2 : Nat) (x3 : Nat) (so : Nat → Int32) (sg : Nat → Int32) (cc : Nat → Int32) (j : Nat) (k : Int32) (lane : Int32) (x : Int32) (hj4 : j < 4) (hjs : shP k → k = nI j) : Met l yX7_sheet wsX7_sheet ({ frames := 2, cells := 0, slots := 0, locals := 42 }) (PW E [.ref m0, .int k, .int lane, .int x] [ob m0 7 [.int lf, .int tr, .ref z0, .ref z1, .ref z2, .int (nI n), .ref y0, .ref y1, .ref y2, .int at_, .int rwi, .ref y3, .ref y4, .int sl, .int cr, .int gr, .ref y5, .ref y6, .int (nI rc), .ref x0, .ref x1, .ref x2, .ref x3], ar E z0 4 so, ar E z1 4 sg, ar E z2 240 cc] sz) (QWi E (fun r _ => r = spSheet k lane x) (fun (_ : Unit) => [ob m0 7 [.int (fltF (spSheet k lane x)), .int tr, .ref z0, .ref z1, .ref z2, .int (nI n), .ref y0, .ref y1, .ref y2, .int at_, .int rwi, .ref y3, .ref y4, .int sl, .int cr, .int gr, .ref y5, .ref y6, .int (nI rc), .ref x0, .ref x1, .ref x2, .ref x3], ar E z0 4 (if shOk k lane x then upd so j lane else so), ar E z1 4 (if shOk k lane x then upd sg j x else sg), ar E z2 240 (if shOk k lane x then zerK cc j 60 else cc)]) (va_A [ob m0 7 [.int lf, .int tr, .ref z0, .ref z1, .ref z2, .int (nI n), .ref y0, .ref y1, .ref y2, .int at_, .int rwi, .ref y3, .ref y4, .int sl, .int cr, .int gr, .ref y5, .ref y6, .int (nI rc), .ref x0, .ref x1, .ref x2, .ref x3], ar E z0 4 so, ar E z1 4 sg, ar E z2 240 cc] sz)) 0 0 (va_A [ob m0 7 [.int lf, .int tr, .ref z0, .ref z1, .ref z2, .int (nI n), .ref y0, .ref y1, .ref y2, .int at_, .int rwi, .ref y3, .ref y4, .int sl, .int cr, .int gr, .ref y5, .ref y6, .int (nI rc), .ref x0, .ref x1, .ref x2, .ref x3], ar E z0 4 so, ar E z1 4 sg, ar E z2 240 cc] sz) := by
  refine mkWi (cc := cX7_sheet) (maxL := 5) (by decide) rfl (Nat.le_of_ble_eq_true rfl) ?_
  intro p e s m args below meth c QQ A hx hb hml hown hmn hts hK hA hP hD hS hret ls hl
  have hown : s.vm.findClass RX7 = some m.cls := hown
  have hl : lv_has ls 5 [(0, .ref m0), (1, .int k), (2, .int lane), (3, .int x)] := hl
  have hinX7 : ∀ w ∈ wsX70, w ∈ wsX7_sheet := by decide +kernel
  have fl_9 := hts (.fieldLink RX7 9 "GuardAbacusModel" "sorts" "[I") (by decide +kernel)
  have fl_13 := hts (.fieldLink RX7 13 "GuardAbacusModel" "sheetLong" "[I") (by decide +kernel)
  have fl_16 := hts (.fieldLink RX7 16 "GuardAbacusModel" "cells" "[I") (by decide +kernel)
  have fl_52 := hts (.fieldLink RX7 52 "GuardAbacusModel" "fault" "I") (by decide +kernel)
  refine lv_aload_n hx hb dX7_sheet_0 rfl (lv_at hl 0 rfl) ?_
  refine lv_iconst (v := 0) hx hb dX7_sheet_1 (by decide) ?_
  refine va_put (D := E.1) (ci := 7) (v := .int 0) (ty := .int) (C := RX7) (T := TX7) (N := 23) hx hb hts hinX7 tyX7 tyX7_ok nmX7 hown hK.1 hP hD hS 0 rfl rfl 0 (by decide) fl_52 (fun _ h9 => h9) rfl (by decide +kernel) rfl rfl (Nat.le_of_ble_eq_true rfl) dX7_sheet_2 (fun H locs hP hD hS => ?_)
  have hP : va_P E.1 vwCl [ob m0 7 [.int 0, .int tr, .ref z0, .ref z1, .ref z2, .int (nI n), .ref y0, .ref y1, .ref y2, .int at_, .int rwi, .ref y3, .ref y4, .int sl, .int cr, .int gr, .ref y5, .ref y6, .int (nI rc), .ref x0, .ref x1, .ref x2, .ref x3], ar E z0 4 so, ar E z1 4 sg, ar E z2 240 cc] H := hP
  have hD : va_D A [ob m0 7 [.int 0, .int tr, .ref z0, .ref z1, .ref z2, .int (nI n), .ref y0, .ref y1, .ref y2, .int at_, .int rwi, .ref y3, .ref y4, .int sl, .int cr, .int gr, .ref y5, .ref y6, .int (nI rc), .ref x0, .ref x1, .ref x2, .ref x3], ar E z0 4 so, ar E z1 4 sg, ar E z2 240 cc] := hD
  refine lv_iload_n hx hb dX7_sheet_5 rfl (lv_at hl 1 rfl) ?_
  refine crS (As := [.int k]) (rest := []) ⟨hx, hb, hml, hown, hts⟩ (c_X7_isSheet l E k) (va_cwS 1 hts gX7_sheet_X7_isSheet rfl rfl rfl (by decide +kernel) ⟨Nat.le_of_ble_eq_true rfl, Nat.le_of_ble_eq_true rfl⟩) hK hP [] rfl rfl hl.1 rfl (catLe (Nat.le_of_ble_eq_true rfl)) dX7_sheet_6 ⟨Nat.zero_le _, Nat.zero_le _⟩ (fun r_1 hr_1 => ?_)
  subst hr_1
  refine ifB_ne (P := shP k) (tgt := 14) hx hb dX7_sheet_9 (by decide) (fun c_2 => ?_) (fun c_2 => ?_)
  ·
    have hsh := hjs c_2
    subst hsh
    refine lv_iload_n hx hb dX7_sheet_14 rfl (lv_at hl 2 rfl) ?_
    refine crS (As := [.int lane]) (rest := []) ⟨hx, hb, hml, hown, hts⟩ (c_X7_isSort l E lane) (va_cwS 1 hts gX7_sheet_X7_isSort rfl rfl rfl (by decide +kernel) ⟨Nat.le_of_ble_eq_true rfl, Nat.le_of_ble_eq_true rfl⟩) hK hP [] rfl rfl hl.1 rfl (catLe (Nat.le_of_ble_eq_true rfl)) dX7_sheet_15 ⟨Nat.zero_le _, Nat.zero_le _⟩ (fun r_3 hr_3 => ?_)
    subst hr_3
    refine ifB_eq (P := laP lane) (tgt := 27) hx hb dX7_sheet_18 (by decide) (fun c_4 => ?_) (fun c_4 => ?_)
    ·
      refine lv_bipush (v := (-2)) hx hb dX7_sheet_27 (by decide) ?_
      have eA : spSheet (nI j) lane x = -2 := by rw [spSheet, if_neg (not_not_intro c_2), if_pos c_4]
      have e1 : fltF (spSheet (nI j) lane x) = 0 := by rw [eA]; rfl
      have hk0 : ¬ shOk (nI j) lane x := fun h => c_4 h.2.1
      exact hret _ _ _ _ _ () dX7_sheet_29 hS (by rw [e1, if_neg hk0, if_neg hk0, if_neg hk0]; exact hP) eA.symm
    ·
      refine lv_iload_n hx hb dX7_sheet_21 rfl (lv_at hl 3 rfl) ?_
      refine lv_bipush (v := 60) hx hb dX7_sheet_22 (by decide) ?_
      refine lv_icmp_le (tgt := 30) hx hb dX7_sheet_24 (by decide) (fun c_5 => ?_) (fun c_5 => ?_)
      ·
        have c_5b := Int32.not_lt.mpr c_5
        refine lv_iload_n hx hb dX7_sheet_30 rfl (lv_at hl 3 rfl) ?_
        refine lv_if_ge (tgt := 40) hx hb dX7_sheet_31 (by decide) (fun c_6 => ?_) (fun c_6 => ?_)
        ·
          have c_6b := Int32.not_lt.mpr c_6
          refine lv_aload_n hx hb dX7_sheet_40 rfl (lv_at hl 0 rfl) ?_
          refine va_get (D := E.1) (ci := 7) (v := .ref z0) (C := RX7) (T := TX7) (N := 23) hx hb hts hinX7 hown hK.1 hP 0 rfl rfl 2 (by decide) fl_9 (fun _ h9 => h9) rfl dX7_sheet_41 ?_
          refine lv_iload_n hx hb dX7_sheet_44 rfl (lv_at hl 1 rfl) ?_
          refine lv_iload_n hx hb dX7_sheet_45 rfl (lv_at hl 2 rfl) ?_
          refine ist hx hb hK hP hD hS 1 rfl (j := j) rfl (by omega) (by decide) dX7_sheet_46 (fun H locs hP hD hS => ?_)
          have hP : va_P E.1 vwCl [ob m0 7 [.int 0, .int tr, .ref z0, .ref z1, .ref z2, .int (nI n), .ref y0, .ref y1, .ref y2, .int at_, .int rwi, .ref y3, .ref y4, .int sl, .int cr, .int gr, .ref y5, .ref y6, .int (nI rc), .ref x0, .ref x1, .ref x2, .ref x3], ar E z0 4 (upd so j lane), ar E z1 4 sg, ar E z2 240 cc] H := hP
          have hD : va_D A [ob m0 7 [.int 0, .int tr, .ref z0, .ref z1, .ref z2, .int (nI n), .ref y0, .ref y1, .ref y2, .int at_, .int rwi, .ref y3, .ref y4, .int sl, .int cr, .int gr, .ref y5, .ref y6, .int (nI rc), .ref x0, .ref x1, .ref x2, .ref x3], ar E z0 4 (upd so j lane), ar E z1 4 sg, ar E z2 240 cc] := hD
          refine lv_aload_n hx hb dX7_sheet_47 rfl (lv_at hl 0 rfl) ?_
          refine va_get (D := E.1) (ci := 7) (v := .ref z1) (C := RX7) (T := TX7) (N := 23) hx hb hts hinX7 hown hK.1 hP 0 rfl rfl 3 (by decide) fl_13 (fun _ h9 => h9) rfl dX7_sheet_48 ?_
          refine lv_iload_n hx hb dX7_sheet_51 rfl (lv_at hl 1 rfl) ?_
          refine lv_iload_n hx hb dX7_sheet_52 rfl (lv_at hl 3 rfl) ?_
          refine ist hx hb hK hP hD hS 2 rfl (j := j) rfl (by omega) (by decide) dX7_sheet_53 (fun H locs hP hD hS => ?_)
          have hP : va_P E.1 vwCl [ob m0 7 [.int 0, .int tr, .ref z0, .ref z1, .ref z2, .int (nI n), .ref y0, .ref y1, .ref y2, .int at_, .int rwi, .ref y3, .ref y4, .int sl, .int cr, .int gr, .ref y5, .ref y6, .int (nI rc), .ref x0, .ref x1, .ref x2, .ref x3], ar E z0 4 (upd so j lane), ar E z1 4 (upd sg j x), ar E z2 240 cc] H := hP
          have hD : va_D A [ob m0 7 [.int 0, .int tr, .ref z0, .ref z1, .ref z2, .int (nI n), .ref y0, .ref y1, .ref y2, .int at_, .int rwi, .ref y3, .ref y4, .int sl, .int cr, .int gr, .ref y5, .ref y6, .int (nI rc), .ref x0, .ref x1, .ref x2, .ref x3], ar E z0 4 (upd so j lane), ar E z1 4 (upd sg j x), ar E z2 240 cc] := hD
          refine lv_iconst (v := 0) hx hb dX7_sheet_54 (by decide) ?_
          refine lv_istore (lv' := [(4, .int 0), (0, .ref m0), (1, .int (nI j)), (2, .int lane), (3, .int x)]) hx hb dX7_sheet_55 hl (by decide) rfl (fun ls hl => ?_)
          rw [← zerK_0 cc j] at hP hD
          have L57 : ∀ (fuel : Nat) (q : Nat), (q ≤ 60) → (60 - q) < fuel → ∀ (H : Heap) (locs : List Loc), va_P E.1 vwCl [ob m0 7 [.int 0, .int tr, .ref z0, .ref z1, .ref z2, .int (nI n), .ref y0, .ref y1, .ref y2, .int at_, .int rwi, .ref y3, .ref y4, .int sl, .int cr, .int gr, .ref y5, .ref y6, .int (nI rc), .ref x0, .ref x1, .ref x2, .ref x3], ar E z0 4 (upd so j lane), ar E z1 4 (upd sg j x), ar E z2 240 (zerK cc j q)] H → va_D A [ob m0 7 [.int 0, .int tr, .ref z0, .ref z1, .ref z2, .int (nI n), .ref y0, .ref y1, .ref y2, .int at_, .int rwi, .ref y3, .ref y4, .int sl, .int cr, .int gr, .ref y5, .ref y6, .int (nI rc), .ref x0, .ref x1, .ref x2, .ref x3], ar E z0 4 (upd so j lane), ar E z1 4 (upd sg j x), ar E z2 240 (zerK cc j q)] → va_S A s.heap H locs → ∀ ls : Array Slot, lv_has ls 5 [(4, .int (nI q)), (0, .ref m0), (1, .int (nI j)), (2, .int lane), (3, .int x)] → W p l e ({ frames := 2, cells := 0, slots := 0, locals := 42 }) s m args below meth c H locs 0 0 QQ (F0 m 57 ls []) := by
            intro fuel
            induction fuel with
            | zero => intro q hq hf; exact absurd hf (Nat.not_lt_zero _)
            | succ fuel ih57 =>
              intro q hq hf57 H locs hP hD hS ls hl
              refine lv_iload hx hb dX7_sheet_57 (lv_at hl 0 rfl) ?_
              refine lv_bipush (v := 60) hx hb dX7_sheet_59 (by decide) ?_
              refine icmpN_ge (tgt := 83) (a := q) (b := 60) hx hb rfl rfl (by omega) (by omega) dX7_sheet_61 (by decide) (fun c_7 => ?_) (fun c_7 => ?_)
              ·
                obtain rfl : q = 60 := by omega
                refine lv_iconst (v := 1) hx hb dX7_sheet_83 (by decide) ?_
                have eA : spSheet (nI j) lane x = 1 := by rw [spSheet, if_neg (not_not_intro c_2), if_neg (not_not_intro c_4), if_neg (not_not_intro c_5), if_neg c_6b]
                have e1 : fltF (spSheet (nI j) lane x) = 0 := by rw [eA]; rfl
                have hk0 : shOk (nI j) lane x := ⟨c_2, c_4, c_5, c_6b⟩
                exact hret _ _ _ _ _ () dX7_sheet_84 hS (by rw [e1, if_pos hk0, if_pos hk0, if_pos hk0]; exact hP) eA.symm
              ·
                refine lv_aload_n hx hb dX7_sheet_64 rfl (lv_at hl 1 rfl) ?_
                refine va_get (D := E.1) (ci := 7) (v := .ref z2) (C := RX7) (T := TX7) (N := 23) hx hb hts hinX7 hown hK.1 hP 0 rfl rfl 4 (by decide) fl_16 (fun _ h9 => h9) rfl dX7_sheet_65 ?_
                refine lv_bipush (v := 60) hx hb dX7_sheet_68 (by decide) ?_
                refine lv_iload_n hx hb dX7_sheet_70 rfl (lv_at hl 2 rfl) ?_
                refine N_imul (a := 60) (b := j) hx hb rfl rfl dX7_sheet_71 ?_
                refine lv_iload hx hb dX7_sheet_72 (lv_at hl 0 rfl) ?_
                refine N_iadd (a := 60 * j) (b := q) hx hb rfl rfl dX7_sheet_74 ?_
                refine lv_iconst (v := 0) hx hb dX7_sheet_75 (by decide) ?_
                refine ist hx hb hK hP hD hS 3 rfl (j := (60 * j) + q) rfl (by omega) (by decide) dX7_sheet_76 (fun H locs hP hD hS => ?_)
                have hP : va_P E.1 vwCl [ob m0 7 [.int 0, .int tr, .ref z0, .ref z1, .ref z2, .int (nI n), .ref y0, .ref y1, .ref y2, .int at_, .int rwi, .ref y3, .ref y4, .int sl, .int cr, .int gr, .ref y5, .ref y6, .int (nI rc), .ref x0, .ref x1, .ref x2, .ref x3], ar E z0 4 (upd so j lane), ar E z1 4 (upd sg j x), ar E z2 240 (upd (zerK cc j q) ((60 * j) + q) 0)] H := hP
                have hD : va_D A [ob m0 7 [.int 0, .int tr, .ref z0, .ref z1, .ref z2, .int (nI n), .ref y0, .ref y1, .ref y2, .int at_, .int rwi, .ref y3, .ref y4, .int sl, .int cr, .int gr, .ref y5, .ref y6, .int (nI rc), .ref x0, .ref x1, .ref x2, .ref x3], ar E z0 4 (upd so j lane), ar E z1 4 (upd sg j x), ar E z2 240 (upd (zerK cc j q) ((60 * j) + q) 0)] := hD
                rw [show upd (zerK cc j q) ((60 * j) + q) 0 = zerK cc j (q + 1) from zerK_s cc j q] at hP hD
                refine lv_iinc (v := nI (q + 1)) (lv' := [(4, .int (nI (q + 1))), (0, .ref m0), (1, .int (nI j)), (2, .int lane), (3, .int x)]) hx hb dX7_sheet_77 hl (k := 0) rfl (nI_inc q) (by decide) rfl (fun ls hl => ?_)
                refine lv_goto (tgt := 57) hx hb dX7_sheet_80 (by decide) ?_
                exact ih57 (q + 1) (by omega) (by omega) _ _ hP hD hS ls (lv_sub hl [0, 1, 2, 3, 4] rfl)
          exact L57 _ 0 (by omega) (Nat.lt_succ_self _) _ _ hP hD hS ls (lv_sub hl [0, 1, 2, 3, 4] rfl)
        ·
          have c_6b := Int32.not_le.mp c_6
          refine lv_aload_n hx hb dX7_sheet_34 rfl (lv_at hl 0 rfl) ?_
          refine lv_iconst (v := 4) hx hb dX7_sheet_35 (by decide) ?_
          refine cwVi (As := [.int 4]) (rest := []) ⟨hx, hb, hml, hown, hts⟩ (c_X7_fails l E _ m0 0 tr z0 z1 z2 n y0 y1 y2 at_ rwi y3 y4 sl cr gr y5 y6 rc x0 x1 x2 x3 4) (cwV 1 hts gX7_sheet_X7_fails rfl rfl rfl (by decide +kernel) ⟨Nat.le_of_ble_eq_true rfl, Nat.le_of_ble_eq_true rfl⟩) hK hP hD hS hA [0] (by decide) rfl [m0] (fun _ => rfl) rfl 0 rfl rfl rfl rfl hl.1 rfl (catLe (Nat.le_of_ble_eq_true rfl)) dX7_sheet_36 ⟨Nat.zero_le _, Nat.zero_le _⟩ (fun r_8 u_9 H locs hwr_8 hP hD hS => ?_)
          have hP : va_P E.1 vwCl [ob m0 7 [.int 4, .int tr, .ref z0, .ref z1, .ref z2, .int (nI n), .ref y0, .ref y1, .ref y2, .int at_, .int rwi, .ref y3, .ref y4, .int sl, .int cr, .int gr, .ref y5, .ref y6, .int (nI rc), .ref x0, .ref x1, .ref x2, .ref x3], ar E z0 4 so, ar E z1 4 sg, ar E z2 240 cc] H := hP
          have hD : va_D A [ob m0 7 [.int 4, .int tr, .ref z0, .ref z1, .ref z2, .int (nI n), .ref y0, .ref y1, .ref y2, .int at_, .int rwi, .ref y3, .ref y4, .int sl, .int cr, .int gr, .ref y5, .ref y6, .int (nI rc), .ref x0, .ref x1, .ref x2, .ref x3], ar E z0 4 so, ar E z1 4 sg, ar E z2 240 cc] := hD
          subst hwr_8
          have eA : spSheet (nI j) lane x = -14 := by rw [spSheet, if_neg (not_not_intro c_2), if_neg (not_not_intro c_4), if_neg (not_not_intro c_5), if_pos c_6b]
          have e1 : fltF (spSheet (nI j) lane x) = 4 := by rw [eA]; rfl
          have hk0 : ¬ shOk (nI j) lane x := fun h => h.2.2.2 c_6b
          exact hret _ _ _ _ _ () dX7_sheet_39 hS (by rw [e1, if_neg hk0, if_neg hk0, if_neg hk0]; exact hP) eA.symm
      ·
        have c_5b := Int32.not_le.mp c_5
        refine lv_bipush (v := (-2)) hx hb dX7_sheet_27 (by decide) ?_
        have eA : spSheet (nI j) lane x = -2 := by rw [spSheet, if_neg (not_not_intro c_2), if_neg (not_not_intro c_4), if_pos c_5]
        have e1 : fltF (spSheet (nI j) lane x) = 0 := by rw [eA]; rfl
        have hk0 : ¬ shOk (nI j) lane x := fun h => c_5 h.2.2.1
        exact hret _ _ _ _ _ () dX7_sheet_29 hS (by rw [e1, if_neg hk0, if_neg hk0, if_neg hk0]; exact hP) eA.symm
  ·
    refine lv_iconst (v := (-1)) hx hb dX7_sheet_12 (by decide) ?_
    have eA : spSheet k lane x = -1 := by rw [spSheet, if_pos c_2]
    have e1 : fltF (spSheet k lane x) = 0 := by rw [eA]; rfl
    have hk0 : ¬ shOk k lane x := fun h => c_2 h.1
    exact hret _ _ _ _ _ () dX7_sheet_13 hS (by rw [e1, if_neg hk0, if_neg hk0, if_neg hk0]; exact hP) eA.symm
set_option maxHeartbeats 4000000 in
set_option maxRecDepth 100000 in
theorem c_X7_lose (l : Launch) (E : gE) (sz : Nat) (m0 : Nat) (lf : Int32) (tr : Int32) (z0 : Nat) (z1 : Nat) (z2 : Nat) (n : Nat) (y0 : Nat) (y1 : Nat) (y2 : Nat) (at_ : Int32) (rwi : Int32) (y3 : Nat) (y4 : Nat) (sl : Int32) (cr : Int32) (gr : Int32) (y5 : Nat) (y6 : Nat) (rc : Nat) (x0 : Nat) (x1 : Nat) (x2 : Nat) (x3 : Nat) (so : Nat → Int32) (j : Nat) (k : Int32) (hj4 : j < 4) (hjs : shP k → k = nI j) : Met l yX7_lose wsX7_lose ({ frames := 2, cells := 0, slots := 0, locals := 42 }) (PW E [.ref m0, .int k] [ob m0 7 [.int lf, .int tr, .ref z0, .ref z1, .ref z2, .int (nI n), .ref y0, .ref y1, .ref y2, .int at_, .int rwi, .ref y3, .ref y4, .int sl, .int cr, .int gr, .ref y5, .ref y6, .int (nI rc), .ref x0, .ref x1, .ref x2, .ref x3], ar E z0 4 so] sz) (QWi E (fun r _ => r = spLose k (thM (so j))) (fun (_ : Unit) => [ob m0 7 [.int lf, .int tr, .ref z0, .ref z1, .ref z2, .int (nI n), .ref y0, .ref y1, .ref y2, .int at_, .int rwi, .ref y3, .ref y4, .int sl, .int cr, .int gr, .ref y5, .ref y6, .int (nI rc), .ref x0, .ref x1, .ref x2, .ref x3], ar E z0 4 (if shP k then upd so j (-9) else so)]) (va_A [ob m0 7 [.int lf, .int tr, .ref z0, .ref z1, .ref z2, .int (nI n), .ref y0, .ref y1, .ref y2, .int at_, .int rwi, .ref y3, .ref y4, .int sl, .int cr, .int gr, .ref y5, .ref y6, .int (nI rc), .ref x0, .ref x1, .ref x2, .ref x3], ar E z0 4 so] sz)) 0 0 (va_A [ob m0 7 [.int lf, .int tr, .ref z0, .ref z1, .ref z2, .int (nI n), .ref y0, .ref y1, .ref y2, .int at_, .int rwi, .ref y3, .ref y4, .int sl, .int cr, .int gr, .ref y5, .ref y6, .int (nI rc), .ref x0, .ref x1, .ref x2, .ref x3], ar E z0 4 so] sz) := by
  refine mkWi (cc := cX7_lose) (maxL := 3) (by decide) rfl (Nat.le_of_ble_eq_true rfl) ?_
  intro p e s m args below meth c QQ A hx hb hml hown hmn hts hK hA hP hD hS hret ls hl
  have hown : s.vm.findClass RX7 = some m.cls := hown
  have hl : lv_has ls 3 [(0, .ref m0), (1, .int k)] := hl
  have hinX7 : ∀ w ∈ wsX70, w ∈ wsX7_lose := by decide +kernel
  have fl_9 := hts (.fieldLink RX7 9 "GuardAbacusModel" "sorts" "[I") (by decide +kernel)
  refine lv_iload_n hx hb dX7_lose_0 rfl (lv_at hl 1 rfl) ?_
  refine crS (As := [.int k]) (rest := []) ⟨hx, hb, hml, hown, hts⟩ (c_X7_isSheet l E k) (va_cwS 1 hts gX7_lose_X7_isSheet rfl rfl rfl (by decide +kernel) ⟨Nat.le_of_ble_eq_true rfl, Nat.le_of_ble_eq_true rfl⟩) hK hP [] rfl rfl hl.1 rfl (catLe (Nat.le_of_ble_eq_true rfl)) dX7_lose_1 ⟨Nat.zero_le _, Nat.zero_le _⟩ (fun r_1 hr_1 => ?_)
  subst hr_1
  refine ifB_ne (P := shP k) (tgt := 9) hx hb dX7_lose_4 (by decide) (fun c_2 => ?_) (fun c_2 => ?_)
  ·
    have hsh := hjs c_2
    subst hsh
    refine lv_aload_n hx hb dX7_lose_9 rfl (lv_at hl 0 rfl) ?_
    refine va_get (D := E.1) (ci := 7) (v := .ref z0) (C := RX7) (T := TX7) (N := 23) hx hb hts hinX7 hown hK.1 hP 0 rfl rfl 2 (by decide) fl_9 (fun _ h9 => h9) rfl dX7_lose_10 ?_
    refine lv_iload_n hx hb dX7_lose_13 rfl (lv_at hl 1 rfl) ?_
    refine ild hx hb hK hP 1 rfl (j := j) rfl (by omega) (by decide) dX7_lose_14 ?_
    refine lv_bipush (v := (-9)) hx hb dX7_lose_15 (by decide) ?_
    refine lv_icmp_ne (tgt := 24) hx hb dX7_lose_17 (by decide) (fun c_3 => ?_) (fun c_3 => ?_)
    ·
      refine lv_iconst (v := 1) hx hb dX7_lose_24 (by decide) ?_
      refine lv_istore_n (lv' := [(2, .int 1), (0, .ref m0), (1, .int (nI j))]) hx hb dX7_lose_25 rfl hl (by decide) rfl (fun ls hl => ?_)
      refine lv_aload_n hx hb dX7_lose_26 rfl (lv_at hl 1 rfl) ?_
      refine va_get (D := E.1) (ci := 7) (v := .ref z0) (C := RX7) (T := TX7) (N := 23) hx hb hts hinX7 hown hK.1 hP 0 rfl rfl 2 (by decide) fl_9 (fun _ h9 => h9) rfl dX7_lose_27 ?_
      refine lv_iload_n hx hb dX7_lose_30 rfl (lv_at hl 2 rfl) ?_
      refine lv_bipush (v := (-9)) hx hb dX7_lose_31 (by decide) ?_
      refine ist hx hb hK hP hD hS 1 rfl (j := j) rfl (by omega) (by decide) dX7_lose_33 (fun H locs hP hD hS => ?_)
      have hP : va_P E.1 vwCl [ob m0 7 [.int lf, .int tr, .ref z0, .ref z1, .ref z2, .int (nI n), .ref y0, .ref y1, .ref y2, .int at_, .int rwi, .ref y3, .ref y4, .int sl, .int cr, .int gr, .ref y5, .ref y6, .int (nI rc), .ref x0, .ref x1, .ref x2, .ref x3], ar E z0 4 (upd so j (-9))] H := hP
      have hD : va_D A [ob m0 7 [.int lf, .int tr, .ref z0, .ref z1, .ref z2, .int (nI n), .ref y0, .ref y1, .ref y2, .int at_, .int rwi, .ref y3, .ref y4, .int sl, .int cr, .int gr, .ref y5, .ref y6, .int (nI rc), .ref x0, .ref x1, .ref x2, .ref x3], ar E z0 4 (upd so j (-9))] := hD
      refine lv_iload_n hx hb dX7_lose_34 rfl (lv_at hl 0 rfl) ?_
      exact hret _ _ _ _ _ () dX7_lose_35 hS (by rw [if_pos c_2]; exact hP) (by rw [spLose, if_neg (not_not_intro c_2), thM, if_neg c_3]; rfl)
    ·
      refine lv_iconst (v := 0) hx hb dX7_lose_20 (by decide) ?_
      refine lv_goto (tgt := 25) hx hb dX7_lose_21 (by decide) ?_
      refine lv_istore_n (lv' := [(2, .int 0), (0, .ref m0), (1, .int (nI j))]) hx hb dX7_lose_25 rfl hl (by decide) rfl (fun ls hl => ?_)
      refine lv_aload_n hx hb dX7_lose_26 rfl (lv_at hl 1 rfl) ?_
      refine va_get (D := E.1) (ci := 7) (v := .ref z0) (C := RX7) (T := TX7) (N := 23) hx hb hts hinX7 hown hK.1 hP 0 rfl rfl 2 (by decide) fl_9 (fun _ h9 => h9) rfl dX7_lose_27 ?_
      refine lv_iload_n hx hb dX7_lose_30 rfl (lv_at hl 2 rfl) ?_
      refine lv_bipush (v := (-9)) hx hb dX7_lose_31 (by decide) ?_
      refine ist hx hb hK hP hD hS 1 rfl (j := j) rfl (by omega) (by decide) dX7_lose_33 (fun H locs hP hD hS => ?_)
      have hP : va_P E.1 vwCl [ob m0 7 [.int lf, .int tr, .ref z0, .ref z1, .ref z2, .int (nI n), .ref y0, .ref y1, .ref y2, .int at_, .int rwi, .ref y3, .ref y4, .int sl, .int cr, .int gr, .ref y5, .ref y6, .int (nI rc), .ref x0, .ref x1, .ref x2, .ref x3], ar E z0 4 (upd so j (-9))] H := hP
      have hD : va_D A [ob m0 7 [.int lf, .int tr, .ref z0, .ref z1, .ref z2, .int (nI n), .ref y0, .ref y1, .ref y2, .int at_, .int rwi, .ref y3, .ref y4, .int sl, .int cr, .int gr, .ref y5, .ref y6, .int (nI rc), .ref x0, .ref x1, .ref x2, .ref x3], ar E z0 4 (upd so j (-9))] := hD
      refine lv_iload_n hx hb dX7_lose_34 rfl (lv_at hl 0 rfl) ?_
      exact hret _ _ _ _ _ () dX7_lose_35 hS (by rw [if_pos c_2]; exact hP) (by rw [spLose, if_neg (not_not_intro c_2), thM, if_pos c_3]; rfl)
  ·
    refine lv_iconst (v := (-1)) hx hb dX7_lose_7 (by decide) ?_
    exact hret _ _ _ _ _ () dX7_lose_8 hS (by rw [if_neg c_2]; exact hP) (by rw [spLose, if_pos c_2])
set_option maxHeartbeats 4000000 in
set_option maxRecDepth 100000 in
theorem c_X7_put (l : Launch) (E : gE) (sz : Nat) (m0 : Nat) (lf : Int32) (tr : Int32) (z0 : Nat) (z1 : Nat) (z2 : Nat) (n : Nat) (y0 : Nat) (y1 : Nat) (y2 : Nat) (at_ : Int32) (rwi : Int32) (y3 : Nat) (y4 : Nat) (sl : Int32) (cr : Int32) (gr : Int32) (y5 : Nat) (y6 : Nat) (rc : Nat) (x0 : Nat) (x1 : Nat) (x2 : Nat) (x3 : Nat) (so : Nat → Int32) (sg : Nat → Int32) (cc : Nat → Int32) (ln : Nat) (j : Nat) (k : Int32) (i : Int32) (v : Int32) (hj4 : j < 4) (hjs : shP k → k = nI j) (hsg : sg j = nI ln) (h60 : ln ≤ 60) : Met l yX7_put wsX7_put ({ frames := 2, cells := 0, slots := 0, locals := 42 }) (PW E [.ref m0, .int k, .int i, .int v] [ob m0 7 [.int lf, .int tr, .ref z0, .ref z1, .ref z2, .int (nI n), .ref y0, .ref y1, .ref y2, .int at_, .int rwi, .ref y3, .ref y4, .int sl, .int cr, .int gr, .ref y5, .ref y6, .int (nI rc), .ref x0, .ref x1, .ref x2, .ref x3], ar E z0 4 so, ar E z1 4 sg, ar E z2 240 cc] sz) (QWi E (fun r _ => r = spPut k i (thM (so j)) ln) (fun (_ : Unit) => [ob m0 7 [.int (fltF (spPut k i (thM (so j)) ln)), .int tr, .ref z0, .ref z1, .ref z2, .int (nI n), .ref y0, .ref y1, .ref y2, .int at_, .int rwi, .ref y3, .ref y4, .int sl, .int cr, .int gr, .ref y5, .ref y6, .int (nI rc), .ref x0, .ref x1, .ref x2, .ref x3], ar E z0 4 so, ar E z1 4 sg, ar E z2 240 (if puOk k i (thM (so j)) ln then upd cc (60 * j + ix i) (cutF (so j) v) else cc)]) (va_A [ob m0 7 [.int lf, .int tr, .ref z0, .ref z1, .ref z2, .int (nI n), .ref y0, .ref y1, .ref y2, .int at_, .int rwi, .ref y3, .ref y4, .int sl, .int cr, .int gr, .ref y5, .ref y6, .int (nI rc), .ref x0, .ref x1, .ref x2, .ref x3], ar E z0 4 so, ar E z1 4 sg, ar E z2 240 cc] sz)) 0 0 (va_A [ob m0 7 [.int lf, .int tr, .ref z0, .ref z1, .ref z2, .int (nI n), .ref y0, .ref y1, .ref y2, .int at_, .int rwi, .ref y3, .ref y4, .int sl, .int cr, .int gr, .ref y5, .ref y6, .int (nI rc), .ref x0, .ref x1, .ref x2, .ref x3], ar E z0 4 so, ar E z1 4 sg, ar E z2 240 cc] sz) := by
  refine mkWi (cc := cX7_put) (maxL := 4) (by decide) rfl (Nat.le_of_ble_eq_true rfl) ?_
  intro p e s m args below meth c QQ A hx hb hml hown hmn hts hK hA hP hD hS hret ls hl
  have hown : s.vm.findClass RX7 = some m.cls := hown
  have hl : lv_has ls 4 [(0, .ref m0), (1, .int k), (2, .int i), (3, .int v)] := hl
  have hinX7 : ∀ w ∈ wsX70, w ∈ wsX7_put := by decide +kernel
  have fl_9 := hts (.fieldLink RX7 9 "GuardAbacusModel" "sorts" "[I") (by decide +kernel)
  have fl_13 := hts (.fieldLink RX7 13 "GuardAbacusModel" "sheetLong" "[I") (by decide +kernel)
  have fl_16 := hts (.fieldLink RX7 16 "GuardAbacusModel" "cells" "[I") (by decide +kernel)
  have fl_52 := hts (.fieldLink RX7 52 "GuardAbacusModel" "fault" "I") (by decide +kernel)
  refine lv_aload_n hx hb dX7_put_0 rfl (lv_at hl 0 rfl) ?_
  refine lv_iconst (v := 0) hx hb dX7_put_1 (by decide) ?_
  refine va_put (D := E.1) (ci := 7) (v := .int 0) (ty := .int) (C := RX7) (T := TX7) (N := 23) hx hb hts hinX7 tyX7 tyX7_ok nmX7 hown hK.1 hP hD hS 0 rfl rfl 0 (by decide) fl_52 (fun _ h9 => h9) rfl (by decide +kernel) rfl rfl (Nat.le_of_ble_eq_true rfl) dX7_put_2 (fun H locs hP hD hS => ?_)
  have hP : va_P E.1 vwCl [ob m0 7 [.int 0, .int tr, .ref z0, .ref z1, .ref z2, .int (nI n), .ref y0, .ref y1, .ref y2, .int at_, .int rwi, .ref y3, .ref y4, .int sl, .int cr, .int gr, .ref y5, .ref y6, .int (nI rc), .ref x0, .ref x1, .ref x2, .ref x3], ar E z0 4 so, ar E z1 4 sg, ar E z2 240 cc] H := hP
  have hD : va_D A [ob m0 7 [.int 0, .int tr, .ref z0, .ref z1, .ref z2, .int (nI n), .ref y0, .ref y1, .ref y2, .int at_, .int rwi, .ref y3, .ref y4, .int sl, .int cr, .int gr, .ref y5, .ref y6, .int (nI rc), .ref x0, .ref x1, .ref x2, .ref x3], ar E z0 4 so, ar E z1 4 sg, ar E z2 240 cc] := hD
  refine lv_iload_n hx hb dX7_put_5 rfl (lv_at hl 1 rfl) ?_
  refine crS (As := [.int k]) (rest := []) ⟨hx, hb, hml, hown, hts⟩ (c_X7_isSheet l E k) (va_cwS 1 hts gX7_put_X7_isSheet rfl rfl rfl (by decide +kernel) ⟨Nat.le_of_ble_eq_true rfl, Nat.le_of_ble_eq_true rfl⟩) hK hP [] rfl rfl hl.1 rfl (catLe (Nat.le_of_ble_eq_true rfl)) dX7_put_6 ⟨Nat.zero_le _, Nat.zero_le _⟩ (fun r_1 hr_1 => ?_)
  subst hr_1
  refine ifB_ne (P := shP k) (tgt := 14) hx hb dX7_put_9 (by decide) (fun c_2 => ?_) (fun c_2 => ?_)
  ·
    have hsh := hjs c_2
    subst hsh
    refine lv_aload_n hx hb dX7_put_14 rfl (lv_at hl 0 rfl) ?_
    refine va_get (D := E.1) (ci := 7) (v := .ref z0) (C := RX7) (T := TX7) (N := 23) hx hb hts hinX7 hown hK.1 hP 0 rfl rfl 2 (by decide) fl_9 (fun _ h9 => h9) rfl dX7_put_15 ?_
    refine lv_iload_n hx hb dX7_put_18 rfl (lv_at hl 1 rfl) ?_
    refine ild hx hb hK hP 1 rfl (j := j) rfl (by omega) (by decide) dX7_put_19 ?_
    refine lv_bipush (v := (-9)) hx hb dX7_put_20 (by decide) ?_
    refine lv_icmp_ne (tgt := 31) hx hb dX7_put_22 (by decide) (fun c_3 => ?_) (fun c_3 => ?_)
    ·
      refine lv_iload_n hx hb dX7_put_31 rfl (lv_at hl 2 rfl) ?_
      refine lv_iconst (v := 0) hx hb dX7_put_32 (by decide) ?_
      refine lv_aload_n hx hb dX7_put_33 rfl (lv_at hl 0 rfl) ?_
      refine va_get (D := E.1) (ci := 7) (v := .ref z1) (C := RX7) (T := TX7) (N := 23) hx hb hts hinX7 hown hK.1 hP 0 rfl rfl 3 (by decide) fl_13 (fun _ h9 => h9) rfl dX7_put_34 ?_
      refine lv_iload_n hx hb dX7_put_37 rfl (lv_at hl 1 rfl) ?_
      refine ild hx hb hK hP 2 rfl (j := j) rfl (by omega) (by decide) dX7_put_38 ?_
      rw [hsg]
      refine lv_iconst (v := 1) hx hb dX7_put_39 (by decide) ?_
      refine lv_isub hx hb dX7_put_40 ?_
      refine crS (As := [.int i, .int 0, .int ((nI ln) - 1)]) (rest := []) ⟨hx, hb, hml, hown, hts⟩ (c_X7_within l E i 0 ((nI ln) - 1)) (va_cwS 3 hts gX7_put_X7_within rfl rfl rfl (by decide +kernel) ⟨Nat.le_of_ble_eq_true rfl, Nat.le_of_ble_eq_true rfl⟩) hK hP [] rfl rfl hl.1 rfl (catLe (Nat.le_of_ble_eq_true rfl)) dX7_put_41 ⟨Nat.zero_le _, Nat.zero_le _⟩ (fun r_4 hr_4 => ?_)
      subst hr_4
      refine ifB_ne (P := wiP i 0 ((nI ln) - 1)) (tgt := 53) hx hb dX7_put_44 (by decide) (fun c_5 => ?_) (fun c_5 => ?_)
      ·
        have hr1 := (wi_reach h60).mp c_5
        obtain ⟨a, rfl, ha⟩ := reach1 hr1 h60
        have hixa : ix (nI a) = a := ix_nI (by omega)
        refine lv_aload_n hx hb dX7_put_53 rfl (lv_at hl 0 rfl) ?_
        refine va_get (D := E.1) (ci := 7) (v := .ref z2) (C := RX7) (T := TX7) (N := 23) hx hb hts hinX7 hown hK.1 hP 0 rfl rfl 4 (by decide) fl_16 (fun _ h9 => h9) rfl dX7_put_54 ?_
        refine lv_bipush (v := 60) hx hb dX7_put_57 (by decide) ?_
        refine lv_iload_n hx hb dX7_put_59 rfl (lv_at hl 1 rfl) ?_
        refine N_imul (a := 60) (b := j) hx hb rfl rfl dX7_put_60 ?_
        refine lv_iload_n hx hb dX7_put_61 rfl (lv_at hl 2 rfl) ?_
        refine N_iadd (a := 60 * j) (b := a) hx hb rfl rfl dX7_put_62 ?_
        refine lv_aload_n hx hb dX7_put_63 rfl (lv_at hl 0 rfl) ?_
        refine va_get (D := E.1) (ci := 7) (v := .ref z0) (C := RX7) (T := TX7) (N := 23) hx hb hts hinX7 hown hK.1 hP 0 rfl rfl 2 (by decide) fl_9 (fun _ h9 => h9) rfl dX7_put_64 ?_
        refine lv_iload_n hx hb dX7_put_67 rfl (lv_at hl 1 rfl) ?_
        refine ild hx hb hK hP 1 rfl (j := j) rfl (by omega) (by decide) dX7_put_68 ?_
        refine lv_if_ne (tgt := 77) hx hb dX7_put_69 (by decide) (fun c_6 => ?_) (fun c_6 => ?_)
        ·
          refine lv_aload_n hx hb dX7_put_77 rfl (lv_at hl 0 rfl) ?_
          refine va_get (D := E.1) (ci := 7) (v := .ref z0) (C := RX7) (T := TX7) (N := 23) hx hb hts hinX7 hown hK.1 hP 0 rfl rfl 2 (by decide) fl_9 (fun _ h9 => h9) rfl dX7_put_78 ?_
          refine lv_iload_n hx hb dX7_put_81 rfl (lv_at hl 1 rfl) ?_
          refine ild hx hb hK hP 1 rfl (j := j) rfl (by omega) (by decide) dX7_put_82 ?_
          refine lv_iconst (v := 1) hx hb dX7_put_83 (by decide) ?_
          refine lv_icmp_ne (tgt := 92) hx hb dX7_put_84 (by decide) (fun c_7 => ?_) (fun c_7 => ?_)
          ·
            refine lv_iload_n hx hb dX7_put_92 rfl (lv_at hl 3 rfl) ?_
            rw [show (v : Int32) = cutF (so j) v from ((if_neg c_6).trans (if_neg c_7)).symm]
            refine ist hx hb hK hP hD hS 3 rfl (j := (60 * j) + a) rfl (by omega) (by decide) dX7_put_93 (fun H locs hP hD hS => ?_)
            have hP : va_P E.1 vwCl [ob m0 7 [.int 0, .int tr, .ref z0, .ref z1, .ref z2, .int (nI n), .ref y0, .ref y1, .ref y2, .int at_, .int rwi, .ref y3, .ref y4, .int sl, .int cr, .int gr, .ref y5, .ref y6, .int (nI rc), .ref x0, .ref x1, .ref x2, .ref x3], ar E z0 4 so, ar E z1 4 sg, ar E z2 240 (upd cc ((60 * j) + a) (cutF (so j) v))] H := hP
            have hD : va_D A [ob m0 7 [.int 0, .int tr, .ref z0, .ref z1, .ref z2, .int (nI n), .ref y0, .ref y1, .ref y2, .int at_, .int rwi, .ref y3, .ref y4, .int sl, .int cr, .int gr, .ref y5, .ref y6, .int (nI rc), .ref x0, .ref x1, .ref x2, .ref x3], ar E z0 4 so, ar E z1 4 sg, ar E z2 240 (upd cc ((60 * j) + a) (cutF (so j) v))] := hD
            refine lv_iconst (v := 1) hx hb dX7_put_94 (by decide) ?_
            have eA : spPut (nI j) (nI a) (thM (so j)) ln = 1 := by rw [spPut, if_neg (not_not_intro c_2), thM, if_neg c_3, if_neg (by decide), if_neg (not_not_intro hr1)]
            have e1 : fltF (spPut (nI j) (nI a) (thM (so j)) ln) = 0 := by rw [eA]; rfl
            have hk0 : puOk (nI j) (nI a) (thM (so j)) ln := ⟨c_2, (by rw [thM, if_neg c_3]; decide), hr1⟩
            exact hret _ _ _ _ _ () dX7_put_95 hS (by rw [e1, if_pos hk0, hixa]; exact hP) eA.symm
          ·
            refine lv_iload_n hx hb dX7_put_87 rfl (lv_at hl 3 rfl) ?_
            refine lv_i2s hx hb dX7_put_88 rfl ?_
            refine lv_goto (tgt := 93) hx hb dX7_put_89 (by decide) ?_
            rw [show (v.toInt16.toInt32 : Int32) = cutF (so j) v from ((if_neg c_6).trans (if_pos c_7)).symm]
            refine ist hx hb hK hP hD hS 3 rfl (j := (60 * j) + a) rfl (by omega) (by decide) dX7_put_93 (fun H locs hP hD hS => ?_)
            have hP : va_P E.1 vwCl [ob m0 7 [.int 0, .int tr, .ref z0, .ref z1, .ref z2, .int (nI n), .ref y0, .ref y1, .ref y2, .int at_, .int rwi, .ref y3, .ref y4, .int sl, .int cr, .int gr, .ref y5, .ref y6, .int (nI rc), .ref x0, .ref x1, .ref x2, .ref x3], ar E z0 4 so, ar E z1 4 sg, ar E z2 240 (upd cc ((60 * j) + a) (cutF (so j) v))] H := hP
            have hD : va_D A [ob m0 7 [.int 0, .int tr, .ref z0, .ref z1, .ref z2, .int (nI n), .ref y0, .ref y1, .ref y2, .int at_, .int rwi, .ref y3, .ref y4, .int sl, .int cr, .int gr, .ref y5, .ref y6, .int (nI rc), .ref x0, .ref x1, .ref x2, .ref x3], ar E z0 4 so, ar E z1 4 sg, ar E z2 240 (upd cc ((60 * j) + a) (cutF (so j) v))] := hD
            refine lv_iconst (v := 1) hx hb dX7_put_94 (by decide) ?_
            have eA : spPut (nI j) (nI a) (thM (so j)) ln = 1 := by rw [spPut, if_neg (not_not_intro c_2), thM, if_neg c_3, if_neg (by decide), if_neg (not_not_intro hr1)]
            have e1 : fltF (spPut (nI j) (nI a) (thM (so j)) ln) = 0 := by rw [eA]; rfl
            have hk0 : puOk (nI j) (nI a) (thM (so j)) ln := ⟨c_2, (by rw [thM, if_neg c_3]; decide), hr1⟩
            exact hret _ _ _ _ _ () dX7_put_95 hS (by rw [e1, if_pos hk0, hixa]; exact hP) eA.symm
        ·
          refine lv_iload_n hx hb dX7_put_72 rfl (lv_at hl 3 rfl) ?_
          refine lv_i2b hx hb dX7_put_73 rfl ?_
          refine lv_goto (tgt := 93) hx hb dX7_put_74 (by decide) ?_
          rw [show (v.toInt8.toInt32 : Int32) = cutF (so j) v from (if_pos c_6).symm]
          refine ist hx hb hK hP hD hS 3 rfl (j := (60 * j) + a) rfl (by omega) (by decide) dX7_put_93 (fun H locs hP hD hS => ?_)
          have hP : va_P E.1 vwCl [ob m0 7 [.int 0, .int tr, .ref z0, .ref z1, .ref z2, .int (nI n), .ref y0, .ref y1, .ref y2, .int at_, .int rwi, .ref y3, .ref y4, .int sl, .int cr, .int gr, .ref y5, .ref y6, .int (nI rc), .ref x0, .ref x1, .ref x2, .ref x3], ar E z0 4 so, ar E z1 4 sg, ar E z2 240 (upd cc ((60 * j) + a) (cutF (so j) v))] H := hP
          have hD : va_D A [ob m0 7 [.int 0, .int tr, .ref z0, .ref z1, .ref z2, .int (nI n), .ref y0, .ref y1, .ref y2, .int at_, .int rwi, .ref y3, .ref y4, .int sl, .int cr, .int gr, .ref y5, .ref y6, .int (nI rc), .ref x0, .ref x1, .ref x2, .ref x3], ar E z0 4 so, ar E z1 4 sg, ar E z2 240 (upd cc ((60 * j) + a) (cutF (so j) v))] := hD
          refine lv_iconst (v := 1) hx hb dX7_put_94 (by decide) ?_
          have eA : spPut (nI j) (nI a) (thM (so j)) ln = 1 := by rw [spPut, if_neg (not_not_intro c_2), thM, if_neg c_3, if_neg (by decide), if_neg (not_not_intro hr1)]
          have e1 : fltF (spPut (nI j) (nI a) (thM (so j)) ln) = 0 := by rw [eA]; rfl
          have hk0 : puOk (nI j) (nI a) (thM (so j)) ln := ⟨c_2, (by rw [thM, if_neg c_3]; decide), hr1⟩
          exact hret _ _ _ _ _ () dX7_put_95 hS (by rw [e1, if_pos hk0, hixa]; exact hP) eA.symm
      ·
        refine lv_aload_n hx hb dX7_put_47 rfl (lv_at hl 0 rfl) ?_
        refine lv_iconst (v := 3) hx hb dX7_put_48 (by decide) ?_
        refine cwVi (As := [.int 3]) (rest := []) ⟨hx, hb, hml, hown, hts⟩ (c_X7_fails l E _ m0 0 tr z0 z1 z2 n y0 y1 y2 at_ rwi y3 y4 sl cr gr y5 y6 rc x0 x1 x2 x3 3) (cwV 1 hts gX7_put_X7_fails rfl rfl rfl (by decide +kernel) ⟨Nat.le_of_ble_eq_true rfl, Nat.le_of_ble_eq_true rfl⟩) hK hP hD hS hA [0] (by decide) rfl [m0] (fun _ => rfl) rfl 0 rfl rfl rfl rfl hl.1 rfl (catLe (Nat.le_of_ble_eq_true rfl)) dX7_put_49 ⟨Nat.zero_le _, Nat.zero_le _⟩ (fun r_8 u_9 H locs hwr_8 hP hD hS => ?_)
        have hP : va_P E.1 vwCl [ob m0 7 [.int 3, .int tr, .ref z0, .ref z1, .ref z2, .int (nI n), .ref y0, .ref y1, .ref y2, .int at_, .int rwi, .ref y3, .ref y4, .int sl, .int cr, .int gr, .ref y5, .ref y6, .int (nI rc), .ref x0, .ref x1, .ref x2, .ref x3], ar E z0 4 so, ar E z1 4 sg, ar E z2 240 cc] H := hP
        have hD : va_D A [ob m0 7 [.int 3, .int tr, .ref z0, .ref z1, .ref z2, .int (nI n), .ref y0, .ref y1, .ref y2, .int at_, .int rwi, .ref y3, .ref y4, .int sl, .int cr, .int gr, .ref y5, .ref y6, .int (nI rc), .ref x0, .ref x1, .ref x2, .ref x3], ar E z0 4 so, ar E z1 4 sg, ar E z2 240 cc] := hD
        subst hwr_8
        have eA : spPut (nI j) i (thM (so j)) ln = -13 := by rw [spPut, if_neg (not_not_intro c_2), thM, if_neg c_3, if_neg (by decide), if_pos (fun h => c_5 ((wi_reach h60).mpr h))]
        have e1 : fltF (spPut (nI j) i (thM (so j)) ln) = 3 := by rw [eA]; rfl
        have hk0 : ¬ puOk (nI j) i (thM (so j)) ln := fun h => c_5 ((wi_reach h60).mpr h.2.2)
        exact hret _ _ _ _ _ () dX7_put_52 hS (by rw [e1, if_neg hk0]; exact hP) eA.symm
    ·
      refine lv_aload_n hx hb dX7_put_25 rfl (lv_at hl 0 rfl) ?_
      refine lv_iconst (v := 1) hx hb dX7_put_26 (by decide) ?_
      refine cwVi (As := [.int 1]) (rest := []) ⟨hx, hb, hml, hown, hts⟩ (c_X7_fails l E _ m0 0 tr z0 z1 z2 n y0 y1 y2 at_ rwi y3 y4 sl cr gr y5 y6 rc x0 x1 x2 x3 1) (cwV 1 hts gX7_put_X7_fails rfl rfl rfl (by decide +kernel) ⟨Nat.le_of_ble_eq_true rfl, Nat.le_of_ble_eq_true rfl⟩) hK hP hD hS hA [0] (by decide) rfl [m0] (fun _ => rfl) rfl 0 rfl rfl rfl rfl hl.1 rfl (catLe (Nat.le_of_ble_eq_true rfl)) dX7_put_27 ⟨Nat.zero_le _, Nat.zero_le _⟩ (fun r_10 u_11 H locs hwr_10 hP hD hS => ?_)
      have hP : va_P E.1 vwCl [ob m0 7 [.int 1, .int tr, .ref z0, .ref z1, .ref z2, .int (nI n), .ref y0, .ref y1, .ref y2, .int at_, .int rwi, .ref y3, .ref y4, .int sl, .int cr, .int gr, .ref y5, .ref y6, .int (nI rc), .ref x0, .ref x1, .ref x2, .ref x3], ar E z0 4 so, ar E z1 4 sg, ar E z2 240 cc] H := hP
      have hD : va_D A [ob m0 7 [.int 1, .int tr, .ref z0, .ref z1, .ref z2, .int (nI n), .ref y0, .ref y1, .ref y2, .int at_, .int rwi, .ref y3, .ref y4, .int sl, .int cr, .int gr, .ref y5, .ref y6, .int (nI rc), .ref x0, .ref x1, .ref x2, .ref x3], ar E z0 4 so, ar E z1 4 sg, ar E z2 240 cc] := hD
      subst hwr_10
      have eA : spPut (nI j) i (thM (so j)) ln = -11 := by rw [spPut, if_neg (not_not_intro c_2), thM, if_pos c_3, if_pos rfl]
      have e1 : fltF (spPut (nI j) i (thM (so j)) ln) = 1 := by rw [eA]; rfl
      have hk0 : ¬ puOk (nI j) i (thM (so j)) ln := fun h => h.2.1 (if_pos c_3)
      exact hret _ _ _ _ _ () dX7_put_30 hS (by rw [e1, if_neg hk0]; exact hP) eA.symm
  ·
    refine lv_iconst (v := (-1)) hx hb dX7_put_12 (by decide) ?_
    have eA : spPut k i (thM (so j)) ln = -1 := by rw [spPut, if_pos c_2]
    have e1 : fltF (spPut k i (thM (so j)) ln) = 0 := by rw [eA]; rfl
    have hk0 : ¬ puOk k i (thM (so j)) ln := fun h => c_2 h.1
    exact hret _ _ _ _ _ () dX7_put_13 hS (by rw [e1, if_neg hk0]; exact hP) eA.symm
set_option maxHeartbeats 4000000 in
set_option maxRecDepth 100000 in
theorem c_X7_cell (l : Launch) (E : gE) (sz : Nat) (m0 : Nat) (lf : Int32) (tr : Int32) (z0 : Nat) (z1 : Nat) (z2 : Nat) (n : Nat) (y0 : Nat) (y1 : Nat) (y2 : Nat) (at_ : Int32) (rwi : Int32) (y3 : Nat) (y4 : Nat) (sl : Int32) (cr : Int32) (gr : Int32) (y5 : Nat) (y6 : Nat) (rc : Nat) (x0 : Nat) (x1 : Nat) (x2 : Nat) (x3 : Nat) (so : Nat → Int32) (sg : Nat → Int32) (cc : Nat → Int32) (ln : Nat) (j : Nat) (k : Int32) (i : Int32) (lane : Int32) (hj4 : j < 4) (hjs : shP k → k = nI j) (hsg : sg j = nI ln) (h60 : ln ≤ 60) : Met l yX7_cell wsX7_cell ({ frames := 2, cells := 0, slots := 0, locals := 42 }) (PW E [.ref m0, .int k, .int i, .int lane] [ob m0 7 [.int lf, .int tr, .ref z0, .ref z1, .ref z2, .int (nI n), .ref y0, .ref y1, .ref y2, .int at_, .int rwi, .ref y3, .ref y4, .int sl, .int cr, .int gr, .ref y5, .ref y6, .int (nI rc), .ref x0, .ref x1, .ref x2, .ref x3], ar E z0 4 so, ar E z1 4 sg, ar E z2 240 cc] sz) (QWl E (fun r _ => r = spCell k i lane (thM (so j)) (so j) ln (fun q => cc (60 * j + q))) (fun (_ : Unit) => [ob m0 7 [.int (fltF (rtK k lane i 1 1 (thM (so j)) (so j) ln)), .int tr, .ref z0, .ref z1, .ref z2, .int (nI n), .ref y0, .ref y1, .ref y2, .int at_, .int rwi, .ref y3, .ref y4, .int sl, .int cr, .int gr, .ref y5, .ref y6, .int (nI rc), .ref x0, .ref x1, .ref x2, .ref x3], ar E z0 4 so, ar E z1 4 sg, ar E z2 240 cc]) (va_A [ob m0 7 [.int lf, .int tr, .ref z0, .ref z1, .ref z2, .int (nI n), .ref y0, .ref y1, .ref y2, .int at_, .int rwi, .ref y3, .ref y4, .int sl, .int cr, .int gr, .ref y5, .ref y6, .int (nI rc), .ref x0, .ref x1, .ref x2, .ref x3], ar E z0 4 so, ar E z1 4 sg, ar E z2 240 cc] sz)) 0 0 (va_A [ob m0 7 [.int lf, .int tr, .ref z0, .ref z1, .ref z2, .int (nI n), .ref y0, .ref y1, .ref y2, .int at_, .int rwi, .ref y3, .ref y4, .int sl, .int cr, .int gr, .ref y5, .ref y6, .int (nI rc), .ref x0, .ref x1, .ref x2, .ref x3], ar E z0 4 so, ar E z1 4 sg, ar E z2 240 cc] sz) := by
  refine mkWl (cc := cX7_cell) (maxL := 4) (by decide) rfl (Nat.le_of_ble_eq_true rfl) ?_
  intro p e s m args below meth c QQ A hx hb hml hown hmn hts hK hA hP hD hS hret ls hl
  have hown : s.vm.findClass RX7 = some m.cls := hown
  have hl : lv_has ls 4 [(0, .ref m0), (1, .int k), (2, .int i), (3, .int lane)] := hl
  have hinX7 : ∀ w ∈ wsX70, w ∈ wsX7_cell := by decide +kernel
  have fl_9 := hts (.fieldLink RX7 9 "GuardAbacusModel" "sorts" "[I") (by decide +kernel)
  have fl_13 := hts (.fieldLink RX7 13 "GuardAbacusModel" "sheetLong" "[I") (by decide +kernel)
  have fl_16 := hts (.fieldLink RX7 16 "GuardAbacusModel" "cells" "[I") (by decide +kernel)
  have fl_52 := hts (.fieldLink RX7 52 "GuardAbacusModel" "fault" "I") (by decide +kernel)
  refine lv_aload_n hx hb dX7_cell_0 rfl (lv_at hl 0 rfl) ?_
  refine lv_iconst (v := 0) hx hb dX7_cell_1 (by decide) ?_
  refine va_put (D := E.1) (ci := 7) (v := .int 0) (ty := .int) (C := RX7) (T := TX7) (N := 23) hx hb hts hinX7 tyX7 tyX7_ok nmX7 hown hK.1 hP hD hS 0 rfl rfl 0 (by decide) fl_52 (fun _ h9 => h9) rfl (by decide +kernel) rfl rfl (Nat.le_of_ble_eq_true rfl) dX7_cell_2 (fun H locs hP hD hS => ?_)
  have hP : va_P E.1 vwCl [ob m0 7 [.int 0, .int tr, .ref z0, .ref z1, .ref z2, .int (nI n), .ref y0, .ref y1, .ref y2, .int at_, .int rwi, .ref y3, .ref y4, .int sl, .int cr, .int gr, .ref y5, .ref y6, .int (nI rc), .ref x0, .ref x1, .ref x2, .ref x3], ar E z0 4 so, ar E z1 4 sg, ar E z2 240 cc] H := hP
  have hD : va_D A [ob m0 7 [.int 0, .int tr, .ref z0, .ref z1, .ref z2, .int (nI n), .ref y0, .ref y1, .ref y2, .int at_, .int rwi, .ref y3, .ref y4, .int sl, .int cr, .int gr, .ref y5, .ref y6, .int (nI rc), .ref x0, .ref x1, .ref x2, .ref x3], ar E z0 4 so, ar E z1 4 sg, ar E z2 240 cc] := hD
  refine lv_iload_n hx hb dX7_cell_5 rfl (lv_at hl 1 rfl) ?_
  refine crS (As := [.int k]) (rest := []) ⟨hx, hb, hml, hown, hts⟩ (c_X7_isSheet l E k) (va_cwS 1 hts gX7_cell_X7_isSheet rfl rfl rfl (by decide +kernel) ⟨Nat.le_of_ble_eq_true rfl, Nat.le_of_ble_eq_true rfl⟩) hK hP [] rfl rfl hl.1 rfl (catLe (Nat.le_of_ble_eq_true rfl)) dX7_cell_6 ⟨Nat.zero_le _, Nat.zero_le _⟩ (fun r_1 hr_1 => ?_)
  subst hr_1
  refine ifB_eq (P := shP k) (tgt := 19) hx hb dX7_cell_9 (by decide) (fun c_2 => ?_) (fun c_2 => ?_)
  ·
    refine lv_ldc2 hx hb hown (hts (.constantLong RX7 56 (-9223372036854775808)) (by decide +kernel)) dX7_cell_19 ?_
    have eA : rtK k lane i 1 1 (thM (so j)) (so j) ln = -1 := by rw [rtK, if_pos c_2]
    have e1 : fltF (rtK k lane i 1 1 (thM (so j)) (so j) ln) = 0 := by rw [eA]; rfl
    exact hret _ _ _ _ _ () dX7_cell_22 hS (by rw [e1]; exact hP) (by rw [spCell, eA, if_neg (by decide)])
  ·
    have hsh := hjs c_2
    subst hsh
    refine lv_iload_n hx hb dX7_cell_12 rfl (lv_at hl 3 rfl) ?_
    refine crS (As := [.int lane]) (rest := []) ⟨hx, hb, hml, hown, hts⟩ (c_X7_isSort l E lane) (va_cwS 1 hts gX7_cell_X7_isSort rfl rfl rfl (by decide +kernel) ⟨Nat.le_of_ble_eq_true rfl, Nat.le_of_ble_eq_true rfl⟩) hK hP [] rfl rfl hl.1 rfl (catLe (Nat.le_of_ble_eq_true rfl)) dX7_cell_13 ⟨Nat.zero_le _, Nat.zero_le _⟩ (fun r_3 hr_3 => ?_)
    subst hr_3
    refine ifB_ne (P := laP lane) (tgt := 23) hx hb dX7_cell_16 (by decide) (fun c_4 => ?_) (fun c_4 => ?_)
    ·
      refine lv_aload_n hx hb dX7_cell_23 rfl (lv_at hl 0 rfl) ?_
      refine va_get (D := E.1) (ci := 7) (v := .ref z0) (C := RX7) (T := TX7) (N := 23) hx hb hts hinX7 hown hK.1 hP 0 rfl rfl 2 (by decide) fl_9 (fun _ h9 => h9) rfl dX7_cell_24 ?_
      refine lv_iload_n hx hb dX7_cell_27 rfl (lv_at hl 1 rfl) ?_
      refine ild hx hb hK hP 1 rfl (j := j) rfl (by omega) (by decide) dX7_cell_28 ?_
      refine lv_bipush (v := (-9)) hx hb dX7_cell_29 (by decide) ?_
      refine lv_icmp_eq (tgt := 50) hx hb dX7_cell_31 (by decide) (fun c_5 => ?_) (fun c_5 => ?_)
      ·
        refine lv_aload_n hx hb dX7_cell_50 rfl (lv_at hl 0 rfl) ?_
        refine va_get (D := E.1) (ci := 7) (v := .ref z0) (C := RX7) (T := TX7) (N := 23) hx hb hts hinX7 hown hK.1 hP 0 rfl rfl 2 (by decide) fl_9 (fun _ h9 => h9) rfl dX7_cell_51 ?_
        refine lv_iload_n hx hb dX7_cell_54 rfl (lv_at hl 1 rfl) ?_
        refine ild hx hb hK hP 1 rfl (j := j) rfl (by omega) (by decide) dX7_cell_55 ?_
        refine lv_bipush (v := (-9)) hx hb dX7_cell_56 (by decide) ?_
        refine lv_icmp_ne (tgt := 67) hx hb dX7_cell_58 (by decide) (fun c_6 => ?_) (fun c_6 => ?_)
        ·
          exact absurd c_5 c_6
        ·
          refine lv_aload_n hx hb dX7_cell_61 rfl (lv_at hl 0 rfl) ?_
          refine lv_iconst (v := 1) hx hb dX7_cell_62 (by decide) ?_
          refine cwVl (As := [.int 1]) (rest := []) ⟨hx, hb, hml, hown, hts⟩ (c_X7_lost l E _ m0 0 tr z0 z1 z2 n y0 y1 y2 at_ rwi y3 y4 sl cr gr y5 y6 rc x0 x1 x2 x3 1) (cwV 1 hts gX7_cell_X7_lost rfl rfl rfl (by decide +kernel) ⟨Nat.le_of_ble_eq_true rfl, Nat.le_of_ble_eq_true rfl⟩) hK hP hD hS hA [0] (by decide) rfl [m0] (fun _ => rfl) rfl 0 rfl rfl rfl rfl hl.1 rfl (catLe (Nat.le_of_ble_eq_true rfl)) dX7_cell_63 ⟨Nat.zero_le _, Nat.zero_le _⟩ (fun r_7 u_8 H locs hwr_7 hP hD hS => ?_)
          have hP : va_P E.1 vwCl [ob m0 7 [.int 1, .int tr, .ref z0, .ref z1, .ref z2, .int (nI n), .ref y0, .ref y1, .ref y2, .int at_, .int rwi, .ref y3, .ref y4, .int sl, .int cr, .int gr, .ref y5, .ref y6, .int (nI rc), .ref x0, .ref x1, .ref x2, .ref x3], ar E z0 4 so, ar E z1 4 sg, ar E z2 240 cc] H := hP
          have hD : va_D A [ob m0 7 [.int 1, .int tr, .ref z0, .ref z1, .ref z2, .int (nI n), .ref y0, .ref y1, .ref y2, .int at_, .int rwi, .ref y3, .ref y4, .int sl, .int cr, .int gr, .ref y5, .ref y6, .int (nI rc), .ref x0, .ref x1, .ref x2, .ref x3], ar E z0 4 so, ar E z1 4 sg, ar E z2 240 cc] := hD
          subst hwr_7
          have eA : rtK (nI j) lane i 1 1 (thM (so j)) (so j) ln = -11 := by rw [rtK, if_neg (not_not_intro c_2), if_neg (fun h => h.elim (fun q => q c_4) (by decide)), thM, if_pos c_6, if_pos rfl]
          have e1 : fltF (rtK (nI j) lane i 1 1 (thM (so j)) (so j) ln) = 1 := by rw [eA]; rfl
          exact hret _ _ _ _ _ () dX7_cell_66 hS (by rw [e1]; exact hP) (by rw [spCell, eA, if_neg (by decide)])
      ·
        refine lv_aload_n hx hb dX7_cell_34 rfl (lv_at hl 0 rfl) ?_
        refine va_get (D := E.1) (ci := 7) (v := .ref z0) (C := RX7) (T := TX7) (N := 23) hx hb hts hinX7 hown hK.1 hP 0 rfl rfl 2 (by decide) fl_9 (fun _ h9 => h9) rfl dX7_cell_35 ?_
        refine lv_iload_n hx hb dX7_cell_38 rfl (lv_at hl 1 rfl) ?_
        refine ild hx hb hK hP 1 rfl (j := j) rfl (by omega) (by decide) dX7_cell_39 ?_
        refine lv_iload_n hx hb dX7_cell_40 rfl (lv_at hl 3 rfl) ?_
        refine lv_icmp_eq (tgt := 50) hx hb dX7_cell_41 (by decide) (fun c_9 => ?_) (fun c_9 => ?_)
        ·
          refine lv_aload_n hx hb dX7_cell_50 rfl (lv_at hl 0 rfl) ?_
          refine va_get (D := E.1) (ci := 7) (v := .ref z0) (C := RX7) (T := TX7) (N := 23) hx hb hts hinX7 hown hK.1 hP 0 rfl rfl 2 (by decide) fl_9 (fun _ h9 => h9) rfl dX7_cell_51 ?_
          refine lv_iload_n hx hb dX7_cell_54 rfl (lv_at hl 1 rfl) ?_
          refine ild hx hb hK hP 1 rfl (j := j) rfl (by omega) (by decide) dX7_cell_55 ?_
          refine lv_bipush (v := (-9)) hx hb dX7_cell_56 (by decide) ?_
          refine lv_icmp_ne (tgt := 67) hx hb dX7_cell_58 (by decide) (fun c_10 => ?_) (fun c_10 => ?_)
          ·
            refine lv_iload_n hx hb dX7_cell_67 rfl (lv_at hl 2 rfl) ?_
            refine lv_iconst (v := 0) hx hb dX7_cell_68 (by decide) ?_
            refine lv_aload_n hx hb dX7_cell_69 rfl (lv_at hl 0 rfl) ?_
            refine va_get (D := E.1) (ci := 7) (v := .ref z1) (C := RX7) (T := TX7) (N := 23) hx hb hts hinX7 hown hK.1 hP 0 rfl rfl 3 (by decide) fl_13 (fun _ h9 => h9) rfl dX7_cell_70 ?_
            refine lv_iload_n hx hb dX7_cell_73 rfl (lv_at hl 1 rfl) ?_
            refine ild hx hb hK hP 2 rfl (j := j) rfl (by omega) (by decide) dX7_cell_74 ?_
            rw [hsg]
            refine lv_iconst (v := 1) hx hb dX7_cell_75 (by decide) ?_
            refine lv_isub hx hb dX7_cell_76 ?_
            refine crS (As := [.int i, .int 0, .int ((nI ln) - 1)]) (rest := []) ⟨hx, hb, hml, hown, hts⟩ (c_X7_within l E i 0 ((nI ln) - 1)) (va_cwS 3 hts gX7_cell_X7_within rfl rfl rfl (by decide +kernel) ⟨Nat.le_of_ble_eq_true rfl, Nat.le_of_ble_eq_true rfl⟩) hK hP [] rfl rfl hl.1 rfl (catLe (Nat.le_of_ble_eq_true rfl)) dX7_cell_77 ⟨Nat.zero_le _, Nat.zero_le _⟩ (fun r_11 hr_11 => ?_)
            subst hr_11
            refine ifB_ne (P := wiP i 0 ((nI ln) - 1)) (tgt := 89) hx hb dX7_cell_80 (by decide) (fun c_12 => ?_) (fun c_12 => ?_)
            ·
              have hr1 := (wi_reach h60).mp c_12
              obtain ⟨a, rfl, ha⟩ := reach1 hr1 h60
              have hixa : ix (nI a) = a := ix_nI (by omega)
              refine lv_aload_n hx hb dX7_cell_89 rfl (lv_at hl 0 rfl) ?_
              refine va_get (D := E.1) (ci := 7) (v := .ref z2) (C := RX7) (T := TX7) (N := 23) hx hb hts hinX7 hown hK.1 hP 0 rfl rfl 4 (by decide) fl_16 (fun _ h9 => h9) rfl dX7_cell_90 ?_
              refine lv_bipush (v := 60) hx hb dX7_cell_93 (by decide) ?_
              refine lv_iload_n hx hb dX7_cell_95 rfl (lv_at hl 1 rfl) ?_
              refine N_imul (a := 60) (b := j) hx hb rfl rfl dX7_cell_96 ?_
              refine lv_iload_n hx hb dX7_cell_97 rfl (lv_at hl 2 rfl) ?_
              refine N_iadd (a := 60 * j) (b := a) hx hb rfl rfl dX7_cell_98 ?_
              refine ild hx hb hK hP 3 rfl (j := (60 * j) + a) rfl (by omega) (by decide) dX7_cell_99 ?_
              refine lv_i2l hx hb dX7_cell_100 rfl ?_
              have eA : rtK (nI j) lane (nI a) 1 1 (thM (so j)) (so j) ln = 0 := by rw [rtK, if_neg (not_not_intro c_2), if_neg (fun h => h.elim (fun q => q c_4) (by decide)), thM, if_neg c_10, if_neg (by decide), if_neg (not_not_intro c_9), if_neg (by decide), if_pos hr1]
              have e1 : fltF (rtK (nI j) lane (nI a) 1 1 (thM (so j)) (so j) ln) = 0 := by rw [eA]; rfl
              exact hret _ _ _ _ _ () dX7_cell_101 hS (by rw [e1]; exact hP) (by rw [spCell, eA, if_pos rfl, hixa])
            ·
              refine lv_aload_n hx hb dX7_cell_83 rfl (lv_at hl 0 rfl) ?_
              refine lv_iconst (v := 3) hx hb dX7_cell_84 (by decide) ?_
              refine cwVl (As := [.int 3]) (rest := []) ⟨hx, hb, hml, hown, hts⟩ (c_X7_lost l E _ m0 0 tr z0 z1 z2 n y0 y1 y2 at_ rwi y3 y4 sl cr gr y5 y6 rc x0 x1 x2 x3 3) (cwV 1 hts gX7_cell_X7_lost rfl rfl rfl (by decide +kernel) ⟨Nat.le_of_ble_eq_true rfl, Nat.le_of_ble_eq_true rfl⟩) hK hP hD hS hA [0] (by decide) rfl [m0] (fun _ => rfl) rfl 0 rfl rfl rfl rfl hl.1 rfl (catLe (Nat.le_of_ble_eq_true rfl)) dX7_cell_85 ⟨Nat.zero_le _, Nat.zero_le _⟩ (fun r_13 u_14 H locs hwr_13 hP hD hS => ?_)
              have hP : va_P E.1 vwCl [ob m0 7 [.int 3, .int tr, .ref z0, .ref z1, .ref z2, .int (nI n), .ref y0, .ref y1, .ref y2, .int at_, .int rwi, .ref y3, .ref y4, .int sl, .int cr, .int gr, .ref y5, .ref y6, .int (nI rc), .ref x0, .ref x1, .ref x2, .ref x3], ar E z0 4 so, ar E z1 4 sg, ar E z2 240 cc] H := hP
              have hD : va_D A [ob m0 7 [.int 3, .int tr, .ref z0, .ref z1, .ref z2, .int (nI n), .ref y0, .ref y1, .ref y2, .int at_, .int rwi, .ref y3, .ref y4, .int sl, .int cr, .int gr, .ref y5, .ref y6, .int (nI rc), .ref x0, .ref x1, .ref x2, .ref x3], ar E z0 4 so, ar E z1 4 sg, ar E z2 240 cc] := hD
              subst hwr_13
              have eA : rtK (nI j) lane i 1 1 (thM (so j)) (so j) ln = -13 := by rw [rtK, if_neg (not_not_intro c_2), if_neg (fun h => h.elim (fun q => q c_4) (by decide)), thM, if_neg c_10, if_neg (by decide), if_neg (not_not_intro c_9), if_neg (by decide), if_neg (fun h => c_12 ((wi_reach h60).mpr h))]
              have e1 : fltF (rtK (nI j) lane i 1 1 (thM (so j)) (so j) ln) = 3 := by rw [eA]; rfl
              exact hret _ _ _ _ _ () dX7_cell_88 hS (by rw [e1]; exact hP) (by rw [spCell, eA, if_neg (by decide)])
          ·
            refine lv_aload_n hx hb dX7_cell_61 rfl (lv_at hl 0 rfl) ?_
            refine lv_iconst (v := 1) hx hb dX7_cell_62 (by decide) ?_
            refine cwVl (As := [.int 1]) (rest := []) ⟨hx, hb, hml, hown, hts⟩ (c_X7_lost l E _ m0 0 tr z0 z1 z2 n y0 y1 y2 at_ rwi y3 y4 sl cr gr y5 y6 rc x0 x1 x2 x3 1) (cwV 1 hts gX7_cell_X7_lost rfl rfl rfl (by decide +kernel) ⟨Nat.le_of_ble_eq_true rfl, Nat.le_of_ble_eq_true rfl⟩) hK hP hD hS hA [0] (by decide) rfl [m0] (fun _ => rfl) rfl 0 rfl rfl rfl rfl hl.1 rfl (catLe (Nat.le_of_ble_eq_true rfl)) dX7_cell_63 ⟨Nat.zero_le _, Nat.zero_le _⟩ (fun r_15 u_16 H locs hwr_15 hP hD hS => ?_)
            have hP : va_P E.1 vwCl [ob m0 7 [.int 1, .int tr, .ref z0, .ref z1, .ref z2, .int (nI n), .ref y0, .ref y1, .ref y2, .int at_, .int rwi, .ref y3, .ref y4, .int sl, .int cr, .int gr, .ref y5, .ref y6, .int (nI rc), .ref x0, .ref x1, .ref x2, .ref x3], ar E z0 4 so, ar E z1 4 sg, ar E z2 240 cc] H := hP
            have hD : va_D A [ob m0 7 [.int 1, .int tr, .ref z0, .ref z1, .ref z2, .int (nI n), .ref y0, .ref y1, .ref y2, .int at_, .int rwi, .ref y3, .ref y4, .int sl, .int cr, .int gr, .ref y5, .ref y6, .int (nI rc), .ref x0, .ref x1, .ref x2, .ref x3], ar E z0 4 so, ar E z1 4 sg, ar E z2 240 cc] := hD
            subst hwr_15
            have eA : rtK (nI j) lane i 1 1 (thM (so j)) (so j) ln = -11 := by rw [rtK, if_neg (not_not_intro c_2), if_neg (fun h => h.elim (fun q => q c_4) (by decide)), thM, if_pos c_10, if_pos rfl]
            have e1 : fltF (rtK (nI j) lane i 1 1 (thM (so j)) (so j) ln) = 1 := by rw [eA]; rfl
            exact hret _ _ _ _ _ () dX7_cell_66 hS (by rw [e1]; exact hP) (by rw [spCell, eA, if_neg (by decide)])
        ·
          refine lv_aload_n hx hb dX7_cell_44 rfl (lv_at hl 0 rfl) ?_
          refine lv_iconst (v := 2) hx hb dX7_cell_45 (by decide) ?_
          refine cwVl (As := [.int 2]) (rest := []) ⟨hx, hb, hml, hown, hts⟩ (c_X7_lost l E _ m0 0 tr z0 z1 z2 n y0 y1 y2 at_ rwi y3 y4 sl cr gr y5 y6 rc x0 x1 x2 x3 2) (cwV 1 hts gX7_cell_X7_lost rfl rfl rfl (by decide +kernel) ⟨Nat.le_of_ble_eq_true rfl, Nat.le_of_ble_eq_true rfl⟩) hK hP hD hS hA [0] (by decide) rfl [m0] (fun _ => rfl) rfl 0 rfl rfl rfl rfl hl.1 rfl (catLe (Nat.le_of_ble_eq_true rfl)) dX7_cell_46 ⟨Nat.zero_le _, Nat.zero_le _⟩ (fun r_17 u_18 H locs hwr_17 hP hD hS => ?_)
          have hP : va_P E.1 vwCl [ob m0 7 [.int 2, .int tr, .ref z0, .ref z1, .ref z2, .int (nI n), .ref y0, .ref y1, .ref y2, .int at_, .int rwi, .ref y3, .ref y4, .int sl, .int cr, .int gr, .ref y5, .ref y6, .int (nI rc), .ref x0, .ref x1, .ref x2, .ref x3], ar E z0 4 so, ar E z1 4 sg, ar E z2 240 cc] H := hP
          have hD : va_D A [ob m0 7 [.int 2, .int tr, .ref z0, .ref z1, .ref z2, .int (nI n), .ref y0, .ref y1, .ref y2, .int at_, .int rwi, .ref y3, .ref y4, .int sl, .int cr, .int gr, .ref y5, .ref y6, .int (nI rc), .ref x0, .ref x1, .ref x2, .ref x3], ar E z0 4 so, ar E z1 4 sg, ar E z2 240 cc] := hD
          subst hwr_17
          have eA : rtK (nI j) lane i 1 1 (thM (so j)) (so j) ln = -12 := by rw [rtK, if_neg (not_not_intro c_2), if_neg (fun h => h.elim (fun q => q c_4) (by decide)), thM, if_neg c_5, if_neg (by decide), if_pos c_9]
          have e1 : fltF (rtK (nI j) lane i 1 1 (thM (so j)) (so j) ln) = 2 := by rw [eA]; rfl
          exact hret _ _ _ _ _ () dX7_cell_49 hS (by rw [e1]; exact hP) (by rw [spCell, eA, if_neg (by decide)])
    ·
      refine lv_ldc2 hx hb hown (hts (.constantLong RX7 56 (-9223372036854775808)) (by decide +kernel)) dX7_cell_19 ?_
      have eA : rtK (nI j) lane i 1 1 (thM (so j)) (so j) ln = -2 := by rw [rtK, if_neg (not_not_intro c_2), if_pos (Or.inl c_4)]
      have e1 : fltF (rtK (nI j) lane i 1 1 (thM (so j)) (so j) ln) = 0 := by rw [eA]; rfl
      exact hret _ _ _ _ _ () dX7_cell_22 hS (by rw [e1]; exact hP) (by rw [spCell, eA, if_neg (by decide)])
set_option maxHeartbeats 4000000 in
set_option maxRecDepth 100000 in
theorem c_X7_copy (l : Launch) (E : gE) (sz : Nat) (m0 : Nat) (lf : Int32) (tr : Int32) (z0 : Nat) (z1 : Nat) (z2 : Nat) (n : Nat) (y0 : Nat) (y1 : Nat) (y2 : Nat) (at_ : Int32) (rwi : Int32) (y3 : Nat) (y4 : Nat) (sl : Int32) (cr : Int32) (gr : Int32) (y5 : Nat) (y6 : Nat) (rc : Nat) (x0 : Nat) (x1 : Nat) (x2 : Nat) (x3 : Nat) (so : Nat → Int32) (sg : Nat → Int32) (cc : Nat → Int32) (ln : Nat) (ln2 : Nat) (j : Nat) (j2 : Nat) (k : Int32) (i : Int32) (o : Int32) (x : Int32) (n_ : Int32) (hj4 : j < 4) (hjs : shP k → k = nI j) (hj42 : j2 < 4) (hjs2 : shP o → o = nI j2) (hsg : sg j = nI ln) (hsg2 : sg j2 = nI ln2) (h60 : ln ≤ 60) (h602 : ln2 ≤ 60) : Met l yX7_copy wsX7_copy ({ frames := 2, cells := 0, slots := 0, locals := 42 }) (PW E [.ref m0, .int k, .int i, .int o, .int x, .int n_] [ob m0 7 [.int lf, .int tr, .ref z0, .ref z1, .ref z2, .int (nI n), .ref y0, .ref y1, .ref y2, .int at_, .int rwi, .ref y3, .ref y4, .int sl, .int cr, .int gr, .ref y5, .ref y6, .int (nI rc), .ref x0, .ref x1, .ref x2, .ref x3], ar E z0 4 so, ar E z1 4 sg, ar E z2 240 cc] sz) (QWi E (fun r _ => r = spCopy k i o x n_ (thM (so j)) (so j) (thM (so j2)) (so j2) ln ln2) (fun (_ : Unit) => [ob m0 7 [.int (fltF (spCopy k i o x n_ (thM (so j)) (so j) (thM (so j2)) (so j2) ln ln2)), .int tr, .ref z0, .ref z1, .ref z2, .int (nI n), .ref y0, .ref y1, .ref y2, .int at_, .int rwi, .ref y3, .ref y4, .int sl, .int cr, .int gr, .ref y5, .ref y6, .int (nI rc), .ref x0, .ref x1, .ref x2, .ref x3], ar E z0 4 so, ar E z1 4 sg, ar E z2 240 (if cpOk k i o x n_ (thM (so j)) (so j) (thM (so j2)) (so j2) ln ln2 then va_cpy cc cc (60 * j + ix i) (60 * j2 + ix x) (ix n_) else cc)]) (va_A [ob m0 7 [.int lf, .int tr, .ref z0, .ref z1, .ref z2, .int (nI n), .ref y0, .ref y1, .ref y2, .int at_, .int rwi, .ref y3, .ref y4, .int sl, .int cr, .int gr, .ref y5, .ref y6, .int (nI rc), .ref x0, .ref x1, .ref x2, .ref x3], ar E z0 4 so, ar E z1 4 sg, ar E z2 240 cc] sz)) 0 0 (va_A [ob m0 7 [.int lf, .int tr, .ref z0, .ref z1, .ref z2, .int (nI n), .ref y0, .ref y1, .ref y2, .int at_, .int rwi, .ref y3, .ref y4, .int sl, .int cr, .int gr, .ref y5, .ref y6, .int (nI rc), .ref x0, .ref x1, .ref x2, .ref x3], ar E z0 4 so, ar E z1 4 sg, ar E z2 240 cc] sz) := by
  refine mkWi (cc := cX7_copy) (maxL := 10) (by decide) rfl (Nat.le_of_ble_eq_true rfl) ?_
  intro p e s m args below meth c QQ A hx hb hml hown hmn hts hK hA hP hD hS hret ls hl
  have hown : s.vm.findClass RX7 = some m.cls := hown
  have hl : lv_has ls 10 [(0, .ref m0), (1, .int k), (2, .int i), (3, .int o), (4, .int x), (5, .int n_)] := hl
  have hinX7 : ∀ w ∈ wsX70, w ∈ wsX7_copy := by decide +kernel
  have fl_9 := hts (.fieldLink RX7 9 "GuardAbacusModel" "sorts" "[I") (by decide +kernel)
  have fl_13 := hts (.fieldLink RX7 13 "GuardAbacusModel" "sheetLong" "[I") (by decide +kernel)
  have fl_16 := hts (.fieldLink RX7 16 "GuardAbacusModel" "cells" "[I") (by decide +kernel)
  have fl_52 := hts (.fieldLink RX7 52 "GuardAbacusModel" "fault" "I") (by decide +kernel)
  refine lv_aload_n hx hb dX7_copy_0 rfl (lv_at hl 0 rfl) ?_
  refine lv_iconst (v := 0) hx hb dX7_copy_1 (by decide) ?_
  refine va_put (D := E.1) (ci := 7) (v := .int 0) (ty := .int) (C := RX7) (T := TX7) (N := 23) hx hb hts hinX7 tyX7 tyX7_ok nmX7 hown hK.1 hP hD hS 0 rfl rfl 0 (by decide) fl_52 (fun _ h9 => h9) rfl (by decide +kernel) rfl rfl (Nat.le_of_ble_eq_true rfl) dX7_copy_2 (fun H locs hP hD hS => ?_)
  have hP : va_P E.1 vwCl [ob m0 7 [.int 0, .int tr, .ref z0, .ref z1, .ref z2, .int (nI n), .ref y0, .ref y1, .ref y2, .int at_, .int rwi, .ref y3, .ref y4, .int sl, .int cr, .int gr, .ref y5, .ref y6, .int (nI rc), .ref x0, .ref x1, .ref x2, .ref x3], ar E z0 4 so, ar E z1 4 sg, ar E z2 240 cc] H := hP
  have hD : va_D A [ob m0 7 [.int 0, .int tr, .ref z0, .ref z1, .ref z2, .int (nI n), .ref y0, .ref y1, .ref y2, .int at_, .int rwi, .ref y3, .ref y4, .int sl, .int cr, .int gr, .ref y5, .ref y6, .int (nI rc), .ref x0, .ref x1, .ref x2, .ref x3], ar E z0 4 so, ar E z1 4 sg, ar E z2 240 cc] := hD
  refine lv_iload_n hx hb dX7_copy_5 rfl (lv_at hl 1 rfl) ?_
  refine crS (As := [.int k]) (rest := []) ⟨hx, hb, hml, hown, hts⟩ (c_X7_isSheet l E k) (va_cwS 1 hts gX7_copy_X7_isSheet rfl rfl rfl (by decide +kernel) ⟨Nat.le_of_ble_eq_true rfl, Nat.le_of_ble_eq_true rfl⟩) hK hP [] rfl rfl hl.1 rfl (catLe (Nat.le_of_ble_eq_true rfl)) dX7_copy_6 ⟨Nat.zero_le _, Nat.zero_le _⟩ (fun r_1 hr_1 => ?_)
  subst hr_1
  refine ifB_eq (P := shP k) (tgt := 19) hx hb dX7_copy_9 (by decide) (fun c_2 => ?_) (fun c_2 => ?_)
  ·
    refine lv_iconst (v := (-1)) hx hb dX7_copy_19 (by decide) ?_
    have eA : spCopy k i o x n_ (thM (so j)) (so j) (thM (so j2)) (so j2) ln ln2 = -1 := by rw [spCopy, if_pos c_2]
    have e1 : fltF (spCopy k i o x n_ (thM (so j)) (so j) (thM (so j2)) (so j2) ln ln2) = 0 := by rw [eA]; rfl
    have hk0 : ¬ cpOk k i o x n_ (thM (so j)) (so j) (thM (so j2)) (so j2) ln ln2 := fun h => c_2 h.1
    exact hret _ _ _ _ _ () dX7_copy_20 hS (by rw [e1, if_neg hk0]; exact hP) eA.symm
  ·
    have hsh := hjs c_2
    subst hsh
    refine lv_iload_n hx hb dX7_copy_12 rfl (lv_at hl 3 rfl) ?_
    refine crS (As := [.int o]) (rest := []) ⟨hx, hb, hml, hown, hts⟩ (c_X7_isSheet l E o) (va_cwS 1 hts gX7_copy_X7_isSheet rfl rfl rfl (by decide +kernel) ⟨Nat.le_of_ble_eq_true rfl, Nat.le_of_ble_eq_true rfl⟩) hK hP [] rfl rfl hl.1 rfl (catLe (Nat.le_of_ble_eq_true rfl)) dX7_copy_13 ⟨Nat.zero_le _, Nat.zero_le _⟩ (fun r_3 hr_3 => ?_)
    subst hr_3
    refine ifB_ne (P := shP o) (tgt := 21) hx hb dX7_copy_16 (by decide) (fun c_4 => ?_) (fun c_4 => ?_)
    ·
      have hsh2 := hjs2 c_4
      subst hsh2
      refine lv_aload_n hx hb dX7_copy_21 rfl (lv_at hl 0 rfl) ?_
      refine va_get (D := E.1) (ci := 7) (v := .ref z0) (C := RX7) (T := TX7) (N := 23) hx hb hts hinX7 hown hK.1 hP 0 rfl rfl 2 (by decide) fl_9 (fun _ h9 => h9) rfl dX7_copy_22 ?_
      refine lv_iload_n hx hb dX7_copy_25 rfl (lv_at hl 1 rfl) ?_
      refine ild hx hb hK hP 1 rfl (j := j) rfl (by omega) (by decide) dX7_copy_26 ?_
      refine lv_bipush (v := (-9)) hx hb dX7_copy_27 (by decide) ?_
      refine lv_icmp_eq (tgt := 43) hx hb dX7_copy_29 (by decide) (fun c_5 => ?_) (fun c_5 => ?_)
      ·
        refine lv_aload_n hx hb dX7_copy_43 rfl (lv_at hl 0 rfl) ?_
        refine lv_iconst (v := 1) hx hb dX7_copy_44 (by decide) ?_
        refine cwVi (As := [.int 1]) (rest := []) ⟨hx, hb, hml, hown, hts⟩ (c_X7_fails l E _ m0 0 tr z0 z1 z2 n y0 y1 y2 at_ rwi y3 y4 sl cr gr y5 y6 rc x0 x1 x2 x3 1) (cwV 1 hts gX7_copy_X7_fails rfl rfl rfl (by decide +kernel) ⟨Nat.le_of_ble_eq_true rfl, Nat.le_of_ble_eq_true rfl⟩) hK hP hD hS hA [0] (by decide) rfl [m0] (fun _ => rfl) rfl 0 rfl rfl rfl rfl hl.1 rfl (catLe (Nat.le_of_ble_eq_true rfl)) dX7_copy_45 ⟨Nat.zero_le _, Nat.zero_le _⟩ (fun r_6 u_7 H locs hwr_6 hP hD hS => ?_)
        have hP : va_P E.1 vwCl [ob m0 7 [.int 1, .int tr, .ref z0, .ref z1, .ref z2, .int (nI n), .ref y0, .ref y1, .ref y2, .int at_, .int rwi, .ref y3, .ref y4, .int sl, .int cr, .int gr, .ref y5, .ref y6, .int (nI rc), .ref x0, .ref x1, .ref x2, .ref x3], ar E z0 4 so, ar E z1 4 sg, ar E z2 240 cc] H := hP
        have hD : va_D A [ob m0 7 [.int 1, .int tr, .ref z0, .ref z1, .ref z2, .int (nI n), .ref y0, .ref y1, .ref y2, .int at_, .int rwi, .ref y3, .ref y4, .int sl, .int cr, .int gr, .ref y5, .ref y6, .int (nI rc), .ref x0, .ref x1, .ref x2, .ref x3], ar E z0 4 so, ar E z1 4 sg, ar E z2 240 cc] := hD
        subst hwr_6
        have eA : spCopy (nI j) i (nI j2) x n_ (thM (so j)) (so j) (thM (so j2)) (so j2) ln ln2 = -11 := by rw [spCopy, if_neg (not_not_intro c_2), if_neg (not_not_intro c_4), if_pos (show thM (so j) = 0 from if_pos c_5)]
        have e1 : fltF (spCopy (nI j) i (nI j2) x n_ (thM (so j)) (so j) (thM (so j2)) (so j2) ln ln2) = 1 := by rw [eA]; rfl
        have hk0 : ¬ cpOk (nI j) i (nI j2) x n_ (thM (so j)) (so j) (thM (so j2)) (so j2) ln ln2 := fun h => h.2.2.1 (if_pos c_5)
        exact hret _ _ _ _ _ () dX7_copy_48 hS (by rw [e1, if_neg hk0]; exact hP) eA.symm
      ·
        refine lv_aload_n hx hb dX7_copy_32 rfl (lv_at hl 0 rfl) ?_
        refine va_get (D := E.1) (ci := 7) (v := .ref z0) (C := RX7) (T := TX7) (N := 23) hx hb hts hinX7 hown hK.1 hP 0 rfl rfl 2 (by decide) fl_9 (fun _ h9 => h9) rfl dX7_copy_33 ?_
        refine lv_iload_n hx hb dX7_copy_36 rfl (lv_at hl 3 rfl) ?_
        refine ild hx hb hK hP 1 rfl (j := j2) rfl (by omega) (by decide) dX7_copy_37 ?_
        refine lv_bipush (v := (-9)) hx hb dX7_copy_38 (by decide) ?_
        refine lv_icmp_ne (tgt := 49) hx hb dX7_copy_40 (by decide) (fun c_8 => ?_) (fun c_8 => ?_)
        ·
          refine lv_aload_n hx hb dX7_copy_49 rfl (lv_at hl 0 rfl) ?_
          refine va_get (D := E.1) (ci := 7) (v := .ref z0) (C := RX7) (T := TX7) (N := 23) hx hb hts hinX7 hown hK.1 hP 0 rfl rfl 2 (by decide) fl_9 (fun _ h9 => h9) rfl dX7_copy_50 ?_
          refine lv_iload_n hx hb dX7_copy_53 rfl (lv_at hl 1 rfl) ?_
          refine ild hx hb hK hP 1 rfl (j := j) rfl (by omega) (by decide) dX7_copy_54 ?_
          refine lv_aload_n hx hb dX7_copy_55 rfl (lv_at hl 0 rfl) ?_
          refine va_get (D := E.1) (ci := 7) (v := .ref z0) (C := RX7) (T := TX7) (N := 23) hx hb hts hinX7 hown hK.1 hP 0 rfl rfl 2 (by decide) fl_9 (fun _ h9 => h9) rfl dX7_copy_56 ?_
          refine lv_iload_n hx hb dX7_copy_59 rfl (lv_at hl 3 rfl) ?_
          refine ild hx hb hK hP 1 rfl (j := j2) rfl (by omega) (by decide) dX7_copy_60 ?_
          refine lv_icmp_eq (tgt := 70) hx hb dX7_copy_61 (by decide) (fun c_9 => ?_) (fun c_9 => ?_)
          ·
            refine lv_iload_n hx hb dX7_copy_70 rfl (lv_at hl 2 rfl) ?_
            refine lv_if_lt (tgt := 109) hx hb dX7_copy_71 (by decide) (fun c_10 => ?_) (fun c_10 => ?_)
            ·
              have c_10b := Int32.not_le.mpr c_10
              refine lv_iconst (v := 0) hx hb dX7_copy_109 (by decide) ?_
              refine lv_istore (lv' := [(6, .int 0), (0, .ref m0), (1, .int (nI j)), (2, .int i), (3, .int (nI j2)), (4, .int x), (5, .int n_)]) hx hb dX7_copy_110 hl (by decide) rfl (fun ls hl => ?_)
              refine lv_iload hx hb dX7_copy_112 (lv_at hl 0 rfl) ?_
              refine ifN_eq (tgt := 144) (a := 0) hx hb rfl (by omega) dX7_copy_114 (by decide) (fun c_11 => ?_) (fun c_11 => ?_)
              ·
                refine lv_aload_n hx hb dX7_copy_144 rfl (lv_at hl 1 rfl) ?_
                refine lv_iconst (v := 3) hx hb dX7_copy_145 (by decide) ?_
                refine cwVi (As := [.int 3]) (rest := []) ⟨hx, hb, hml, hown, hts⟩ (c_X7_fails l E _ m0 0 tr z0 z1 z2 n y0 y1 y2 at_ rwi y3 y4 sl cr gr y5 y6 rc x0 x1 x2 x3 3) (cwV 1 hts gX7_copy_X7_fails rfl rfl rfl (by decide +kernel) ⟨Nat.le_of_ble_eq_true rfl, Nat.le_of_ble_eq_true rfl⟩) hK hP hD hS hA [0] (by decide) rfl [m0] (fun _ => rfl) rfl 0 rfl rfl rfl rfl hl.1 rfl (catLe (Nat.le_of_ble_eq_true rfl)) dX7_copy_146 ⟨Nat.zero_le _, Nat.zero_le _⟩ (fun r_12 u_13 H locs hwr_12 hP hD hS => ?_)
                have hP : va_P E.1 vwCl [ob m0 7 [.int 3, .int tr, .ref z0, .ref z1, .ref z2, .int (nI n), .ref y0, .ref y1, .ref y2, .int at_, .int rwi, .ref y3, .ref y4, .int sl, .int cr, .int gr, .ref y5, .ref y6, .int (nI rc), .ref x0, .ref x1, .ref x2, .ref x3], ar E z0 4 so, ar E z1 4 sg, ar E z2 240 cc] H := hP
                have hD : va_D A [ob m0 7 [.int 3, .int tr, .ref z0, .ref z1, .ref z2, .int (nI n), .ref y0, .ref y1, .ref y2, .int at_, .int rwi, .ref y3, .ref y4, .int sl, .int cr, .int gr, .ref y5, .ref y6, .int (nI rc), .ref x0, .ref x1, .ref x2, .ref x3], ar E z0 4 so, ar E z1 4 sg, ar E z2 240 cc] := hD
                subst hwr_12
                have eA : spCopy (nI j) i (nI j2) x n_ (thM (so j)) (so j) (thM (so j2)) (so j2) ln ln2 = -13 := by rw [spCopy, if_neg (not_not_intro c_2), if_neg (not_not_intro c_4), if_neg (by rw [thM, if_neg c_5]; decide), if_neg (by rw [thM, if_neg c_8]; decide), if_neg (not_not_intro c_9), if_pos (fun h => h.1 c_10)]
                have e1 : fltF (spCopy (nI j) i (nI j2) x n_ (thM (so j)) (so j) (thM (so j2)) (so j2) ln ln2) = 3 := by rw [eA]; rfl
                have hk0 : ¬ cpOk (nI j) i (nI j2) x n_ (thM (so j)) (so j) (thM (so j2)) (so j2) ln ln2 := fun h => (fun h => h.1 c_10) h.2.2.2.2.2.1
                exact hret _ _ _ _ _ () dX7_copy_149 hS (by rw [e1, if_neg hk0]; exact hP) eA.symm
              ·
                exact absurd c_11 (by decide)
            ·
              have c_10b := Int32.not_lt.mp c_10
              refine lv_iload hx hb dX7_copy_74 (lv_at hl 4 rfl) ?_
              refine lv_if_lt (tgt := 109) hx hb dX7_copy_76 (by decide) (fun c_14 => ?_) (fun c_14 => ?_)
              ·
                have c_14b := Int32.not_le.mpr c_14
                refine lv_iconst (v := 0) hx hb dX7_copy_109 (by decide) ?_
                refine lv_istore (lv' := [(6, .int 0), (0, .ref m0), (1, .int (nI j)), (2, .int i), (3, .int (nI j2)), (4, .int x), (5, .int n_)]) hx hb dX7_copy_110 hl (by decide) rfl (fun ls hl => ?_)
                refine lv_iload hx hb dX7_copy_112 (lv_at hl 0 rfl) ?_
                refine ifN_eq (tgt := 144) (a := 0) hx hb rfl (by omega) dX7_copy_114 (by decide) (fun c_15 => ?_) (fun c_15 => ?_)
                ·
                  refine lv_aload_n hx hb dX7_copy_144 rfl (lv_at hl 1 rfl) ?_
                  refine lv_iconst (v := 3) hx hb dX7_copy_145 (by decide) ?_
                  refine cwVi (As := [.int 3]) (rest := []) ⟨hx, hb, hml, hown, hts⟩ (c_X7_fails l E _ m0 0 tr z0 z1 z2 n y0 y1 y2 at_ rwi y3 y4 sl cr gr y5 y6 rc x0 x1 x2 x3 3) (cwV 1 hts gX7_copy_X7_fails rfl rfl rfl (by decide +kernel) ⟨Nat.le_of_ble_eq_true rfl, Nat.le_of_ble_eq_true rfl⟩) hK hP hD hS hA [0] (by decide) rfl [m0] (fun _ => rfl) rfl 0 rfl rfl rfl rfl hl.1 rfl (catLe (Nat.le_of_ble_eq_true rfl)) dX7_copy_146 ⟨Nat.zero_le _, Nat.zero_le _⟩ (fun r_16 u_17 H locs hwr_16 hP hD hS => ?_)
                  have hP : va_P E.1 vwCl [ob m0 7 [.int 3, .int tr, .ref z0, .ref z1, .ref z2, .int (nI n), .ref y0, .ref y1, .ref y2, .int at_, .int rwi, .ref y3, .ref y4, .int sl, .int cr, .int gr, .ref y5, .ref y6, .int (nI rc), .ref x0, .ref x1, .ref x2, .ref x3], ar E z0 4 so, ar E z1 4 sg, ar E z2 240 cc] H := hP
                  have hD : va_D A [ob m0 7 [.int 3, .int tr, .ref z0, .ref z1, .ref z2, .int (nI n), .ref y0, .ref y1, .ref y2, .int at_, .int rwi, .ref y3, .ref y4, .int sl, .int cr, .int gr, .ref y5, .ref y6, .int (nI rc), .ref x0, .ref x1, .ref x2, .ref x3], ar E z0 4 so, ar E z1 4 sg, ar E z2 240 cc] := hD
                  subst hwr_16
                  have hnb : ¬ reachP ln2 x n_ := fun h => h.1 c_14
                  have eA : spCopy (nI j) i (nI j2) x n_ (thM (so j)) (so j) (thM (so j2)) (so j2) ln ln2 = -13 := by rw [spCopy, if_neg (not_not_intro c_2), if_neg (not_not_intro c_4), if_neg (by rw [thM, if_neg c_5]; decide), if_neg (by rw [thM, if_neg c_8]; decide), if_neg (not_not_intro c_9), if_pos hnb, ite_self]
                  have e1 : fltF (spCopy (nI j) i (nI j2) x n_ (thM (so j)) (so j) (thM (so j2)) (so j2) ln ln2) = 3 := by rw [eA]; rfl
                  have hk0 : ¬ cpOk (nI j) i (nI j2) x n_ (thM (so j)) (so j) (thM (so j2)) (so j2) ln ln2 := fun h => hnb h.2.2.2.2.2.2
                  exact hret _ _ _ _ _ () dX7_copy_149 hS (by rw [e1, if_neg hk0]; exact hP) eA.symm
                ·
                  exact absurd c_15 (by decide)
              ·
                have c_14b := Int32.not_lt.mp c_14
                refine lv_iload hx hb dX7_copy_79 (lv_at hl 5 rfl) ?_
                refine lv_if_lt (tgt := 109) hx hb dX7_copy_81 (by decide) (fun c_18 => ?_) (fun c_18 => ?_)
                ·
                  have c_18b := Int32.not_le.mpr c_18
                  refine lv_iconst (v := 0) hx hb dX7_copy_109 (by decide) ?_
                  refine lv_istore (lv' := [(6, .int 0), (0, .ref m0), (1, .int (nI j)), (2, .int i), (3, .int (nI j2)), (4, .int x), (5, .int n_)]) hx hb dX7_copy_110 hl (by decide) rfl (fun ls hl => ?_)
                  refine lv_iload hx hb dX7_copy_112 (lv_at hl 0 rfl) ?_
                  refine ifN_eq (tgt := 144) (a := 0) hx hb rfl (by omega) dX7_copy_114 (by decide) (fun c_19 => ?_) (fun c_19 => ?_)
                  ·
                    refine lv_aload_n hx hb dX7_copy_144 rfl (lv_at hl 1 rfl) ?_
                    refine lv_iconst (v := 3) hx hb dX7_copy_145 (by decide) ?_
                    refine cwVi (As := [.int 3]) (rest := []) ⟨hx, hb, hml, hown, hts⟩ (c_X7_fails l E _ m0 0 tr z0 z1 z2 n y0 y1 y2 at_ rwi y3 y4 sl cr gr y5 y6 rc x0 x1 x2 x3 3) (cwV 1 hts gX7_copy_X7_fails rfl rfl rfl (by decide +kernel) ⟨Nat.le_of_ble_eq_true rfl, Nat.le_of_ble_eq_true rfl⟩) hK hP hD hS hA [0] (by decide) rfl [m0] (fun _ => rfl) rfl 0 rfl rfl rfl rfl hl.1 rfl (catLe (Nat.le_of_ble_eq_true rfl)) dX7_copy_146 ⟨Nat.zero_le _, Nat.zero_le _⟩ (fun r_20 u_21 H locs hwr_20 hP hD hS => ?_)
                    have hP : va_P E.1 vwCl [ob m0 7 [.int 3, .int tr, .ref z0, .ref z1, .ref z2, .int (nI n), .ref y0, .ref y1, .ref y2, .int at_, .int rwi, .ref y3, .ref y4, .int sl, .int cr, .int gr, .ref y5, .ref y6, .int (nI rc), .ref x0, .ref x1, .ref x2, .ref x3], ar E z0 4 so, ar E z1 4 sg, ar E z2 240 cc] H := hP
                    have hD : va_D A [ob m0 7 [.int 3, .int tr, .ref z0, .ref z1, .ref z2, .int (nI n), .ref y0, .ref y1, .ref y2, .int at_, .int rwi, .ref y3, .ref y4, .int sl, .int cr, .int gr, .ref y5, .ref y6, .int (nI rc), .ref x0, .ref x1, .ref x2, .ref x3], ar E z0 4 so, ar E z1 4 sg, ar E z2 240 cc] := hD
                    subst hwr_20
                    have eA : spCopy (nI j) i (nI j2) x n_ (thM (so j)) (so j) (thM (so j2)) (so j2) ln ln2 = -13 := by rw [spCopy, if_neg (not_not_intro c_2), if_neg (not_not_intro c_4), if_neg (by rw [thM, if_neg c_5]; decide), if_neg (by rw [thM, if_neg c_8]; decide), if_neg (not_not_intro c_9), if_pos (fun h => h.2.2.1 c_18)]
                    have e1 : fltF (spCopy (nI j) i (nI j2) x n_ (thM (so j)) (so j) (thM (so j2)) (so j2) ln ln2) = 3 := by rw [eA]; rfl
                    have hk0 : ¬ cpOk (nI j) i (nI j2) x n_ (thM (so j)) (so j) (thM (so j2)) (so j2) ln ln2 := fun h => (fun h => h.2.2.1 c_18) h.2.2.2.2.2.1
                    exact hret _ _ _ _ _ () dX7_copy_149 hS (by rw [e1, if_neg hk0]; exact hP) eA.symm
                  ·
                    exact absurd c_19 (by decide)
                ·
                  have c_18b := Int32.not_lt.mp c_18
                  refine lv_iload_n hx hb dX7_copy_84 rfl (lv_at hl 2 rfl) ?_
                  refine lv_aload_n hx hb dX7_copy_85 rfl (lv_at hl 0 rfl) ?_
                  refine va_get (D := E.1) (ci := 7) (v := .ref z1) (C := RX7) (T := TX7) (N := 23) hx hb hts hinX7 hown hK.1 hP 0 rfl rfl 3 (by decide) fl_13 (fun _ h9 => h9) rfl dX7_copy_86 ?_
                  refine lv_iload_n hx hb dX7_copy_89 rfl (lv_at hl 1 rfl) ?_
                  refine ild hx hb hK hP 2 rfl (j := j) rfl (by omega) (by decide) dX7_copy_90 ?_
                  rw [hsg]
                  refine lv_icmp_gt (tgt := 109) hx hb dX7_copy_91 (by decide) (fun c_22 => ?_) (fun c_22 => ?_)
                  ·
                    have c_22b := Int32.not_le.mpr c_22
                    refine lv_iconst (v := 0) hx hb dX7_copy_109 (by decide) ?_
                    refine lv_istore (lv' := [(6, .int 0), (0, .ref m0), (1, .int (nI j)), (2, .int i), (3, .int (nI j2)), (4, .int x), (5, .int n_)]) hx hb dX7_copy_110 hl (by decide) rfl (fun ls hl => ?_)
                    refine lv_iload hx hb dX7_copy_112 (lv_at hl 0 rfl) ?_
                    refine ifN_eq (tgt := 144) (a := 0) hx hb rfl (by omega) dX7_copy_114 (by decide) (fun c_23 => ?_) (fun c_23 => ?_)
                    ·
                      refine lv_aload_n hx hb dX7_copy_144 rfl (lv_at hl 1 rfl) ?_
                      refine lv_iconst (v := 3) hx hb dX7_copy_145 (by decide) ?_
                      refine cwVi (As := [.int 3]) (rest := []) ⟨hx, hb, hml, hown, hts⟩ (c_X7_fails l E _ m0 0 tr z0 z1 z2 n y0 y1 y2 at_ rwi y3 y4 sl cr gr y5 y6 rc x0 x1 x2 x3 3) (cwV 1 hts gX7_copy_X7_fails rfl rfl rfl (by decide +kernel) ⟨Nat.le_of_ble_eq_true rfl, Nat.le_of_ble_eq_true rfl⟩) hK hP hD hS hA [0] (by decide) rfl [m0] (fun _ => rfl) rfl 0 rfl rfl rfl rfl hl.1 rfl (catLe (Nat.le_of_ble_eq_true rfl)) dX7_copy_146 ⟨Nat.zero_le _, Nat.zero_le _⟩ (fun r_24 u_25 H locs hwr_24 hP hD hS => ?_)
                      have hP : va_P E.1 vwCl [ob m0 7 [.int 3, .int tr, .ref z0, .ref z1, .ref z2, .int (nI n), .ref y0, .ref y1, .ref y2, .int at_, .int rwi, .ref y3, .ref y4, .int sl, .int cr, .int gr, .ref y5, .ref y6, .int (nI rc), .ref x0, .ref x1, .ref x2, .ref x3], ar E z0 4 so, ar E z1 4 sg, ar E z2 240 cc] H := hP
                      have hD : va_D A [ob m0 7 [.int 3, .int tr, .ref z0, .ref z1, .ref z2, .int (nI n), .ref y0, .ref y1, .ref y2, .int at_, .int rwi, .ref y3, .ref y4, .int sl, .int cr, .int gr, .ref y5, .ref y6, .int (nI rc), .ref x0, .ref x1, .ref x2, .ref x3], ar E z0 4 so, ar E z1 4 sg, ar E z2 240 cc] := hD
                      subst hwr_24
                      have eA : spCopy (nI j) i (nI j2) x n_ (thM (so j)) (so j) (thM (so j2)) (so j2) ln ln2 = -13 := by rw [spCopy, if_neg (not_not_intro c_2), if_neg (not_not_intro c_4), if_neg (by rw [thM, if_neg c_5]; decide), if_neg (by rw [thM, if_neg c_8]; decide), if_neg (not_not_intro c_9), if_pos (fun h => h.2.1 c_22)]
                      have e1 : fltF (spCopy (nI j) i (nI j2) x n_ (thM (so j)) (so j) (thM (so j2)) (so j2) ln ln2) = 3 := by rw [eA]; rfl
                      have hk0 : ¬ cpOk (nI j) i (nI j2) x n_ (thM (so j)) (so j) (thM (so j2)) (so j2) ln ln2 := fun h => (fun h => h.2.1 c_22) h.2.2.2.2.2.1
                      exact hret _ _ _ _ _ () dX7_copy_149 hS (by rw [e1, if_neg hk0]; exact hP) eA.symm
                    ·
                      exact absurd c_23 (by decide)
                  ·
                    have c_22b := Int32.not_lt.mp c_22
                    refine lv_iload hx hb dX7_copy_94 (lv_at hl 4 rfl) ?_
                    refine lv_aload_n hx hb dX7_copy_96 rfl (lv_at hl 0 rfl) ?_
                    refine va_get (D := E.1) (ci := 7) (v := .ref z1) (C := RX7) (T := TX7) (N := 23) hx hb hts hinX7 hown hK.1 hP 0 rfl rfl 3 (by decide) fl_13 (fun _ h9 => h9) rfl dX7_copy_97 ?_
                    refine lv_iload_n hx hb dX7_copy_100 rfl (lv_at hl 3 rfl) ?_
                    refine ild hx hb hK hP 2 rfl (j := j2) rfl (by omega) (by decide) dX7_copy_101 ?_
                    rw [hsg2]
                    refine lv_icmp_gt (tgt := 109) hx hb dX7_copy_102 (by decide) (fun c_26 => ?_) (fun c_26 => ?_)
                    ·
                      have c_26b := Int32.not_le.mpr c_26
                      refine lv_iconst (v := 0) hx hb dX7_copy_109 (by decide) ?_
                      refine lv_istore (lv' := [(6, .int 0), (0, .ref m0), (1, .int (nI j)), (2, .int i), (3, .int (nI j2)), (4, .int x), (5, .int n_)]) hx hb dX7_copy_110 hl (by decide) rfl (fun ls hl => ?_)
                      refine lv_iload hx hb dX7_copy_112 (lv_at hl 0 rfl) ?_
                      refine ifN_eq (tgt := 144) (a := 0) hx hb rfl (by omega) dX7_copy_114 (by decide) (fun c_27 => ?_) (fun c_27 => ?_)
                      ·
                        refine lv_aload_n hx hb dX7_copy_144 rfl (lv_at hl 1 rfl) ?_
                        refine lv_iconst (v := 3) hx hb dX7_copy_145 (by decide) ?_
                        refine cwVi (As := [.int 3]) (rest := []) ⟨hx, hb, hml, hown, hts⟩ (c_X7_fails l E _ m0 0 tr z0 z1 z2 n y0 y1 y2 at_ rwi y3 y4 sl cr gr y5 y6 rc x0 x1 x2 x3 3) (cwV 1 hts gX7_copy_X7_fails rfl rfl rfl (by decide +kernel) ⟨Nat.le_of_ble_eq_true rfl, Nat.le_of_ble_eq_true rfl⟩) hK hP hD hS hA [0] (by decide) rfl [m0] (fun _ => rfl) rfl 0 rfl rfl rfl rfl hl.1 rfl (catLe (Nat.le_of_ble_eq_true rfl)) dX7_copy_146 ⟨Nat.zero_le _, Nat.zero_le _⟩ (fun r_28 u_29 H locs hwr_28 hP hD hS => ?_)
                        have hP : va_P E.1 vwCl [ob m0 7 [.int 3, .int tr, .ref z0, .ref z1, .ref z2, .int (nI n), .ref y0, .ref y1, .ref y2, .int at_, .int rwi, .ref y3, .ref y4, .int sl, .int cr, .int gr, .ref y5, .ref y6, .int (nI rc), .ref x0, .ref x1, .ref x2, .ref x3], ar E z0 4 so, ar E z1 4 sg, ar E z2 240 cc] H := hP
                        have hD : va_D A [ob m0 7 [.int 3, .int tr, .ref z0, .ref z1, .ref z2, .int (nI n), .ref y0, .ref y1, .ref y2, .int at_, .int rwi, .ref y3, .ref y4, .int sl, .int cr, .int gr, .ref y5, .ref y6, .int (nI rc), .ref x0, .ref x1, .ref x2, .ref x3], ar E z0 4 so, ar E z1 4 sg, ar E z2 240 cc] := hD
                        subst hwr_28
                        have hnb : ¬ reachP ln2 x n_ := fun h => h.2.1 c_26
                        have eA : spCopy (nI j) i (nI j2) x n_ (thM (so j)) (so j) (thM (so j2)) (so j2) ln ln2 = -13 := by rw [spCopy, if_neg (not_not_intro c_2), if_neg (not_not_intro c_4), if_neg (by rw [thM, if_neg c_5]; decide), if_neg (by rw [thM, if_neg c_8]; decide), if_neg (not_not_intro c_9), if_pos hnb, ite_self]
                        have e1 : fltF (spCopy (nI j) i (nI j2) x n_ (thM (so j)) (so j) (thM (so j2)) (so j2) ln ln2) = 3 := by rw [eA]; rfl
                        have hk0 : ¬ cpOk (nI j) i (nI j2) x n_ (thM (so j)) (so j) (thM (so j2)) (so j2) ln ln2 := fun h => hnb h.2.2.2.2.2.2
                        exact hret _ _ _ _ _ () dX7_copy_149 hS (by rw [e1, if_neg hk0]; exact hP) eA.symm
                      ·
                        exact absurd c_27 (by decide)
                    ·
                      have c_26b := Int32.not_lt.mp c_26
                      refine lv_iconst (v := 1) hx hb dX7_copy_105 (by decide) ?_
                      refine lv_goto (tgt := 110) hx hb dX7_copy_106 (by decide) ?_
                      refine lv_istore (lv' := [(6, .int 1), (0, .ref m0), (1, .int (nI j)), (2, .int i), (3, .int (nI j2)), (4, .int x), (5, .int n_)]) hx hb dX7_copy_110 hl (by decide) rfl (fun ls hl => ?_)
                      refine lv_iload hx hb dX7_copy_112 (lv_at hl 0 rfl) ?_
                      refine ifN_eq (tgt := 144) (a := 1) hx hb rfl (by omega) dX7_copy_114 (by decide) (fun c_30 => ?_) (fun c_30 => ?_)
                      ·
                        exact absurd c_30 (by decide)
                      ·
                        refine lv_iload hx hb dX7_copy_117 (lv_at hl 6 rfl) ?_
                        refine lv_aload_n hx hb dX7_copy_119 rfl (lv_at hl 1 rfl) ?_
                        refine va_get (D := E.1) (ci := 7) (v := .ref z1) (C := RX7) (T := TX7) (N := 23) hx hb hts hinX7 hown hK.1 hP 0 rfl rfl 3 (by decide) fl_13 (fun _ h9 => h9) rfl dX7_copy_120 ?_
                        refine lv_iload_n hx hb dX7_copy_123 rfl (lv_at hl 2 rfl) ?_
                        refine ild hx hb hK hP 2 rfl (j := j) rfl (by omega) (by decide) dX7_copy_124 ?_
                        rw [hsg]
                        refine lv_iload_n hx hb dX7_copy_125 rfl (lv_at hl 3 rfl) ?_
                        refine lv_isub hx hb dX7_copy_126 ?_
                        refine lv_icmp_gt (tgt := 144) hx hb dX7_copy_127 (by decide) (fun c_31 => ?_) (fun c_31 => ?_)
                        ·
                          have c_31b := Int32.not_le.mpr c_31
                          refine lv_aload_n hx hb dX7_copy_144 rfl (lv_at hl 1 rfl) ?_
                          refine lv_iconst (v := 3) hx hb dX7_copy_145 (by decide) ?_
                          refine cwVi (As := [.int 3]) (rest := []) ⟨hx, hb, hml, hown, hts⟩ (c_X7_fails l E _ m0 0 tr z0 z1 z2 n y0 y1 y2 at_ rwi y3 y4 sl cr gr y5 y6 rc x0 x1 x2 x3 3) (cwV 1 hts gX7_copy_X7_fails rfl rfl rfl (by decide +kernel) ⟨Nat.le_of_ble_eq_true rfl, Nat.le_of_ble_eq_true rfl⟩) hK hP hD hS hA [0] (by decide) rfl [m0] (fun _ => rfl) rfl 0 rfl rfl rfl rfl hl.1 rfl (catLe (Nat.le_of_ble_eq_true rfl)) dX7_copy_146 ⟨Nat.zero_le _, Nat.zero_le _⟩ (fun r_32 u_33 H locs hwr_32 hP hD hS => ?_)
                          have hP : va_P E.1 vwCl [ob m0 7 [.int 3, .int tr, .ref z0, .ref z1, .ref z2, .int (nI n), .ref y0, .ref y1, .ref y2, .int at_, .int rwi, .ref y3, .ref y4, .int sl, .int cr, .int gr, .ref y5, .ref y6, .int (nI rc), .ref x0, .ref x1, .ref x2, .ref x3], ar E z0 4 so, ar E z1 4 sg, ar E z2 240 cc] H := hP
                          have hD : va_D A [ob m0 7 [.int 3, .int tr, .ref z0, .ref z1, .ref z2, .int (nI n), .ref y0, .ref y1, .ref y2, .int at_, .int rwi, .ref y3, .ref y4, .int sl, .int cr, .int gr, .ref y5, .ref y6, .int (nI rc), .ref x0, .ref x1, .ref x2, .ref x3], ar E z0 4 so, ar E z1 4 sg, ar E z2 240 cc] := hD
                          subst hwr_32
                          have eA : spCopy (nI j) i (nI j2) x n_ (thM (so j)) (so j) (thM (so j2)) (so j2) ln ln2 = -13 := by rw [spCopy, if_neg (not_not_intro c_2), if_neg (not_not_intro c_4), if_neg (by rw [thM, if_neg c_5]; decide), if_neg (by rw [thM, if_neg c_8]; decide), if_neg (not_not_intro c_9), if_pos (fun h => h.2.2.2 c_31)]
                          have e1 : fltF (spCopy (nI j) i (nI j2) x n_ (thM (so j)) (so j) (thM (so j2)) (so j2) ln ln2) = 3 := by rw [eA]; rfl
                          have hk0 : ¬ cpOk (nI j) i (nI j2) x n_ (thM (so j)) (so j) (thM (so j2)) (so j2) ln ln2 := fun h => (fun h => h.2.2.2 c_31) h.2.2.2.2.2.1
                          exact hret _ _ _ _ _ () dX7_copy_149 hS (by rw [e1, if_neg hk0]; exact hP) eA.symm
                        ·
                          have c_31b := Int32.not_lt.mp c_31
                          refine lv_iload hx hb dX7_copy_130 (lv_at hl 6 rfl) ?_
                          refine lv_aload_n hx hb dX7_copy_132 rfl (lv_at hl 1 rfl) ?_
                          refine va_get (D := E.1) (ci := 7) (v := .ref z1) (C := RX7) (T := TX7) (N := 23) hx hb hts hinX7 hown hK.1 hP 0 rfl rfl 3 (by decide) fl_13 (fun _ h9 => h9) rfl dX7_copy_133 ?_
                          refine lv_iload_n hx hb dX7_copy_136 rfl (lv_at hl 4 rfl) ?_
                          refine ild hx hb hK hP 2 rfl (j := j2) rfl (by omega) (by decide) dX7_copy_137 ?_
                          rw [hsg2]
                          refine lv_iload hx hb dX7_copy_138 (lv_at hl 5 rfl) ?_
                          refine lv_isub hx hb dX7_copy_140 ?_
                          refine lv_icmp_le (tgt := 150) hx hb dX7_copy_141 (by decide) (fun c_34 => ?_) (fun c_34 => ?_)
                          ·
                            have c_34b := Int32.not_lt.mpr c_34
                            have hra : reachP ln i n_ := ⟨c_10, c_22, c_18, c_31⟩
                            have hrb : reachP ln2 x n_ := ⟨c_14, c_26, c_18, c_34b⟩
                            obtain ⟨a, b, rfl, rfl, hab⟩ := reach_nat hra h60
                            obtain ⟨a2, rfl, hab2⟩ := reach2 hrb h602 (by omega)
                            have hixa : ix (nI a) = a := ix_nI (by omega)
                            have hixb : ix (nI b) = b := ix_nI (by omega)
                            have hixa2 : ix (nI a2) = a2 := ix_nI (by omega)
                            refine lv_iload_n hx hb dX7_copy_150 rfl (lv_at hl 3 rfl) ?_
                            refine lv_iload hx hb dX7_copy_151 (lv_at hl 5 rfl) ?_
                            refine icmpN_ge (tgt := 160) (a := a) (b := a2) hx hb rfl rfl (by omega) (by omega) dX7_copy_153 (by decide) (fun c_35 => ?_) (fun c_35 => ?_)
                            ·
                              refine lv_iconst (v := 0) hx hb dX7_copy_160 (by decide) ?_
                              refine lv_istore (lv' := [(7, .int 0), (6, .int 1), (0, .ref m0), (1, .int (nI j)), (2, .int (nI a)), (3, .int (nI j2)), (4, .int (nI a2)), (5, .int (nI b))]) hx hb dX7_copy_161 hl (by decide) rfl (fun ls hl => ?_)
                              refine lv_iconst (v := 0) hx hb dX7_copy_163 (by decide) ?_
                              refine lv_istore (lv' := [(8, .int 0), (7, .int 0), (6, .int 1), (0, .ref m0), (1, .int (nI j)), (2, .int (nI a)), (3, .int (nI j2)), (4, .int (nI a2)), (5, .int (nI b))]) hx hb dX7_copy_164 hl (by decide) rfl (fun ls hl => ?_)
                              rw [← cfw_0 cc (60 * j + a) (60 * j2 + a2)] at hP hD
                              have L166 : ∀ (fuel : Nat) (q : Nat), (q ≤ b) → (b - q) < fuel → ∀ (H : Heap) (locs : List Loc), va_P E.1 vwCl [ob m0 7 [.int 0, .int tr, .ref z0, .ref z1, .ref z2, .int (nI n), .ref y0, .ref y1, .ref y2, .int at_, .int rwi, .ref y3, .ref y4, .int sl, .int cr, .int gr, .ref y5, .ref y6, .int (nI rc), .ref x0, .ref x1, .ref x2, .ref x3], ar E z0 4 so, ar E z1 4 sg, ar E z2 240 (cfw cc (60 * j + a) (60 * j2 + a2) q)] H → va_D A [ob m0 7 [.int 0, .int tr, .ref z0, .ref z1, .ref z2, .int (nI n), .ref y0, .ref y1, .ref y2, .int at_, .int rwi, .ref y3, .ref y4, .int sl, .int cr, .int gr, .ref y5, .ref y6, .int (nI rc), .ref x0, .ref x1, .ref x2, .ref x3], ar E z0 4 so, ar E z1 4 sg, ar E z2 240 (cfw cc (60 * j + a) (60 * j2 + a2) q)] → va_S A s.heap H locs → ∀ ls : Array Slot, lv_has ls 10 [(8, .int (nI q)), (7, .int 0), (0, .ref m0), (1, .int (nI j)), (2, .int (nI a)), (3, .int (nI j2)), (4, .int (nI a2)), (5, .int (nI b))] → W p l e ({ frames := 2, cells := 0, slots := 0, locals := 42 }) s m args below meth c H locs 0 0 QQ (F0 m 166 ls []) := by
                                intro fuel
                                induction fuel with
                                | zero => intro q hq hf; exact absurd hf (Nat.not_lt_zero _)
                                | succ fuel ih166 =>
                                  intro q hq hf166 H locs hP hD hS ls hl
                                  refine lv_iload hx hb dX7_copy_166 (lv_at hl 0 rfl) ?_
                                  refine lv_iload hx hb dX7_copy_168 (lv_at hl 7 rfl) ?_
                                  refine icmpN_ge (tgt := 227) (a := q) (b := b) hx hb rfl rfl (by omega) (by omega) dX7_copy_170 (by decide) (fun c_36 => ?_) (fun c_36 => ?_)
                                  ·
                                    obtain rfl : b = q := by omega
                                    refine lv_iload hx hb dX7_copy_227 (lv_at hl 7 rfl) ?_
                                    have eA : spCopy (nI j) (nI a) (nI j2) (nI a2) (nI b) (thM (so j)) (so j) (thM (so j2)) (so j2) ln ln2 = nI b := by rw [spCopy, if_neg (not_not_intro c_2), if_neg (not_not_intro c_4), if_neg (by rw [thM, if_neg c_5]; decide), if_neg (by rw [thM, if_neg c_8]; decide), if_neg (not_not_intro c_9), if_neg (not_not_intro hra), if_neg (not_not_intro hrb)]
                                    have e1 : fltF (spCopy (nI j) (nI a) (nI j2) (nI a2) (nI b) (thM (so j)) (so j) (thM (so j2)) (so j2) ln ln2) = 0 := by rw [eA]; exact flt_nI (by omega)
                                    have hk0 : cpOk (nI j) (nI a) (nI j2) (nI a2) (nI b) (thM (so j)) (so j) (thM (so j2)) (so j2) ln ln2 := ⟨c_2, c_4, (by rw [thM, if_neg c_5]; decide), (by rw [thM, if_neg c_8]; decide), c_9, hra, hrb⟩
                                    exact hret _ _ _ _ _ () dX7_copy_229 hS (by rw [e1, if_pos hk0, hixa, hixb, hixa2, ← cfw_n]; exact hP) eA.symm
                                  ·
                                    refine lv_iload hx hb dX7_copy_173 (lv_at hl 1 rfl) ?_
                                    refine ifN_eq (tgt := 188) (a := 0) hx hb rfl (by omega) dX7_copy_175 (by decide) (fun c_37 => ?_) (fun c_37 => ?_)
                                    ·
                                      refine lv_iload hx hb dX7_copy_188 (lv_at hl 0 rfl) ?_
                                      refine lv_istore (lv' := [(9, .int (nI q)), (8, .int (nI q)), (7, .int 0), (0, .ref m0), (1, .int (nI j)), (2, .int (nI a)), (3, .int (nI j2)), (4, .int (nI a2)), (5, .int (nI b))]) hx hb dX7_copy_190 hl (by decide) rfl (fun ls hl => ?_)
                                      refine lv_aload_n hx hb dX7_copy_192 rfl (lv_at hl 3 rfl) ?_
                                      refine va_get (D := E.1) (ci := 7) (v := .ref z2) (C := RX7) (T := TX7) (N := 23) hx hb hts hinX7 hown hK.1 hP 0 rfl rfl 4 (by decide) fl_16 (fun _ h9 => h9) rfl dX7_copy_193 ?_
                                      refine lv_bipush (v := 60) hx hb dX7_copy_196 (by decide) ?_
                                      refine lv_iload_n hx hb dX7_copy_198 rfl (lv_at hl 6 rfl) ?_
                                      refine N_imul (a := 60) (b := j2) hx hb rfl rfl dX7_copy_199 ?_
                                      refine lv_iload hx hb dX7_copy_200 (lv_at hl 7 rfl) ?_
                                      refine N_iadd (a := 60 * j2) (b := a2) hx hb rfl rfl dX7_copy_202 ?_
                                      refine lv_iload hx hb dX7_copy_203 (lv_at hl 0 rfl) ?_
                                      refine N_iadd (a := (60 * j2) + a2) (b := q) hx hb rfl rfl dX7_copy_205 ?_
                                      refine lv_aload_n hx hb dX7_copy_206 rfl (lv_at hl 3 rfl) ?_
                                      refine va_get (D := E.1) (ci := 7) (v := .ref z2) (C := RX7) (T := TX7) (N := 23) hx hb hts hinX7 hown hK.1 hP 0 rfl rfl 4 (by decide) fl_16 (fun _ h9 => h9) rfl dX7_copy_207 ?_
                                      refine lv_bipush (v := 60) hx hb dX7_copy_210 (by decide) ?_
                                      refine lv_iload_n hx hb dX7_copy_212 rfl (lv_at hl 4 rfl) ?_
                                      refine N_imul (a := 60) (b := j) hx hb rfl rfl dX7_copy_213 ?_
                                      refine lv_iload_n hx hb dX7_copy_214 rfl (lv_at hl 5 rfl) ?_
                                      refine N_iadd (a := 60 * j) (b := a) hx hb rfl rfl dX7_copy_215 ?_
                                      refine lv_iload hx hb dX7_copy_216 (lv_at hl 0 rfl) ?_
                                      refine N_iadd (a := (60 * j) + a) (b := q) hx hb rfl rfl dX7_copy_218 ?_
                                      refine ild hx hb hK hP 3 rfl (j := ((60 * j) + a) + q) rfl (by omega) (by decide) dX7_copy_219 ?_
                                      rw [show cfw cc (60 * j + a) (60 * j2 + a2) q (60 * j + a + q) = cc (60 * j + a + q) from cfw_rd (by omega)]
                                      refine ist hx hb hK hP hD hS 3 rfl (j := ((60 * j2) + a2) + q) rfl (by omega) (by decide) dX7_copy_220 (fun H locs hP hD hS => ?_)
                                      have hP : va_P E.1 vwCl [ob m0 7 [.int 0, .int tr, .ref z0, .ref z1, .ref z2, .int (nI n), .ref y0, .ref y1, .ref y2, .int at_, .int rwi, .ref y3, .ref y4, .int sl, .int cr, .int gr, .ref y5, .ref y6, .int (nI rc), .ref x0, .ref x1, .ref x2, .ref x3], ar E z0 4 so, ar E z1 4 sg, ar E z2 240 (upd (cfw cc (60 * j + a) (60 * j2 + a2) q) (((60 * j2) + a2) + q) (cc (60 * j + a + q)))] H := hP
                                      have hD : va_D A [ob m0 7 [.int 0, .int tr, .ref z0, .ref z1, .ref z2, .int (nI n), .ref y0, .ref y1, .ref y2, .int at_, .int rwi, .ref y3, .ref y4, .int sl, .int cr, .int gr, .ref y5, .ref y6, .int (nI rc), .ref x0, .ref x1, .ref x2, .ref x3], ar E z0 4 so, ar E z1 4 sg, ar E z2 240 (upd (cfw cc (60 * j + a) (60 * j2 + a2) q) (((60 * j2) + a2) + q) (cc (60 * j + a + q)))] := hD
                                      rw [show upd (cfw cc (60 * j + a) (60 * j2 + a2) q) (((60 * j2) + a2) + q) (cc (60 * j + a + q)) = cfw cc (60 * j + a) (60 * j2 + a2) (q + 1) from cfw_s _ _ _ _] at hP hD
                                      refine lv_iinc (v := nI (q + 1)) (lv' := [(8, .int (nI (q + 1))), (9, .int (nI q)), (7, .int 0), (0, .ref m0), (1, .int (nI j)), (2, .int (nI a)), (3, .int (nI j2)), (4, .int (nI a2)), (5, .int (nI b))]) hx hb dX7_copy_221 hl (k := 1) rfl (nI_inc q) (by decide) rfl (fun ls hl => ?_)
                                      refine lv_goto (tgt := 166) hx hb dX7_copy_224 (by decide) ?_
                                      exact ih166 (q + 1) (by omega) (by omega) _ _ hP hD hS ls (lv_sub hl [0, 2, 3, 4, 5, 6, 7, 8] rfl)
                                    ·
                                      exact absurd c_37 (by decide)
                              exact L166 _ 0 (by omega) (Nat.lt_succ_self _) _ _ hP hD hS ls (lv_sub hl [0, 1, 3, 4, 5, 6, 7, 8] rfl)
                            ·
                              refine lv_iconst (v := 1) hx hb dX7_copy_156 (by decide) ?_
                              refine lv_goto (tgt := 161) hx hb dX7_copy_157 (by decide) ?_
                              refine lv_istore (lv' := [(7, .int 1), (6, .int 1), (0, .ref m0), (1, .int (nI j)), (2, .int (nI a)), (3, .int (nI j2)), (4, .int (nI a2)), (5, .int (nI b))]) hx hb dX7_copy_161 hl (by decide) rfl (fun ls hl => ?_)
                              refine lv_iconst (v := 0) hx hb dX7_copy_163 (by decide) ?_
                              refine lv_istore (lv' := [(8, .int 0), (7, .int 1), (6, .int 1), (0, .ref m0), (1, .int (nI j)), (2, .int (nI a)), (3, .int (nI j2)), (4, .int (nI a2)), (5, .int (nI b))]) hx hb dX7_copy_164 hl (by decide) rfl (fun ls hl => ?_)
                              rw [← cbw_0 cc (60 * j + a) (60 * j2 + a2) b] at hP hD
                              have L166 : ∀ (fuel : Nat) (q : Nat), (q ≤ b) → (b - q) < fuel → ∀ (H : Heap) (locs : List Loc), va_P E.1 vwCl [ob m0 7 [.int 0, .int tr, .ref z0, .ref z1, .ref z2, .int (nI n), .ref y0, .ref y1, .ref y2, .int at_, .int rwi, .ref y3, .ref y4, .int sl, .int cr, .int gr, .ref y5, .ref y6, .int (nI rc), .ref x0, .ref x1, .ref x2, .ref x3], ar E z0 4 so, ar E z1 4 sg, ar E z2 240 (cbw cc (60 * j + a) (60 * j2 + a2) b q)] H → va_D A [ob m0 7 [.int 0, .int tr, .ref z0, .ref z1, .ref z2, .int (nI n), .ref y0, .ref y1, .ref y2, .int at_, .int rwi, .ref y3, .ref y4, .int sl, .int cr, .int gr, .ref y5, .ref y6, .int (nI rc), .ref x0, .ref x1, .ref x2, .ref x3], ar E z0 4 so, ar E z1 4 sg, ar E z2 240 (cbw cc (60 * j + a) (60 * j2 + a2) b q)] → va_S A s.heap H locs → ∀ ls : Array Slot, lv_has ls 10 [(8, .int (nI q)), (7, .int 1), (0, .ref m0), (1, .int (nI j)), (2, .int (nI a)), (3, .int (nI j2)), (4, .int (nI a2)), (5, .int (nI b))] → W p l e ({ frames := 2, cells := 0, slots := 0, locals := 42 }) s m args below meth c H locs 0 0 QQ (F0 m 166 ls []) := by
                                intro fuel
                                induction fuel with
                                | zero => intro q hq hf; exact absurd hf (Nat.not_lt_zero _)
                                | succ fuel ih166 =>
                                  intro q hq hf166 H locs hP hD hS ls hl
                                  refine lv_iload hx hb dX7_copy_166 (lv_at hl 0 rfl) ?_
                                  refine lv_iload hx hb dX7_copy_168 (lv_at hl 7 rfl) ?_
                                  refine icmpN_ge (tgt := 227) (a := q) (b := b) hx hb rfl rfl (by omega) (by omega) dX7_copy_170 (by decide) (fun c_38 => ?_) (fun c_38 => ?_)
                                  ·
                                    obtain rfl : b = q := by omega
                                    refine lv_iload hx hb dX7_copy_227 (lv_at hl 7 rfl) ?_
                                    have eA : spCopy (nI j) (nI a) (nI j2) (nI a2) (nI b) (thM (so j)) (so j) (thM (so j2)) (so j2) ln ln2 = nI b := by rw [spCopy, if_neg (not_not_intro c_2), if_neg (not_not_intro c_4), if_neg (by rw [thM, if_neg c_5]; decide), if_neg (by rw [thM, if_neg c_8]; decide), if_neg (not_not_intro c_9), if_neg (not_not_intro hra), if_neg (not_not_intro hrb)]
                                    have e1 : fltF (spCopy (nI j) (nI a) (nI j2) (nI a2) (nI b) (thM (so j)) (so j) (thM (so j2)) (so j2) ln ln2) = 0 := by rw [eA]; exact flt_nI (by omega)
                                    have hk0 : cpOk (nI j) (nI a) (nI j2) (nI a2) (nI b) (thM (so j)) (so j) (thM (so j2)) (so j2) ln ln2 := ⟨c_2, c_4, (by rw [thM, if_neg c_5]; decide), (by rw [thM, if_neg c_8]; decide), c_9, hra, hrb⟩
                                    exact hret _ _ _ _ _ () dX7_copy_229 hS (by rw [e1, if_pos hk0, hixa, hixb, hixa2, ← cbw_n]; exact hP) eA.symm
                                  ·
                                    refine lv_iload hx hb dX7_copy_173 (lv_at hl 1 rfl) ?_
                                    refine ifN_eq (tgt := 188) (a := 1) hx hb rfl (by omega) dX7_copy_175 (by decide) (fun c_39 => ?_) (fun c_39 => ?_)
                                    ·
                                      exact absurd c_39 (by decide)
                                    ·
                                      refine lv_iload hx hb dX7_copy_178 (lv_at hl 7 rfl) ?_
                                      refine lv_iconst (v := 1) hx hb dX7_copy_180 (by decide) ?_
                                      refine N_isub (a := b) (b := 1) hx hb rfl rfl (by omega) dX7_copy_181 ?_
                                      refine lv_iload hx hb dX7_copy_182 (lv_at hl 0 rfl) ?_
                                      refine N_isub (a := b - 1) (b := q) hx hb rfl rfl (by omega) dX7_copy_184 ?_
                                      refine lv_goto (tgt := 190) hx hb dX7_copy_185 (by decide) ?_
                                      refine lv_istore (lv' := [(9, .int (nI ((b - 1) - q))), (8, .int (nI q)), (7, .int 1), (0, .ref m0), (1, .int (nI j)), (2, .int (nI a)), (3, .int (nI j2)), (4, .int (nI a2)), (5, .int (nI b))]) hx hb dX7_copy_190 hl (by decide) rfl (fun ls hl => ?_)
                                      refine lv_aload_n hx hb dX7_copy_192 rfl (lv_at hl 3 rfl) ?_
                                      refine va_get (D := E.1) (ci := 7) (v := .ref z2) (C := RX7) (T := TX7) (N := 23) hx hb hts hinX7 hown hK.1 hP 0 rfl rfl 4 (by decide) fl_16 (fun _ h9 => h9) rfl dX7_copy_193 ?_
                                      refine lv_bipush (v := 60) hx hb dX7_copy_196 (by decide) ?_
                                      refine lv_iload_n hx hb dX7_copy_198 rfl (lv_at hl 6 rfl) ?_
                                      refine N_imul (a := 60) (b := j2) hx hb rfl rfl dX7_copy_199 ?_
                                      refine lv_iload hx hb dX7_copy_200 (lv_at hl 7 rfl) ?_
                                      refine N_iadd (a := 60 * j2) (b := a2) hx hb rfl rfl dX7_copy_202 ?_
                                      refine lv_iload hx hb dX7_copy_203 (lv_at hl 0 rfl) ?_
                                      refine N_iadd (a := (60 * j2) + a2) (b := (b - 1) - q) hx hb rfl rfl dX7_copy_205 ?_
                                      refine lv_aload_n hx hb dX7_copy_206 rfl (lv_at hl 3 rfl) ?_
                                      refine va_get (D := E.1) (ci := 7) (v := .ref z2) (C := RX7) (T := TX7) (N := 23) hx hb hts hinX7 hown hK.1 hP 0 rfl rfl 4 (by decide) fl_16 (fun _ h9 => h9) rfl dX7_copy_207 ?_
                                      refine lv_bipush (v := 60) hx hb dX7_copy_210 (by decide) ?_
                                      refine lv_iload_n hx hb dX7_copy_212 rfl (lv_at hl 4 rfl) ?_
                                      refine N_imul (a := 60) (b := j) hx hb rfl rfl dX7_copy_213 ?_
                                      refine lv_iload_n hx hb dX7_copy_214 rfl (lv_at hl 5 rfl) ?_
                                      refine N_iadd (a := 60 * j) (b := a) hx hb rfl rfl dX7_copy_215 ?_
                                      refine lv_iload hx hb dX7_copy_216 (lv_at hl 0 rfl) ?_
                                      refine N_iadd (a := (60 * j) + a) (b := (b - 1) - q) hx hb rfl rfl dX7_copy_218 ?_
                                      refine ild hx hb hK hP 3 rfl (j := ((60 * j) + a) + ((b - 1) - q)) rfl (by omega) (by decide) dX7_copy_219 ?_
                                      rw [show cbw cc (60 * j + a) (60 * j2 + a2) b q (60 * j + a + (b - 1 - q)) = cc (60 * j + a + (b - 1 - q)) from cbw_rd (by omega)]
                                      refine ist hx hb hK hP hD hS 3 rfl (j := ((60 * j2) + a2) + ((b - 1) - q)) rfl (by omega) (by decide) dX7_copy_220 (fun H locs hP hD hS => ?_)
                                      have hP : va_P E.1 vwCl [ob m0 7 [.int 0, .int tr, .ref z0, .ref z1, .ref z2, .int (nI n), .ref y0, .ref y1, .ref y2, .int at_, .int rwi, .ref y3, .ref y4, .int sl, .int cr, .int gr, .ref y5, .ref y6, .int (nI rc), .ref x0, .ref x1, .ref x2, .ref x3], ar E z0 4 so, ar E z1 4 sg, ar E z2 240 (upd (cbw cc (60 * j + a) (60 * j2 + a2) b q) (((60 * j2) + a2) + ((b - 1) - q)) (cc (60 * j + a + (b - 1 - q))))] H := hP
                                      have hD : va_D A [ob m0 7 [.int 0, .int tr, .ref z0, .ref z1, .ref z2, .int (nI n), .ref y0, .ref y1, .ref y2, .int at_, .int rwi, .ref y3, .ref y4, .int sl, .int cr, .int gr, .ref y5, .ref y6, .int (nI rc), .ref x0, .ref x1, .ref x2, .ref x3], ar E z0 4 so, ar E z1 4 sg, ar E z2 240 (upd (cbw cc (60 * j + a) (60 * j2 + a2) b q) (((60 * j2) + a2) + ((b - 1) - q)) (cc (60 * j + a + (b - 1 - q))))] := hD
                                      rw [show upd (cbw cc (60 * j + a) (60 * j2 + a2) b q) (((60 * j2) + a2) + ((b - 1) - q)) (cc (60 * j + a + (b - 1 - q))) = cbw cc (60 * j + a) (60 * j2 + a2) b (q + 1) from cbw_s (by omega)] at hP hD
                                      refine lv_iinc (v := nI (q + 1)) (lv' := [(8, .int (nI (q + 1))), (9, .int (nI ((b - 1) - q))), (7, .int 1), (0, .ref m0), (1, .int (nI j)), (2, .int (nI a)), (3, .int (nI j2)), (4, .int (nI a2)), (5, .int (nI b))]) hx hb dX7_copy_221 hl (k := 1) rfl (nI_inc q) (by decide) rfl (fun ls hl => ?_)
                                      refine lv_goto (tgt := 166) hx hb dX7_copy_224 (by decide) ?_
                                      exact ih166 (q + 1) (by omega) (by omega) _ _ hP hD hS ls (lv_sub hl [0, 2, 3, 4, 5, 6, 7, 8] rfl)
                              exact L166 _ 0 (by omega) (Nat.lt_succ_self _) _ _ hP hD hS ls (lv_sub hl [0, 1, 3, 4, 5, 6, 7, 8] rfl)
                          ·
                            have c_34b := Int32.not_le.mp c_34
                            refine lv_aload_n hx hb dX7_copy_144 rfl (lv_at hl 1 rfl) ?_
                            refine lv_iconst (v := 3) hx hb dX7_copy_145 (by decide) ?_
                            refine cwVi (As := [.int 3]) (rest := []) ⟨hx, hb, hml, hown, hts⟩ (c_X7_fails l E _ m0 0 tr z0 z1 z2 n y0 y1 y2 at_ rwi y3 y4 sl cr gr y5 y6 rc x0 x1 x2 x3 3) (cwV 1 hts gX7_copy_X7_fails rfl rfl rfl (by decide +kernel) ⟨Nat.le_of_ble_eq_true rfl, Nat.le_of_ble_eq_true rfl⟩) hK hP hD hS hA [0] (by decide) rfl [m0] (fun _ => rfl) rfl 0 rfl rfl rfl rfl hl.1 rfl (catLe (Nat.le_of_ble_eq_true rfl)) dX7_copy_146 ⟨Nat.zero_le _, Nat.zero_le _⟩ (fun r_40 u_41 H locs hwr_40 hP hD hS => ?_)
                            have hP : va_P E.1 vwCl [ob m0 7 [.int 3, .int tr, .ref z0, .ref z1, .ref z2, .int (nI n), .ref y0, .ref y1, .ref y2, .int at_, .int rwi, .ref y3, .ref y4, .int sl, .int cr, .int gr, .ref y5, .ref y6, .int (nI rc), .ref x0, .ref x1, .ref x2, .ref x3], ar E z0 4 so, ar E z1 4 sg, ar E z2 240 cc] H := hP
                            have hD : va_D A [ob m0 7 [.int 3, .int tr, .ref z0, .ref z1, .ref z2, .int (nI n), .ref y0, .ref y1, .ref y2, .int at_, .int rwi, .ref y3, .ref y4, .int sl, .int cr, .int gr, .ref y5, .ref y6, .int (nI rc), .ref x0, .ref x1, .ref x2, .ref x3], ar E z0 4 so, ar E z1 4 sg, ar E z2 240 cc] := hD
                            subst hwr_40
                            have hnb : ¬ reachP ln2 x n_ := fun h => h.2.2.2 c_34b
                            have eA : spCopy (nI j) i (nI j2) x n_ (thM (so j)) (so j) (thM (so j2)) (so j2) ln ln2 = -13 := by rw [spCopy, if_neg (not_not_intro c_2), if_neg (not_not_intro c_4), if_neg (by rw [thM, if_neg c_5]; decide), if_neg (by rw [thM, if_neg c_8]; decide), if_neg (not_not_intro c_9), if_pos hnb, ite_self]
                            have e1 : fltF (spCopy (nI j) i (nI j2) x n_ (thM (so j)) (so j) (thM (so j2)) (so j2) ln ln2) = 3 := by rw [eA]; rfl
                            have hk0 : ¬ cpOk (nI j) i (nI j2) x n_ (thM (so j)) (so j) (thM (so j2)) (so j2) ln ln2 := fun h => hnb h.2.2.2.2.2.2
                            exact hret _ _ _ _ _ () dX7_copy_149 hS (by rw [e1, if_neg hk0]; exact hP) eA.symm
          ·
            refine lv_aload_n hx hb dX7_copy_64 rfl (lv_at hl 0 rfl) ?_
            refine lv_iconst (v := 2) hx hb dX7_copy_65 (by decide) ?_
            refine cwVi (As := [.int 2]) (rest := []) ⟨hx, hb, hml, hown, hts⟩ (c_X7_fails l E _ m0 0 tr z0 z1 z2 n y0 y1 y2 at_ rwi y3 y4 sl cr gr y5 y6 rc x0 x1 x2 x3 2) (cwV 1 hts gX7_copy_X7_fails rfl rfl rfl (by decide +kernel) ⟨Nat.le_of_ble_eq_true rfl, Nat.le_of_ble_eq_true rfl⟩) hK hP hD hS hA [0] (by decide) rfl [m0] (fun _ => rfl) rfl 0 rfl rfl rfl rfl hl.1 rfl (catLe (Nat.le_of_ble_eq_true rfl)) dX7_copy_66 ⟨Nat.zero_le _, Nat.zero_le _⟩ (fun r_42 u_43 H locs hwr_42 hP hD hS => ?_)
            have hP : va_P E.1 vwCl [ob m0 7 [.int 2, .int tr, .ref z0, .ref z1, .ref z2, .int (nI n), .ref y0, .ref y1, .ref y2, .int at_, .int rwi, .ref y3, .ref y4, .int sl, .int cr, .int gr, .ref y5, .ref y6, .int (nI rc), .ref x0, .ref x1, .ref x2, .ref x3], ar E z0 4 so, ar E z1 4 sg, ar E z2 240 cc] H := hP
            have hD : va_D A [ob m0 7 [.int 2, .int tr, .ref z0, .ref z1, .ref z2, .int (nI n), .ref y0, .ref y1, .ref y2, .int at_, .int rwi, .ref y3, .ref y4, .int sl, .int cr, .int gr, .ref y5, .ref y6, .int (nI rc), .ref x0, .ref x1, .ref x2, .ref x3], ar E z0 4 so, ar E z1 4 sg, ar E z2 240 cc] := hD
            subst hwr_42
            have eA : spCopy (nI j) i (nI j2) x n_ (thM (so j)) (so j) (thM (so j2)) (so j2) ln ln2 = -12 := by rw [spCopy, if_neg (not_not_intro c_2), if_neg (not_not_intro c_4), if_neg (by rw [thM, if_neg c_5]; decide), if_neg (by rw [thM, if_neg c_8]; decide), if_pos c_9]
            have e1 : fltF (spCopy (nI j) i (nI j2) x n_ (thM (so j)) (so j) (thM (so j2)) (so j2) ln ln2) = 2 := by rw [eA]; rfl
            have hk0 : ¬ cpOk (nI j) i (nI j2) x n_ (thM (so j)) (so j) (thM (so j2)) (so j2) ln ln2 := fun h => c_9 h.2.2.2.2.1
            exact hret _ _ _ _ _ () dX7_copy_69 hS (by rw [e1, if_neg hk0]; exact hP) eA.symm
        ·
          refine lv_aload_n hx hb dX7_copy_43 rfl (lv_at hl 0 rfl) ?_
          refine lv_iconst (v := 1) hx hb dX7_copy_44 (by decide) ?_
          refine cwVi (As := [.int 1]) (rest := []) ⟨hx, hb, hml, hown, hts⟩ (c_X7_fails l E _ m0 0 tr z0 z1 z2 n y0 y1 y2 at_ rwi y3 y4 sl cr gr y5 y6 rc x0 x1 x2 x3 1) (cwV 1 hts gX7_copy_X7_fails rfl rfl rfl (by decide +kernel) ⟨Nat.le_of_ble_eq_true rfl, Nat.le_of_ble_eq_true rfl⟩) hK hP hD hS hA [0] (by decide) rfl [m0] (fun _ => rfl) rfl 0 rfl rfl rfl rfl hl.1 rfl (catLe (Nat.le_of_ble_eq_true rfl)) dX7_copy_45 ⟨Nat.zero_le _, Nat.zero_le _⟩ (fun r_44 u_45 H locs hwr_44 hP hD hS => ?_)
          have hP : va_P E.1 vwCl [ob m0 7 [.int 1, .int tr, .ref z0, .ref z1, .ref z2, .int (nI n), .ref y0, .ref y1, .ref y2, .int at_, .int rwi, .ref y3, .ref y4, .int sl, .int cr, .int gr, .ref y5, .ref y6, .int (nI rc), .ref x0, .ref x1, .ref x2, .ref x3], ar E z0 4 so, ar E z1 4 sg, ar E z2 240 cc] H := hP
          have hD : va_D A [ob m0 7 [.int 1, .int tr, .ref z0, .ref z1, .ref z2, .int (nI n), .ref y0, .ref y1, .ref y2, .int at_, .int rwi, .ref y3, .ref y4, .int sl, .int cr, .int gr, .ref y5, .ref y6, .int (nI rc), .ref x0, .ref x1, .ref x2, .ref x3], ar E z0 4 so, ar E z1 4 sg, ar E z2 240 cc] := hD
          subst hwr_44
          have eA : spCopy (nI j) i (nI j2) x n_ (thM (so j)) (so j) (thM (so j2)) (so j2) ln ln2 = -11 := by rw [spCopy, if_neg (not_not_intro c_2), if_neg (not_not_intro c_4), if_neg (by rw [thM, if_neg c_5]; decide), if_pos (show thM (so j2) = 0 from if_pos c_8)]
          have e1 : fltF (spCopy (nI j) i (nI j2) x n_ (thM (so j)) (so j) (thM (so j2)) (so j2) ln ln2) = 1 := by rw [eA]; rfl
          have hk0 : ¬ cpOk (nI j) i (nI j2) x n_ (thM (so j)) (so j) (thM (so j2)) (so j2) ln ln2 := fun h => h.2.2.2.1 (if_pos c_8)
          exact hret _ _ _ _ _ () dX7_copy_48 hS (by rw [e1, if_neg hk0]; exact hP) eA.symm
    ·
      refine lv_iconst (v := (-1)) hx hb dX7_copy_19 (by decide) ?_
      have eA : spCopy (nI j) i o x n_ (thM (so j)) (so j) (thM (so j2)) (so j2) ln ln2 = -1 := by rw [spCopy, if_neg (not_not_intro c_2), if_pos c_4]
      have e1 : fltF (spCopy (nI j) i o x n_ (thM (so j)) (so j) (thM (so j2)) (so j2) ln ln2) = 0 := by rw [eA]; rfl
      have hk0 : ¬ cpOk (nI j) i o x n_ (thM (so j)) (so j) (thM (so j2)) (so j2) ln ln2 := fun h => c_4 h.2.1
      exact hret _ _ _ _ _ () dX7_copy_20 hS (by rw [e1, if_neg hk0]; exact hP) eA.symm
