set_option maxHeartbeats 4000000 in
set_option maxRecDepth 100000 in
theorem c_X7_refusesPair (l : Launch) (E : gE) (m0 : Nat) (lf : Int32) (tr : Int32) (z0 : Nat) (z1 : Nat) (z2 : Nat) (n : Nat) (y0 : Nat) (y1 : Nat) (y2 : Nat) (at_ : Int32) (rwi : Int32) (y3 : Nat) (y4 : Nat) (sl : Int32) (cr : Int32) (gr : Int32) (y5 : Nat) (y6 : Nat) (rc : Nat) (x0 : Nat) (x1 : Nat) (x2 : Nat) (x3 : Nat) (f : Int32) (g : Int32) : Met l yX7_refusesPair wsX7_refusesPair ({ frames := 1, cells := 0, slots := 0, locals := 22 }) (PR E [.ref m0, .int f, .int g] [ob m0 7 [.int lf, .int tr, .ref z0, .ref z1, .ref z2, .int (nI n), .ref y0, .ref y1, .ref y2, .int at_, .int rwi, .ref y3, .ref y4, .int sl, .int cr, .int gr, .ref y5, .ref y6, .int (nI rc), .ref x0, .ref x1, .ref x2, .ref x3]]) (vp_Si (fun r => r = acF n f g)) 0 0 (fun _ => False) := by
  refine mkRi (cc := cX7_refusesPair) (maxL := 4) (by decide) rfl (Nat.le_of_ble_eq_true rfl) ?_
  intro p e s m args below meth c QQ hx hb hml hown hmn hts hK hP hret ls hl
  have hown : s.vm.findClass RX7 = some m.cls := hown
  have hl : lv_has ls 4 [(0, .ref m0), (1, .int f), (2, .int g)] := hl
  refine lv_iload_n hx hb dX7_refusesPair_0 rfl (lv_at hl 2 rfl) ?_
  refine lv_bipush (v := 10) hx hb dX7_refusesPair_1 (by decide) ?_
  refine lv_bipush (v := 28) hx hb dX7_refusesPair_3 (by decide) ?_
  refine crS (As := [.int g, .int 10, .int 28]) (rest := []) ⟨hx, hb, hml, hown, hts⟩ (c_X7_within l E g 10 28) (va_cwS 3 hts gX7_refusesPair_X7_within rfl rfl rfl (by decide +kernel) ⟨Nat.le_of_ble_eq_true rfl, Nat.le_of_ble_eq_true rfl⟩) hK hP [] rfl rfl hl.1 rfl (catLe (Nat.le_of_ble_eq_true rfl)) dX7_refusesPair_5 ⟨Nat.zero_le _, Nat.zero_le _⟩ (fun r_1 hr_1 => ?_)
  subst hr_1
  refine lv_istore_n (lv' := [(3, .int (if wiP g 10 28 then 1 else 0)), (0, .ref m0), (1, .int f), (2, .int g)]) hx hb dX7_refusesPair_8 rfl hl (by decide) rfl (fun ls hl => ?_)
  refine lv_iload_n hx hb dX7_refusesPair_9 rfl (lv_at hl 3 rfl) ?_
  refine lv_iconst (v := 0) hx hb dX7_refusesPair_10 (by decide) ?_
  refine lv_iconst (v := 1) hx hb dX7_refusesPair_11 (by decide) ?_
  refine crS (As := [.int g, .int 0, .int 1]) (rest := []) ⟨hx, hb, hml, hown, hts⟩ (c_X7_within l E g 0 1) (va_cwS 3 hts gX7_refusesPair_X7_within rfl rfl rfl (by decide +kernel) ⟨Nat.le_of_ble_eq_true rfl, Nat.le_of_ble_eq_true rfl⟩) hK hP [] rfl rfl hl.1 rfl (catLe (Nat.le_of_ble_eq_true rfl)) dX7_refusesPair_12 ⟨Nat.zero_le _, Nat.zero_le _⟩ (fun r_2 hr_2 => ?_)
  subst hr_2
  refine ifB_ne (P := wiP g 0 1) (tgt := 22) hx hb dX7_refusesPair_15 (by decide) (fun c_3 => ?_) (fun c_3 => ?_)
  ·
    refine lv_iload_n hx hb dX7_refusesPair_22 rfl (lv_at hl 0 rfl) ?_
    refine ifB_ne (P := wiP g 10 28) (tgt := 39) hx hb dX7_refusesPair_23 (by decide) (fun c_4 => ?_) (fun c_4 => ?_)
    ·
      exact absurd c_4 (wi_01_no c_3)
    ·
      refine lv_iload_n hx hb dX7_refusesPair_26 rfl (lv_at hl 2 rfl) ?_
      refine lv_iconst (v := 0) hx hb dX7_refusesPair_27 (by decide) ?_
      refine lv_ldc hx hb hown (hts (.constant RX7 157 (99999)) (by decide +kernel)) dX7_refusesPair_28 ?_
      refine crS (As := [.int f, .int 0, .int 99999]) (rest := []) ⟨hx, hb, hml, hown, hts⟩ (c_X7_within l E f 0 99999) (va_cwS 3 hts gX7_refusesPair_X7_within rfl rfl rfl (by decide +kernel) ⟨Nat.le_of_ble_eq_true rfl, Nat.le_of_ble_eq_true rfl⟩) hK hP [] rfl rfl hl.1 rfl (catLe (Nat.le_of_ble_eq_true rfl)) dX7_refusesPair_30 ⟨Nat.zero_le _, Nat.zero_le _⟩ (fun r_5 hr_5 => ?_)
      subst hr_5
      refine ifB_ne (P := wiP f 0 99999) (tgt := 39) hx hb dX7_refusesPair_33 (by decide) (fun c_6 => ?_) (fun c_6 => ?_)
      ·
        refine lv_iload_n hx hb dX7_refusesPair_39 rfl (lv_at hl 0 rfl) ?_
        refine ifB_eq (P := wiP g 10 28) (tgt := 55) hx hb dX7_refusesPair_40 (by decide) (fun c_7 => ?_) (fun c_7 => ?_)
        ·
          refine lv_iconst (v := 0) hx hb dX7_refusesPair_55 (by decide) ?_
          exact hret _ _ _ dX7_refusesPair_56 (by rw [acF, if_pos ((wi_01 g).mp c_3), if_neg c_6.1, if_neg (not_not_intro (Int32.not_lt.mp c_6.2))])
        ·
          exact absurd c_7 c_4
      ·
        refine lv_bipush (v := (-2)) hx hb dX7_refusesPair_36 (by decide) ?_
        exact hret _ _ _ dX7_refusesPair_38 (by rw [acF, if_pos ((wi_01 g).mp c_3), wi_no c_6])
  ·
    refine lv_iload_n hx hb dX7_refusesPair_18 rfl (lv_at hl 0 rfl) ?_
    refine ifB_eq (P := wiP g 10 28) (tgt := 36) hx hb dX7_refusesPair_19 (by decide) (fun c_8 => ?_) (fun c_8 => ?_)
    ·
      refine lv_bipush (v := (-2)) hx hb dX7_refusesPair_36 (by decide) ?_
      exact hret _ _ _ dX7_refusesPair_38 (by rw [acF, if_neg (fun h => c_3 ((wi_01 g).mpr h)), wi_no c_8])
    ·
      refine lv_iload_n hx hb dX7_refusesPair_22 rfl (lv_at hl 0 rfl) ?_
      refine ifB_ne (P := wiP g 10 28) (tgt := 39) hx hb dX7_refusesPair_23 (by decide) (fun c_9 => ?_) (fun c_9 => ?_)
      ·
        refine lv_iload_n hx hb dX7_refusesPair_39 rfl (lv_at hl 0 rfl) ?_
        refine ifB_eq (P := wiP g 10 28) (tgt := 55) hx hb dX7_refusesPair_40 (by decide) (fun c_10 => ?_) (fun c_10 => ?_)
        ·
          exact absurd c_9 c_10
        ·
          refine lv_aload_n hx hb dX7_refusesPair_43 rfl (lv_at hl 1 rfl) ?_
          refine lv_iload_n hx hb dX7_refusesPair_44 rfl (lv_at hl 2 rfl) ?_
          refine crV (As := [.int f]) (rest := []) ⟨hx, hb, hml, hown, hts⟩ (c_X7_isWire l E m0 lf tr z0 z1 z2 n y0 y1 y2 at_ rwi y3 y4 sl cr gr y5 y6 rc x0 x1 x2 x3 f) (cwV 1 hts gX7_refusesPair_X7_isWire rfl rfl rfl (by decide +kernel) ⟨Nat.le_of_ble_eq_true rfl, Nat.le_of_ble_eq_true rfl⟩) hK hP [0] rfl 0 rfl rfl rfl rfl hl.1 rfl (catLe (Nat.le_of_ble_eq_true rfl)) dX7_refusesPair_45 ⟨Nat.zero_le _, Nat.zero_le _⟩ (fun r_11 hr_11 => ?_)
          subst hr_11
          refine ifB_ne (P := hasP n f) (tgt := 55) hx hb dX7_refusesPair_48 (by decide) (fun c_12 => ?_) (fun c_12 => ?_)
          ·
            refine lv_iconst (v := 0) hx hb dX7_refusesPair_55 (by decide) ?_
            exact hret _ _ _ dX7_refusesPair_56 (by rw [acF, if_neg (fun h => c_3 ((wi_01 g).mpr h)), if_neg c_8.1, if_neg (not_not_intro (Int32.not_lt.mp c_8.2)), if_neg (not_not_intro c_12)])
          ·
            refine lv_iconst (v := (-1)) hx hb dX7_refusesPair_51 (by decide) ?_
            refine lv_goto (tgt := 56) hx hb dX7_refusesPair_52 (by decide) ?_
            exact hret _ _ _ dX7_refusesPair_56 (by rw [acF, if_neg (fun h => c_3 ((wi_01 g).mpr h)), if_neg c_8.1, if_neg (not_not_intro (Int32.not_lt.mp c_8.2)), if_pos c_12])
      ·
        exact absurd c_8 c_9
set_option maxHeartbeats 4000000 in
set_option maxRecDepth 100000 in
theorem c_X7_does (l : Launch) (E : gE) (sz : Nat) (m0 : Nat) (lf : Int32) (tr : Int32) (z0 : Nat) (z1 : Nat) (z2 : Nat) (n : Nat) (y0 : Nat) (y1 : Nat) (y2 : Nat) (at_ : Int32) (rwi : Int32) (y3 : Nat) (y4 : Nat) (sl : Int32) (cr : Int32) (gr : Int32) (y5 : Nat) (y6 : Nat) (rc : Nat) (x0 : Nat) (x1 : Nat) (x2 : Nat) (x3 : Nat) (kd : Nat → Int32) (mn : Nat → Int32) (pu : Nat → Int32) (f : Int32) (g : Int32) (hFR : FR n kd mn) (h0n : 0 < n) (hpb : PB n pu) (hac : acF n f g = 0) : Met l yX7_does wsX7_does ({ frames := 5, cells := 0, slots := 0, locals := 112 }) (PW E [.ref m0, .int f, .int g] [ob m0 7 [.int lf, .int tr, .ref z0, .ref z1, .ref z2, .int (nI n), .ref y0, .ref y1, .ref y2, .int at_, .int rwi, .ref y3, .ref y4, .int sl, .int cr, .int gr, .ref y5, .ref y6, .int (nI rc), .ref x0, .ref x1, .ref x2, .ref x3], ar E y0 6 kd, ar E y1 6 mn, ar E y2 6 pu] sz) (QWi E (fun r _ => r = if (dStep n (woF kd mn n - 1) (rmF kd mn) (woF kd mn) f g (pu, sl, cr)).isSome = true then 1 else 0) (fun (_ : Unit) => [ob m0 7 [.int lf, .int tr, .ref z0, .ref z1, .ref z2, .int (nI n), .ref y0, .ref y1, .ref y2, .int at_, .int rwi, .ref y3, .ref y4, .int (((dStep n (woF kd mn n - 1) (rmF kd mn) (woF kd mn) f g (pu, sl, cr)).getD (pu, sl, cr)).2.1), .int (((dStep n (woF kd mn n - 1) (rmF kd mn) (woF kd mn) f g (pu, sl, cr)).getD (pu, sl, cr)).2.2), .int gr, .ref y5, .ref y6, .int (nI rc), .ref x0, .ref x1, .ref x2, .ref x3], ar E y0 6 kd, ar E y1 6 mn, ar E y2 6 (((dStep n (woF kd mn n - 1) (rmF kd mn) (woF kd mn) f g (pu, sl, cr)).getD (pu, sl, cr)).1)]) (va_A [ob m0 7 [.int lf, .int tr, .ref z0, .ref z1, .ref z2, .int (nI n), .ref y0, .ref y1, .ref y2, .int at_, .int rwi, .ref y3, .ref y4, .int sl, .int cr, .int gr, .ref y5, .ref y6, .int (nI rc), .ref x0, .ref x1, .ref x2, .ref x3], ar E y0 6 kd, ar E y1 6 mn, ar E y2 6 pu] sz)) 0 0 (va_A [ob m0 7 [.int lf, .int tr, .ref z0, .ref z1, .ref z2, .int (nI n), .ref y0, .ref y1, .ref y2, .int at_, .int rwi, .ref y3, .ref y4, .int sl, .int cr, .int gr, .ref y5, .ref y6, .int (nI rc), .ref x0, .ref x1, .ref x2, .ref x3], ar E y0 6 kd, ar E y1 6 mn, ar E y2 6 pu] sz) := by
  refine mkWz (cc := cX7_does) (maxL := 5) (by decide) rfl (Nat.le_of_ble_eq_true rfl) ?_
  intro p e s m args below meth c QQ A hx hb hml hown hmn hts hK hA hP hD hS hret ls hl
  have hown : s.vm.findClass RX7 = some m.cls := hown
  have hl : lv_has ls 5 [(0, .ref m0), (1, .int f), (2, .int g)] := hl
  have hinX7 : ∀ w ∈ wsX70, w ∈ wsX7_does := by decide +kernel
  have fl_25 := hts (.fieldLink RX7 25 "GuardAbacusModel" "pushed" "[I") (by decide +kernel)
  have fl_145 := hts (.fieldLink RX7 145 "GuardAbacusModel" "slidAll" "I") (by decide +kernel)
  have fl_148 := hts (.fieldLink RX7 148 "GuardAbacusModel" "carriedAll" "I") (by decide +kernel)
  have hn := hFR.1
  refine lv_aload_n hx hb dX7_does_0 rfl (lv_at hl 0 rfl) ?_
  refine crV (As := []) (rest := []) ⟨hx, hb, hml, hown, hts⟩ (c_X7_numberNow l E m0 lf tr z0 z1 z2 n y0 y1 y2 at_ rwi y3 y4 sl cr gr y5 y6 rc x0 x1 x2 x3 kd mn pu (by first | assumption | omega)) (cwV 0 hts gX7_does_X7_numberNow rfl rfl rfl (by decide +kernel) ⟨Nat.le_of_ble_eq_true rfl, Nat.le_of_ble_eq_true rfl⟩) hK hP [0, 1, 2, 3] rfl 0 rfl rfl rfl rfl hl.1 rfl (catLe (Nat.le_of_ble_eq_true rfl)) dX7_does_1 ⟨Nat.zero_le _, Nat.zero_le _⟩ (fun r_1 hr_1 => ?_)
  subst hr_1
  refine lv_istore_n (lv' := [(3, .int (numF pu (woF kd mn) n)), (0, .ref m0), (1, .int f), (2, .int g)]) hx hb dX7_does_4 rfl hl (by decide) rfl (fun ls hl => ?_)
  refine lv_iload_n hx hb dX7_does_5 rfl (lv_at hl 3 rfl) ?_
  refine lv_bipush (v := 10) hx hb dX7_does_6 (by decide) ?_
  refine lv_icmp_lt (tgt := 59) hx hb dX7_does_8 (by decide) (fun c_2 => ?_) (fun c_2 => ?_)
  ·
    have c_2b := Int32.not_le.mpr c_2
    have hv : g = 0 ∨ g = 1 := (acF_0 hac).resolve_right (fun h => h.2.1 c_2)
    refine lv_iload_n hx hb dX7_does_59 rfl (lv_at hl 3 rfl) ?_
    refine lv_if_ne (tgt := 71) hx hb dX7_does_60 (by decide) (fun c_3 => ?_) (fun c_3 => ?_)
    ·
      refine lv_iload_n hx hb dX7_does_71 rfl (lv_at hl 3 rfl) ?_
      refine lv_iconst (v := 1) hx hb dX7_does_72 (by decide) ?_
      refine lv_icmp_ne (tgt := 83) hx hb dX7_does_73 (by decide) (fun c_4 => ?_) (fun c_4 => ?_)
      ·
        exact absurd (hv.resolve_left c_3) c_4
      ·
        refine lv_iload_n hx hb dX7_does_76 rfl (lv_at hl 2 rfl) ?_
        refine lv_iload_n hx hb dX7_does_77 rfl (lv_at hl 0 rfl) ?_
        refine lv_icmp_le (tgt := 83) hx hb dX7_does_78 (by decide) (fun c_5 => ?_) (fun c_5 => ?_)
        ·
          have c_5b := Int32.not_lt.mpr c_5
          refine lv_iload_n hx hb dX7_does_83 rfl (lv_at hl 3 rfl) ?_
          refine lv_if_ne (tgt := 93) hx hb dX7_does_84 (by decide) (fun c_6 => ?_) (fun c_6 => ?_)
          ·
            refine lv_iload_n hx hb dX7_does_93 rfl (lv_at hl 0 rfl) ?_
            refine lv_iload_n hx hb dX7_does_94 rfl (lv_at hl 2 rfl) ?_
            refine lv_isub hx hb dX7_does_95 ?_
            refine lv_istore (lv' := [(4, .int ((numF pu (woF kd mn) n) - f)), (3, .int (numF pu (woF kd mn) n)), (0, .ref m0), (1, .int f), (2, .int g)]) hx hb dX7_does_96 hl (by decide) rfl (fun ls hl => ?_)
            refine lv_aload_n hx hb dX7_does_98 rfl (lv_at hl 2 rfl) ?_
            refine lv_dup hx hb dX7_does_99 rfl ?_
            refine va_get (D := E.1) (ci := 7) (v := .int sl) (C := RX7) (T := TX7) (N := 23) hx hb hts hinX7 hown hK.1 hP 0 rfl rfl 13 (by decide) fl_145 (fun _ h9 => h9) rfl dX7_does_100 ?_
            refine lv_aload_n hx hb dX7_does_103 rfl (lv_at hl 2 rfl) ?_
            refine lv_iload_n hx hb dX7_does_104 rfl (lv_at hl 1 rfl) ?_
            refine lv_iload hx hb dX7_does_105 (lv_at hl 0 rfl) ?_
            refine crV (As := [.int (numF pu (woF kd mn) n), .int ((numF pu (woF kd mn) n) - f)]) (rest := [.int sl, .ref m0]) ⟨hx, hb, hml, hown, hts⟩ (c_X7_slidBetween l E m0 lf tr z0 z1 z2 n y0 y1 y2 at_ rwi y3 y4 sl cr gr y5 y6 rc x0 x1 x2 x3 kd mn (numF pu (woF kd mn) n) ((numF pu (woF kd mn) n) - f) (by first | assumption | omega)) (cwV 2 hts gX7_does_X7_slidBetween rfl rfl rfl (by decide +kernel) ⟨Nat.le_of_ble_eq_true rfl, Nat.le_of_ble_eq_true rfl⟩) hK hP [0, 1, 2] rfl 0 rfl rfl rfl rfl hl.1 rfl (catLe (Nat.le_of_ble_eq_true rfl)) dX7_does_107 ⟨Nat.zero_le _, Nat.zero_le _⟩ (fun r_7 hr_7 => ?_)
            subst hr_7
            refine lv_iadd hx hb dX7_does_110 ?_
            refine va_put (D := E.1) (ci := 7) (v := .int (sl + (slF (rmF kd mn) (woF kd mn) (numF pu (woF kd mn) n) ((numF pu (woF kd mn) n) - f) n))) (ty := .int) (C := RX7) (T := TX7) (N := 23) hx hb hts hinX7 tyX7 tyX7_ok nmX7 hown hK.1 hP hD hS 0 rfl rfl 13 (by decide) fl_145 (fun _ h9 => h9) rfl (by decide +kernel) rfl rfl (Nat.le_of_ble_eq_true rfl) dX7_does_111 (fun H locs hP hD hS => ?_)
            have hP : va_P E.1 vwCl [ob m0 7 [.int lf, .int tr, .ref z0, .ref z1, .ref z2, .int (nI n), .ref y0, .ref y1, .ref y2, .int at_, .int rwi, .ref y3, .ref y4, .int (sl + (slF (rmF kd mn) (woF kd mn) (numF pu (woF kd mn) n) ((numF pu (woF kd mn) n) - f) n)), .int cr, .int gr, .ref y5, .ref y6, .int (nI rc), .ref x0, .ref x1, .ref x2, .ref x3], ar E y0 6 kd, ar E y1 6 mn, ar E y2 6 pu] H := hP
            have hD : va_D A [ob m0 7 [.int lf, .int tr, .ref z0, .ref z1, .ref z2, .int (nI n), .ref y0, .ref y1, .ref y2, .int at_, .int rwi, .ref y3, .ref y4, .int (sl + (slF (rmF kd mn) (woF kd mn) (numF pu (woF kd mn) n) ((numF pu (woF kd mn) n) - f) n)), .int cr, .int gr, .ref y5, .ref y6, .int (nI rc), .ref x0, .ref x1, .ref x2, .ref x3], ar E y0 6 kd, ar E y1 6 mn, ar E y2 6 pu] := hD
            refine lv_aload_n hx hb dX7_does_114 rfl (lv_at hl 2 rfl) ?_
            refine lv_dup hx hb dX7_does_115 rfl ?_
            refine va_get (D := E.1) (ci := 7) (v := .int cr) (C := RX7) (T := TX7) (N := 23) hx hb hts hinX7 hown hK.1 hP 0 rfl rfl 14 (by decide) fl_148 (fun _ h9 => h9) rfl dX7_does_116 ?_
            refine lv_aload_n hx hb dX7_does_119 rfl (lv_at hl 2 rfl) ?_
            refine lv_iload_n hx hb dX7_does_120 rfl (lv_at hl 4 rfl) ?_
            refine lv_if_ne (tgt := 128) hx hb dX7_does_121 (by decide) (fun c_8 => ?_) (fun c_8 => ?_)
            ·
              refine lv_iload hx hb dX7_does_128 (lv_at hl 0 rfl) ?_
              refine lv_iload_n hx hb dX7_does_130 rfl (lv_at hl 3 rfl) ?_
              refine crV (As := [.int ((numF pu (woF kd mn) n) - f), .int f]) (rest := [.int cr, .ref m0]) ⟨hx, hb, hml, hown, hts⟩ (c_X7_carriedBy l E m0 lf tr z0 z1 z2 n y0 y1 y2 at_ rwi y3 y4 (sl + (slF (rmF kd mn) (woF kd mn) (numF pu (woF kd mn) n) ((numF pu (woF kd mn) n) - f) n)) cr gr y5 y6 rc x0 x1 x2 x3 kd mn ((numF pu (woF kd mn) n) - f) f (by first | assumption | omega)) (cwV 2 hts gX7_does_X7_carriedBy rfl rfl rfl (by decide +kernel) ⟨Nat.le_of_ble_eq_true rfl, Nat.le_of_ble_eq_true rfl⟩) hK hP [0, 1, 2] rfl 0 rfl rfl rfl rfl hl.1 rfl (catLe (Nat.le_of_ble_eq_true rfl)) dX7_does_131 ⟨Nat.zero_le _, Nat.zero_le _⟩ (fun r_9 hr_9 => ?_)
              subst hr_9
              refine lv_iadd hx hb dX7_does_134 ?_
              refine va_put (D := E.1) (ci := 7) (v := .int (cr + (cyF (rmF kd mn) (woF kd mn) ((numF pu (woF kd mn) n) - f) f n))) (ty := .int) (C := RX7) (T := TX7) (N := 23) hx hb hts hinX7 tyX7 tyX7_ok nmX7 hown hK.1 hP hD hS 0 rfl rfl 14 (by decide) fl_148 (fun _ h9 => h9) rfl (by decide +kernel) rfl rfl (Nat.le_of_ble_eq_true rfl) dX7_does_135 (fun H locs hP hD hS => ?_)
              have hP : va_P E.1 vwCl [ob m0 7 [.int lf, .int tr, .ref z0, .ref z1, .ref z2, .int (nI n), .ref y0, .ref y1, .ref y2, .int at_, .int rwi, .ref y3, .ref y4, .int (sl + (slF (rmF kd mn) (woF kd mn) (numF pu (woF kd mn) n) ((numF pu (woF kd mn) n) - f) n)), .int (cr + (cyF (rmF kd mn) (woF kd mn) ((numF pu (woF kd mn) n) - f) f n)), .int gr, .ref y5, .ref y6, .int (nI rc), .ref x0, .ref x1, .ref x2, .ref x3], ar E y0 6 kd, ar E y1 6 mn, ar E y2 6 pu] H := hP
              have hD : va_D A [ob m0 7 [.int lf, .int tr, .ref z0, .ref z1, .ref z2, .int (nI n), .ref y0, .ref y1, .ref y2, .int at_, .int rwi, .ref y3, .ref y4, .int (sl + (slF (rmF kd mn) (woF kd mn) (numF pu (woF kd mn) n) ((numF pu (woF kd mn) n) - f) n)), .int (cr + (cyF (rmF kd mn) (woF kd mn) ((numF pu (woF kd mn) n) - f) f n)), .int gr, .ref y5, .ref y6, .int (nI rc), .ref x0, .ref x1, .ref x2, .ref x3], ar E y0 6 kd, ar E y1 6 mn, ar E y2 6 pu] := hD
              refine lv_aload_n hx hb dX7_does_138 rfl (lv_at hl 2 rfl) ?_
              refine lv_iload hx hb dX7_does_139 (lv_at hl 0 rfl) ?_
              refine cwVv (As := [.int ((numF pu (woF kd mn) n) - f)]) (rest := []) ⟨hx, hb, hml, hown, hts⟩ (c_X7_become l E _ m0 lf tr z0 z1 z2 n y0 y1 y2 at_ rwi y3 y4 (sl + (slF (rmF kd mn) (woF kd mn) (numF pu (woF kd mn) n) ((numF pu (woF kd mn) n) - f) n)) (cr + (cyF (rmF kd mn) (woF kd mn) ((numF pu (woF kd mn) n) - f) f n)) gr y5 y6 rc x0 x1 x2 x3 kd mn pu ((numF pu (woF kd mn) n) - f) (by first | assumption | omega)) (cwV 1 hts gX7_does_X7_become rfl rfl rfl (by decide +kernel) ⟨Nat.le_of_ble_eq_true rfl, Nat.le_of_ble_eq_true rfl⟩) hK hP hD hS hA [0, 1, 2, 3] (by decide) rfl [m0, y0, y1, y2] (fun _ => rfl) rfl 0 rfl rfl rfl rfl hl.1 rfl (catLe (Nat.le_of_ble_eq_true rfl)) dX7_does_141 ⟨Nat.zero_le _, Nat.zero_le _⟩ (fun u_11 H locs hwr_10 hP hD hS => ?_)
              have hP : va_P E.1 vwCl [ob m0 7 [.int lf, .int tr, .ref z0, .ref z1, .ref z2, .int (nI n), .ref y0, .ref y1, .ref y2, .int at_, .int rwi, .ref y3, .ref y4, .int (sl + (slF (rmF kd mn) (woF kd mn) (numF pu (woF kd mn) n) ((numF pu (woF kd mn) n) - f) n)), .int (cr + (cyF (rmF kd mn) (woF kd mn) ((numF pu (woF kd mn) n) - f) f n)), .int gr, .ref y5, .ref y6, .int (nI rc), .ref x0, .ref x1, .ref x2, .ref x3], ar E y0 6 kd, ar E y1 6 mn, ar E y2 6 (fil (fun w => figF (woF kd mn w) (rmF kd mn w) ((numF pu (woF kd mn) n) - f)) pu n)] H := hP
              have hD : va_D A [ob m0 7 [.int lf, .int tr, .ref z0, .ref z1, .ref z2, .int (nI n), .ref y0, .ref y1, .ref y2, .int at_, .int rwi, .ref y3, .ref y4, .int (sl + (slF (rmF kd mn) (woF kd mn) (numF pu (woF kd mn) n) ((numF pu (woF kd mn) n) - f) n)), .int (cr + (cyF (rmF kd mn) (woF kd mn) ((numF pu (woF kd mn) n) - f) f n)), .int gr, .ref y5, .ref y6, .int (nI rc), .ref x0, .ref x1, .ref x2, .ref x3], ar E y0 6 kd, ar E y1 6 mn, ar E y2 6 (fil (fun w => figF (woF kd mn w) (rmF kd mn w) ((numF pu (woF kd mn) n) - f)) pu n)] := hD
              refine lv_iconst (v := 1) hx hb dX7_does_144 (by decide) ?_
              have ed : dStep n (woF kd mn n - 1) (rmF kd mn) (woF kd mn) f g (pu, sl, cr) = some (fil (fun w => figF (woF kd mn w) (rmF kd mn w) ((numF pu (woF kd mn) n) - f)) pu n, (sl + (slF (rmF kd mn) (woF kd mn) (numF pu (woF kd mn) n) ((numF pu (woF kd mn) n) - f) n)), (cr + (cyF (rmF kd mn) (woF kd mn) ((numF pu (woF kd mn) n) - f) f n))) := by simp only [dStep]; rw [if_neg c_3, if_pos c_4]; simp only [dTak]; rw [if_pos ⟨h0n, c_5b⟩]
              exact hret _ _ _ _ _ () dX7_does_145 rfl hS (by rw [ed]; exact hP) (by rw [ed]; rfl)
            ·
              exact absurd c_8 c_3
          ·
            exact absurd c_6 c_3
        ·
          have c_5b := Int32.not_le.mp c_5
          refine lv_iconst (v := 0) hx hb dX7_does_81 (by decide) ?_
          have ed : dStep n (woF kd mn n - 1) (rmF kd mn) (woF kd mn) f g (pu, sl, cr) = none := by simp only [dStep]; rw [if_neg c_3, if_pos c_4]; simp only [dTak]; rw [if_neg (fun h => h.2 c_5b)]
          exact hret _ _ _ _ _ () dX7_does_82 rfl hS (by rw [ed]; exact hP) (by rw [ed]; rfl)
    ·
      refine lv_aload_n hx hb dX7_does_63 rfl (lv_at hl 1 rfl) ?_
      refine lv_iload_n hx hb dX7_does_64 rfl (lv_at hl 2 rfl) ?_
      refine crV (As := [.int f]) (rest := []) ⟨hx, hb, hml, hown, hts⟩ (c_X7_canAdd l E m0 lf tr z0 z1 z2 n y0 y1 y2 at_ rwi y3 y4 sl cr gr y5 y6 rc x0 x1 x2 x3 kd mn pu f (by first | assumption | omega)) (cwV 1 hts gX7_does_X7_canAdd rfl rfl rfl (by decide +kernel) ⟨Nat.le_of_ble_eq_true rfl, Nat.le_of_ble_eq_true rfl⟩) hK hP [0, 1, 2, 3] rfl 0 rfl rfl rfl rfl hl.1 rfl (catLe (Nat.le_of_ble_eq_true rfl)) dX7_does_65 ⟨Nat.zero_le _, Nat.zero_le _⟩ (fun r_12 hr_12 => ?_)
      subst hr_12
      refine ifB_eq (P := ¬ woF kd mn n - 1 - (numF pu (woF kd mn) n) < f) (tgt := 81) hx hb dX7_does_68 (by decide) (fun c_13 => ?_) (fun c_13 => ?_)
      ·
        refine lv_iconst (v := 0) hx hb dX7_does_81 (by decide) ?_
        have ed : dStep n (woF kd mn n - 1) (rmF kd mn) (woF kd mn) f g (pu, sl, cr) = none := by simp only [dStep]; rw [if_pos c_3]; simp only [dSum]; rw [if_neg (fun h => c_13 h.2)]
        exact hret _ _ _ _ _ () dX7_does_82 rfl hS (by rw [ed]; exact hP) (by rw [ed]; rfl)
      ·
        refine lv_iload_n hx hb dX7_does_71 rfl (lv_at hl 3 rfl) ?_
        refine lv_iconst (v := 1) hx hb dX7_does_72 (by decide) ?_
        refine lv_icmp_ne (tgt := 83) hx hb dX7_does_73 (by decide) (fun c_14 => ?_) (fun c_14 => ?_)
        ·
          refine lv_iload_n hx hb dX7_does_83 rfl (lv_at hl 3 rfl) ?_
          refine lv_if_ne (tgt := 93) hx hb dX7_does_84 (by decide) (fun c_15 => ?_) (fun c_15 => ?_)
          ·
            exact absurd c_3 c_15
          ·
            refine lv_iload_n hx hb dX7_does_87 rfl (lv_at hl 0 rfl) ?_
            refine lv_iload_n hx hb dX7_does_88 rfl (lv_at hl 2 rfl) ?_
            refine lv_iadd hx hb dX7_does_89 ?_
            refine lv_goto (tgt := 96) hx hb dX7_does_90 (by decide) ?_
            refine lv_istore (lv' := [(4, .int ((numF pu (woF kd mn) n) + f)), (3, .int (numF pu (woF kd mn) n)), (0, .ref m0), (1, .int f), (2, .int g)]) hx hb dX7_does_96 hl (by decide) rfl (fun ls hl => ?_)
            refine lv_aload_n hx hb dX7_does_98 rfl (lv_at hl 2 rfl) ?_
            refine lv_dup hx hb dX7_does_99 rfl ?_
            refine va_get (D := E.1) (ci := 7) (v := .int sl) (C := RX7) (T := TX7) (N := 23) hx hb hts hinX7 hown hK.1 hP 0 rfl rfl 13 (by decide) fl_145 (fun _ h9 => h9) rfl dX7_does_100 ?_
            refine lv_aload_n hx hb dX7_does_103 rfl (lv_at hl 2 rfl) ?_
            refine lv_iload_n hx hb dX7_does_104 rfl (lv_at hl 1 rfl) ?_
            refine lv_iload hx hb dX7_does_105 (lv_at hl 0 rfl) ?_
            refine crV (As := [.int (numF pu (woF kd mn) n), .int ((numF pu (woF kd mn) n) + f)]) (rest := [.int sl, .ref m0]) ⟨hx, hb, hml, hown, hts⟩ (c_X7_slidBetween l E m0 lf tr z0 z1 z2 n y0 y1 y2 at_ rwi y3 y4 sl cr gr y5 y6 rc x0 x1 x2 x3 kd mn (numF pu (woF kd mn) n) ((numF pu (woF kd mn) n) + f) (by first | assumption | omega)) (cwV 2 hts gX7_does_X7_slidBetween rfl rfl rfl (by decide +kernel) ⟨Nat.le_of_ble_eq_true rfl, Nat.le_of_ble_eq_true rfl⟩) hK hP [0, 1, 2] rfl 0 rfl rfl rfl rfl hl.1 rfl (catLe (Nat.le_of_ble_eq_true rfl)) dX7_does_107 ⟨Nat.zero_le _, Nat.zero_le _⟩ (fun r_16 hr_16 => ?_)
            subst hr_16
            refine lv_iadd hx hb dX7_does_110 ?_
            refine va_put (D := E.1) (ci := 7) (v := .int (sl + (slF (rmF kd mn) (woF kd mn) (numF pu (woF kd mn) n) ((numF pu (woF kd mn) n) + f) n))) (ty := .int) (C := RX7) (T := TX7) (N := 23) hx hb hts hinX7 tyX7 tyX7_ok nmX7 hown hK.1 hP hD hS 0 rfl rfl 13 (by decide) fl_145 (fun _ h9 => h9) rfl (by decide +kernel) rfl rfl (Nat.le_of_ble_eq_true rfl) dX7_does_111 (fun H locs hP hD hS => ?_)
            have hP : va_P E.1 vwCl [ob m0 7 [.int lf, .int tr, .ref z0, .ref z1, .ref z2, .int (nI n), .ref y0, .ref y1, .ref y2, .int at_, .int rwi, .ref y3, .ref y4, .int (sl + (slF (rmF kd mn) (woF kd mn) (numF pu (woF kd mn) n) ((numF pu (woF kd mn) n) + f) n)), .int cr, .int gr, .ref y5, .ref y6, .int (nI rc), .ref x0, .ref x1, .ref x2, .ref x3], ar E y0 6 kd, ar E y1 6 mn, ar E y2 6 pu] H := hP
            have hD : va_D A [ob m0 7 [.int lf, .int tr, .ref z0, .ref z1, .ref z2, .int (nI n), .ref y0, .ref y1, .ref y2, .int at_, .int rwi, .ref y3, .ref y4, .int (sl + (slF (rmF kd mn) (woF kd mn) (numF pu (woF kd mn) n) ((numF pu (woF kd mn) n) + f) n)), .int cr, .int gr, .ref y5, .ref y6, .int (nI rc), .ref x0, .ref x1, .ref x2, .ref x3], ar E y0 6 kd, ar E y1 6 mn, ar E y2 6 pu] := hD
            refine lv_aload_n hx hb dX7_does_114 rfl (lv_at hl 2 rfl) ?_
            refine lv_dup hx hb dX7_does_115 rfl ?_
            refine va_get (D := E.1) (ci := 7) (v := .int cr) (C := RX7) (T := TX7) (N := 23) hx hb hts hinX7 hown hK.1 hP 0 rfl rfl 14 (by decide) fl_148 (fun _ h9 => h9) rfl dX7_does_116 ?_
            refine lv_aload_n hx hb dX7_does_119 rfl (lv_at hl 2 rfl) ?_
            refine lv_iload_n hx hb dX7_does_120 rfl (lv_at hl 4 rfl) ?_
            refine lv_if_ne (tgt := 128) hx hb dX7_does_121 (by decide) (fun c_17 => ?_) (fun c_17 => ?_)
            ·
              exact absurd c_3 c_17
            ·
              refine lv_iload_n hx hb dX7_does_124 rfl (lv_at hl 1 rfl) ?_
              refine lv_goto (tgt := 130) hx hb dX7_does_125 (by decide) ?_
              refine lv_iload_n hx hb dX7_does_130 rfl (lv_at hl 3 rfl) ?_
              refine crV (As := [.int (numF pu (woF kd mn) n), .int f]) (rest := [.int cr, .ref m0]) ⟨hx, hb, hml, hown, hts⟩ (c_X7_carriedBy l E m0 lf tr z0 z1 z2 n y0 y1 y2 at_ rwi y3 y4 (sl + (slF (rmF kd mn) (woF kd mn) (numF pu (woF kd mn) n) ((numF pu (woF kd mn) n) + f) n)) cr gr y5 y6 rc x0 x1 x2 x3 kd mn (numF pu (woF kd mn) n) f (by first | assumption | omega)) (cwV 2 hts gX7_does_X7_carriedBy rfl rfl rfl (by decide +kernel) ⟨Nat.le_of_ble_eq_true rfl, Nat.le_of_ble_eq_true rfl⟩) hK hP [0, 1, 2] rfl 0 rfl rfl rfl rfl hl.1 rfl (catLe (Nat.le_of_ble_eq_true rfl)) dX7_does_131 ⟨Nat.zero_le _, Nat.zero_le _⟩ (fun r_18 hr_18 => ?_)
              subst hr_18
              refine lv_iadd hx hb dX7_does_134 ?_
              refine va_put (D := E.1) (ci := 7) (v := .int (cr + (cyF (rmF kd mn) (woF kd mn) (numF pu (woF kd mn) n) f n))) (ty := .int) (C := RX7) (T := TX7) (N := 23) hx hb hts hinX7 tyX7 tyX7_ok nmX7 hown hK.1 hP hD hS 0 rfl rfl 14 (by decide) fl_148 (fun _ h9 => h9) rfl (by decide +kernel) rfl rfl (Nat.le_of_ble_eq_true rfl) dX7_does_135 (fun H locs hP hD hS => ?_)
              have hP : va_P E.1 vwCl [ob m0 7 [.int lf, .int tr, .ref z0, .ref z1, .ref z2, .int (nI n), .ref y0, .ref y1, .ref y2, .int at_, .int rwi, .ref y3, .ref y4, .int (sl + (slF (rmF kd mn) (woF kd mn) (numF pu (woF kd mn) n) ((numF pu (woF kd mn) n) + f) n)), .int (cr + (cyF (rmF kd mn) (woF kd mn) (numF pu (woF kd mn) n) f n)), .int gr, .ref y5, .ref y6, .int (nI rc), .ref x0, .ref x1, .ref x2, .ref x3], ar E y0 6 kd, ar E y1 6 mn, ar E y2 6 pu] H := hP
              have hD : va_D A [ob m0 7 [.int lf, .int tr, .ref z0, .ref z1, .ref z2, .int (nI n), .ref y0, .ref y1, .ref y2, .int at_, .int rwi, .ref y3, .ref y4, .int (sl + (slF (rmF kd mn) (woF kd mn) (numF pu (woF kd mn) n) ((numF pu (woF kd mn) n) + f) n)), .int (cr + (cyF (rmF kd mn) (woF kd mn) (numF pu (woF kd mn) n) f n)), .int gr, .ref y5, .ref y6, .int (nI rc), .ref x0, .ref x1, .ref x2, .ref x3], ar E y0 6 kd, ar E y1 6 mn, ar E y2 6 pu] := hD
              refine lv_aload_n hx hb dX7_does_138 rfl (lv_at hl 2 rfl) ?_
              refine lv_iload hx hb dX7_does_139 (lv_at hl 0 rfl) ?_
              refine cwVv (As := [.int ((numF pu (woF kd mn) n) + f)]) (rest := []) ⟨hx, hb, hml, hown, hts⟩ (c_X7_become l E _ m0 lf tr z0 z1 z2 n y0 y1 y2 at_ rwi y3 y4 (sl + (slF (rmF kd mn) (woF kd mn) (numF pu (woF kd mn) n) ((numF pu (woF kd mn) n) + f) n)) (cr + (cyF (rmF kd mn) (woF kd mn) (numF pu (woF kd mn) n) f n)) gr y5 y6 rc x0 x1 x2 x3 kd mn pu ((numF pu (woF kd mn) n) + f) (by first | assumption | omega)) (cwV 1 hts gX7_does_X7_become rfl rfl rfl (by decide +kernel) ⟨Nat.le_of_ble_eq_true rfl, Nat.le_of_ble_eq_true rfl⟩) hK hP hD hS hA [0, 1, 2, 3] (by decide) rfl [m0, y0, y1, y2] (fun _ => rfl) rfl 0 rfl rfl rfl rfl hl.1 rfl (catLe (Nat.le_of_ble_eq_true rfl)) dX7_does_141 ⟨Nat.zero_le _, Nat.zero_le _⟩ (fun u_20 H locs hwr_19 hP hD hS => ?_)
              have hP : va_P E.1 vwCl [ob m0 7 [.int lf, .int tr, .ref z0, .ref z1, .ref z2, .int (nI n), .ref y0, .ref y1, .ref y2, .int at_, .int rwi, .ref y3, .ref y4, .int (sl + (slF (rmF kd mn) (woF kd mn) (numF pu (woF kd mn) n) ((numF pu (woF kd mn) n) + f) n)), .int (cr + (cyF (rmF kd mn) (woF kd mn) (numF pu (woF kd mn) n) f n)), .int gr, .ref y5, .ref y6, .int (nI rc), .ref x0, .ref x1, .ref x2, .ref x3], ar E y0 6 kd, ar E y1 6 mn, ar E y2 6 (fil (fun w => figF (woF kd mn w) (rmF kd mn w) ((numF pu (woF kd mn) n) + f)) pu n)] H := hP
              have hD : va_D A [ob m0 7 [.int lf, .int tr, .ref z0, .ref z1, .ref z2, .int (nI n), .ref y0, .ref y1, .ref y2, .int at_, .int rwi, .ref y3, .ref y4, .int (sl + (slF (rmF kd mn) (woF kd mn) (numF pu (woF kd mn) n) ((numF pu (woF kd mn) n) + f) n)), .int (cr + (cyF (rmF kd mn) (woF kd mn) (numF pu (woF kd mn) n) f n)), .int gr, .ref y5, .ref y6, .int (nI rc), .ref x0, .ref x1, .ref x2, .ref x3], ar E y0 6 kd, ar E y1 6 mn, ar E y2 6 (fil (fun w => figF (woF kd mn w) (rmF kd mn w) ((numF pu (woF kd mn) n) + f)) pu n)] := hD
              refine lv_iconst (v := 1) hx hb dX7_does_144 (by decide) ?_
              have ed : dStep n (woF kd mn n - 1) (rmF kd mn) (woF kd mn) f g (pu, sl, cr) = some (fil (fun w => figF (woF kd mn w) (rmF kd mn w) ((numF pu (woF kd mn) n) + f)) pu n, (sl + (slF (rmF kd mn) (woF kd mn) (numF pu (woF kd mn) n) ((numF pu (woF kd mn) n) + f) n)), (cr + (cyF (rmF kd mn) (woF kd mn) (numF pu (woF kd mn) n) f n))) := by simp only [dStep]; rw [if_pos c_3]; simp only [dSum]; rw [if_pos ⟨h0n, c_13⟩]
              exact hret _ _ _ _ _ () dX7_does_145 rfl hS (by rw [ed]; exact hP) (by rw [ed]; rfl)
        ·
          exact absurd (show (0 : Int32) = 1 from c_3 ▸ c_14) (by decide)
  ·
    have c_2b := Int32.not_lt.mp c_2
    have hv : ¬ (g = 0 ∨ g = 1) ∧ ¬ g < 10 ∧ g ≤ 28 ∧ hasP n f := (acF_0 hac).resolve_left (fun h => c_2 (by rcases h with rfl | rfl <;> decide))
    have hv0 : ¬ g = 0 := fun q => hv.1 (Or.inl q)
    have hv1 : ¬ g = 1 := fun q => hv.1 (Or.inr q)
    obtain ⟨j, hj, ej⟩ := hasP_of hv.2.2.2 hn
    have hhas := hv.2.2.2
    subst ej
    have hixj : ix (nI j) = j := ix_nI (by omega)
    refine lv_iload_n hx hb dX7_does_11 rfl (lv_at hl 3 rfl) ?_
    refine lv_bipush (v := 10) hx hb dX7_does_12 (by decide) ?_
    refine lv_isub hx hb dX7_does_14 ?_
    refine lv_istore (lv' := [(4, .int (g - 10)), (3, .int (numF pu (woF kd mn) n)), (0, .ref m0), (1, .int (nI j)), (2, .int g)]) hx hb dX7_does_15 hl (by decide) rfl (fun ls hl => ?_)
    refine lv_iload hx hb dX7_does_17 (lv_at hl 0 rfl) ?_
    refine lv_aload_n hx hb dX7_does_19 rfl (lv_at hl 2 rfl) ?_
    refine lv_iload_n hx hb dX7_does_20 rfl (lv_at hl 3 rfl) ?_
    refine crV (As := [.int (nI j)]) (rest := [.int (g - 10)]) ⟨hx, hb, hml, hown, hts⟩ (c_X7_roomOf l E m0 lf tr z0 z1 z2 n y0 y1 y2 at_ rwi y3 y4 sl cr gr y5 y6 rc x0 x1 x2 x3 kd mn (nI j) j (by first | assumption | omega) (by first | assumption | omega) rfl) (cwV 1 hts gX7_does_X7_roomOf rfl rfl rfl (by decide +kernel) ⟨Nat.le_of_ble_eq_true rfl, Nat.le_of_ble_eq_true rfl⟩) hK hP [0, 1, 2] rfl 0 rfl rfl rfl rfl hl.1 rfl (catLe (Nat.le_of_ble_eq_true rfl)) dX7_does_21 ⟨Nat.zero_le _, Nat.zero_le _⟩ (fun r_21 hr_21 => ?_)
    subst hr_21
    refine lv_icmp_le (tgt := 29) hx hb dX7_does_24 (by decide) (fun c_22 => ?_) (fun c_22 => ?_)
    ·
      have c_22b := Int32.not_lt.mpr c_22
      refine lv_aload_n hx hb dX7_does_29 rfl (lv_at hl 2 rfl) ?_
      refine lv_dup hx hb dX7_does_30 rfl ?_
      refine va_get (D := E.1) (ci := 7) (v := .int sl) (C := RX7) (T := TX7) (N := 23) hx hb hts hinX7 hown hK.1 hP 0 rfl rfl 13 (by decide) fl_145 (fun _ h9 => h9) rfl dX7_does_31 ?_
      refine lv_aload_n hx hb dX7_does_34 rfl (lv_at hl 2 rfl) ?_
      refine va_get (D := E.1) (ci := 7) (v := .ref y2) (C := RX7) (T := TX7) (N := 23) hx hb hts hinX7 hown hK.1 hP 0 rfl rfl 8 (by decide) fl_25 (fun _ h9 => h9) rfl dX7_does_35 ?_
      refine lv_iload_n hx hb dX7_does_38 rfl (lv_at hl 3 rfl) ?_
      refine ild hx hb hK hP 3 rfl (j := j) rfl (by omega) (by decide) dX7_does_39 ?_
      refine lv_iload hx hb dX7_does_40 (lv_at hl 0 rfl) ?_
      refine crS (As := [.int (pu j), .int (g - 10)]) (rest := [.int sl, .ref m0]) ⟨hx, hb, hml, hown, hts⟩ (c_X7_apart l E (pu j) (g - 10)) (va_cwS 2 hts gX7_does_X7_apart rfl rfl rfl (by decide +kernel) ⟨Nat.le_of_ble_eq_true rfl, Nat.le_of_ble_eq_true rfl⟩) hK hP [] rfl rfl hl.1 rfl (catLe (Nat.le_of_ble_eq_true rfl)) dX7_does_42 ⟨Nat.zero_le _, Nat.zero_le _⟩ (fun r_23 hr_23 => ?_)
      subst hr_23
      rw [apF_abs (hpb j hj) (sub10 hv.2.1 hv.2.2.1)]
      refine lv_iadd hx hb dX7_does_45 ?_
      refine va_put (D := E.1) (ci := 7) (v := .int (sl + (absI (g - 10 - pu j)))) (ty := .int) (C := RX7) (T := TX7) (N := 23) hx hb hts hinX7 tyX7 tyX7_ok nmX7 hown hK.1 hP hD hS 0 rfl rfl 13 (by decide) fl_145 (fun _ h9 => h9) rfl (by decide +kernel) rfl rfl (Nat.le_of_ble_eq_true rfl) dX7_does_46 (fun H locs hP hD hS => ?_)
      have hP : va_P E.1 vwCl [ob m0 7 [.int lf, .int tr, .ref z0, .ref z1, .ref z2, .int (nI n), .ref y0, .ref y1, .ref y2, .int at_, .int rwi, .ref y3, .ref y4, .int (sl + (absI (g - 10 - pu j))), .int cr, .int gr, .ref y5, .ref y6, .int (nI rc), .ref x0, .ref x1, .ref x2, .ref x3], ar E y0 6 kd, ar E y1 6 mn, ar E y2 6 pu] H := hP
      have hD : va_D A [ob m0 7 [.int lf, .int tr, .ref z0, .ref z1, .ref z2, .int (nI n), .ref y0, .ref y1, .ref y2, .int at_, .int rwi, .ref y3, .ref y4, .int (sl + (absI (g - 10 - pu j))), .int cr, .int gr, .ref y5, .ref y6, .int (nI rc), .ref x0, .ref x1, .ref x2, .ref x3], ar E y0 6 kd, ar E y1 6 mn, ar E y2 6 pu] := hD
      refine lv_aload_n hx hb dX7_does_49 rfl (lv_at hl 2 rfl) ?_
      refine va_get (D := E.1) (ci := 7) (v := .ref y2) (C := RX7) (T := TX7) (N := 23) hx hb hts hinX7 hown hK.1 hP 0 rfl rfl 8 (by decide) fl_25 (fun _ h9 => h9) rfl dX7_does_50 ?_
      refine lv_iload_n hx hb dX7_does_53 rfl (lv_at hl 3 rfl) ?_
      refine lv_iload hx hb dX7_does_54 (lv_at hl 0 rfl) ?_
      refine ist hx hb hK hP hD hS 3 rfl (j := j) rfl (by omega) (by decide) dX7_does_56 (fun H locs hP hD hS => ?_)
      have hP : va_P E.1 vwCl [ob m0 7 [.int lf, .int tr, .ref z0, .ref z1, .ref z2, .int (nI n), .ref y0, .ref y1, .ref y2, .int at_, .int rwi, .ref y3, .ref y4, .int (sl + (absI (g - 10 - pu j))), .int cr, .int gr, .ref y5, .ref y6, .int (nI rc), .ref x0, .ref x1, .ref x2, .ref x3], ar E y0 6 kd, ar E y1 6 mn, ar E y2 6 (upd pu j (g - 10))] H := hP
      have hD : va_D A [ob m0 7 [.int lf, .int tr, .ref z0, .ref z1, .ref z2, .int (nI n), .ref y0, .ref y1, .ref y2, .int at_, .int rwi, .ref y3, .ref y4, .int (sl + (absI (g - 10 - pu j))), .int cr, .int gr, .ref y5, .ref y6, .int (nI rc), .ref x0, .ref x1, .ref x2, .ref x3], ar E y0 6 kd, ar E y1 6 mn, ar E y2 6 (upd pu j (g - 10))] := hD
      refine lv_iconst (v := 1) hx hb dX7_does_57 (by decide) ?_
      have ed : dStep n (woF kd mn n - 1) (rmF kd mn) (woF kd mn) (nI j) g (pu, sl, cr) = some (upd pu j (g - 10), sl + (absI (g - 10 - pu j)), cr) := by simp only [dStep]; rw [if_neg hv0, if_neg hv1]; simp only [dPsh]; rw [hixj, if_pos ⟨hhas, c_22⟩]
      exact hret _ _ _ _ _ () dX7_does_58 rfl hS (by rw [ed]; exact hP) (by rw [ed]; rfl)
    ·
      have c_22b := Int32.not_le.mp c_22
      refine lv_iconst (v := 0) hx hb dX7_does_27 (by decide) ?_
      have ed : dStep n (woF kd mn n - 1) (rmF kd mn) (woF kd mn) (nI j) g (pu, sl, cr) = none := by simp only [dStep]; rw [if_neg hv0, if_neg hv1]; simp only [dPsh]; rw [hixj, if_neg (fun h => c_22 h.2)]
      exact hret _ _ _ _ _ () dX7_does_28 rfl hS (by rw [ed]; exact hP) (by rw [ed]; rfl)
set_option maxHeartbeats 4000000 in
set_option maxRecDepth 100000 in
theorem c_X7_goDay (l : Launch) (E : gE) (sz : Nat) (m0 : Nat) (lf : Int32) (tr : Int32) (z0 : Nat) (z1 : Nat) (z2 : Nat) (n : Nat) (y0 : Nat) (y1 : Nat) (y2 : Nat) (at_ : Int32) (rwi : Int32) (y3 : Nat) (y4 : Nat) (sl : Int32) (cr : Int32) (gr : Int32) (y5 : Nat) (y6 : Nat) (rc : Nat) (x0 : Nat) (x1 : Nat) (x2 : Nat) (x3 : Nat) (kd : Nat → Int32) (mn : Nat → Int32) (pu : Nat → Int32) (cc : Nat → Int32) (b : Nat) (i : Nat) (nn : Nat) (hFR : FR n kd mn) (h0n : 0 < n) (hpb : PB n pu) (hall : ∀ k, k < nn → acF n (cc (b + (i + 2 * k))) (cc (b + (i + 2 * k + 1))) = 0) (hin : b + i + 2 * nn ≤ 240) : Met l yX7_goDay wsX7_goDay ({ frames := 6, cells := 0, slots := 0, locals := 136 }) (PW E [.ref m0, .int (nI (b + i)), .int (nI nn)] [ob m0 7 [.int lf, .int tr, .ref z0, .ref z1, .ref z2, .int (nI n), .ref y0, .ref y1, .ref y2, .int at_, .int rwi, .ref y3, .ref y4, .int sl, .int cr, .int gr, .ref y5, .ref y6, .int (nI rc), .ref x0, .ref x1, .ref x2, .ref x3], ar E y0 6 kd, ar E y1 6 mn, ar E y2 6 pu, ar E z2 240 cc] sz) (QWi E (fun r _ => r = (dRun n (woF kd mn n - 1) (rmF kd mn) (woF kd mn) (fun q => cc (b + q)) i pu nn).1) (fun (_ : Unit) => [ob m0 7 [.int lf, .int tr, .ref z0, .ref z1, .ref z2, .int (nI n), .ref y0, .ref y1, .ref y2, .int at_, .int rwi, .ref y3, .ref y4, .int ((dRun n (woF kd mn n - 1) (rmF kd mn) (woF kd mn) (fun q => cc (b + q)) i pu nn).2.1.2.1), .int ((dRun n (woF kd mn n - 1) (rmF kd mn) (woF kd mn) (fun q => cc (b + q)) i pu nn).2.1.2.2), .int ((dRun n (woF kd mn n - 1) (rmF kd mn) (woF kd mn) (fun q => cc (b + q)) i pu nn).2.2), .ref y5, .ref y6, .int (nI rc), .ref x0, .ref x1, .ref x2, .ref x3], ar E y0 6 kd, ar E y1 6 mn, ar E y2 6 ((dRun n (woF kd mn n - 1) (rmF kd mn) (woF kd mn) (fun q => cc (b + q)) i pu nn).2.1.1), ar E z2 240 cc]) (va_A [ob m0 7 [.int lf, .int tr, .ref z0, .ref z1, .ref z2, .int (nI n), .ref y0, .ref y1, .ref y2, .int at_, .int rwi, .ref y3, .ref y4, .int sl, .int cr, .int gr, .ref y5, .ref y6, .int (nI rc), .ref x0, .ref x1, .ref x2, .ref x3], ar E y0 6 kd, ar E y1 6 mn, ar E y2 6 pu, ar E z2 240 cc] sz)) 0 0 (va_A [ob m0 7 [.int lf, .int tr, .ref z0, .ref z1, .ref z2, .int (nI n), .ref y0, .ref y1, .ref y2, .int at_, .int rwi, .ref y3, .ref y4, .int sl, .int cr, .int gr, .ref y5, .ref y6, .int (nI rc), .ref x0, .ref x1, .ref x2, .ref x3], ar E y0 6 kd, ar E y1 6 mn, ar E y2 6 pu, ar E z2 240 cc] sz) := by
  refine mkWi (cc := cX7_goDay) (maxL := 4) (by decide) rfl (Nat.le_of_ble_eq_true rfl) ?_
  intro p e s m args below meth c QQ A hx hb hml hown hmn hts hK hA hP hD hS hret ls hl
  have hown : s.vm.findClass RX7 = some m.cls := hown
  have hl : lv_has ls 4 [(0, .ref m0), (1, .int (nI (b + i))), (2, .int (nI nn))] := hl
  have hinX7 : ∀ w ∈ wsX70, w ∈ wsX7_goDay := by decide +kernel
  have fl_16 := hts (.fieldLink RX7 16 "GuardAbacusModel" "cells" "[I") (by decide +kernel)
  have fl_145 := hts (.fieldLink RX7 145 "GuardAbacusModel" "slidAll" "I") (by decide +kernel)
  have fl_148 := hts (.fieldLink RX7 148 "GuardAbacusModel" "carriedAll" "I") (by decide +kernel)
  have fl_151 := hts (.fieldLink RX7 151 "GuardAbacusModel" "greatest" "I") (by decide +kernel)
  have hn := hFR.1
  refine lv_aload_n hx hb dX7_goDay_0 rfl (lv_at hl 0 rfl) ?_
  refine lv_iconst (v := 0) hx hb dX7_goDay_1 (by decide) ?_
  refine va_put (D := E.1) (ci := 7) (v := .int 0) (ty := .int) (C := RX7) (T := TX7) (N := 23) hx hb hts hinX7 tyX7 tyX7_ok nmX7 hown hK.1 hP hD hS 0 rfl rfl 13 (by decide) fl_145 (fun _ h9 => h9) rfl (by decide +kernel) rfl rfl (Nat.le_of_ble_eq_true rfl) dX7_goDay_2 (fun H locs hP hD hS => ?_)
  have hP : va_P E.1 vwCl [ob m0 7 [.int lf, .int tr, .ref z0, .ref z1, .ref z2, .int (nI n), .ref y0, .ref y1, .ref y2, .int at_, .int rwi, .ref y3, .ref y4, .int 0, .int cr, .int gr, .ref y5, .ref y6, .int (nI rc), .ref x0, .ref x1, .ref x2, .ref x3], ar E y0 6 kd, ar E y1 6 mn, ar E y2 6 pu, ar E z2 240 cc] H := hP
  have hD : va_D A [ob m0 7 [.int lf, .int tr, .ref z0, .ref z1, .ref z2, .int (nI n), .ref y0, .ref y1, .ref y2, .int at_, .int rwi, .ref y3, .ref y4, .int 0, .int cr, .int gr, .ref y5, .ref y6, .int (nI rc), .ref x0, .ref x1, .ref x2, .ref x3], ar E y0 6 kd, ar E y1 6 mn, ar E y2 6 pu, ar E z2 240 cc] := hD
  refine lv_aload_n hx hb dX7_goDay_5 rfl (lv_at hl 0 rfl) ?_
  refine lv_iconst (v := 0) hx hb dX7_goDay_6 (by decide) ?_
  refine va_put (D := E.1) (ci := 7) (v := .int 0) (ty := .int) (C := RX7) (T := TX7) (N := 23) hx hb hts hinX7 tyX7 tyX7_ok nmX7 hown hK.1 hP hD hS 0 rfl rfl 14 (by decide) fl_148 (fun _ h9 => h9) rfl (by decide +kernel) rfl rfl (Nat.le_of_ble_eq_true rfl) dX7_goDay_7 (fun H locs hP hD hS => ?_)
  have hP : va_P E.1 vwCl [ob m0 7 [.int lf, .int tr, .ref z0, .ref z1, .ref z2, .int (nI n), .ref y0, .ref y1, .ref y2, .int at_, .int rwi, .ref y3, .ref y4, .int 0, .int 0, .int gr, .ref y5, .ref y6, .int (nI rc), .ref x0, .ref x1, .ref x2, .ref x3], ar E y0 6 kd, ar E y1 6 mn, ar E y2 6 pu, ar E z2 240 cc] H := hP
  have hD : va_D A [ob m0 7 [.int lf, .int tr, .ref z0, .ref z1, .ref z2, .int (nI n), .ref y0, .ref y1, .ref y2, .int at_, .int rwi, .ref y3, .ref y4, .int 0, .int 0, .int gr, .ref y5, .ref y6, .int (nI rc), .ref x0, .ref x1, .ref x2, .ref x3], ar E y0 6 kd, ar E y1 6 mn, ar E y2 6 pu, ar E z2 240 cc] := hD
  refine lv_aload_n hx hb dX7_goDay_10 rfl (lv_at hl 0 rfl) ?_
  refine lv_aload_n hx hb dX7_goDay_11 rfl (lv_at hl 0 rfl) ?_
  refine crV (As := []) (rest := [.ref m0]) ⟨hx, hb, hml, hown, hts⟩ (c_X7_numberNow l E m0 lf tr z0 z1 z2 n y0 y1 y2 at_ rwi y3 y4 0 0 gr y5 y6 rc x0 x1 x2 x3 kd mn pu (by first | assumption | omega)) (cwV 0 hts gX7_goDay_X7_numberNow rfl rfl rfl (by decide +kernel) ⟨Nat.le_of_ble_eq_true rfl, Nat.le_of_ble_eq_true rfl⟩) hK hP [0, 1, 2, 3] rfl 0 rfl rfl rfl rfl hl.1 rfl (catLe (Nat.le_of_ble_eq_true rfl)) dX7_goDay_12 ⟨Nat.zero_le _, Nat.zero_le _⟩ (fun r_1 hr_1 => ?_)
  subst hr_1
  refine va_put (D := E.1) (ci := 7) (v := .int (numF pu (woF kd mn) n)) (ty := .int) (C := RX7) (T := TX7) (N := 23) hx hb hts hinX7 tyX7 tyX7_ok nmX7 hown hK.1 hP hD hS 0 rfl rfl 15 (by decide) fl_151 (fun _ h9 => h9) rfl (by decide +kernel) rfl rfl (Nat.le_of_ble_eq_true rfl) dX7_goDay_15 (fun H locs hP hD hS => ?_)
  have hP : va_P E.1 vwCl [ob m0 7 [.int lf, .int tr, .ref z0, .ref z1, .ref z2, .int (nI n), .ref y0, .ref y1, .ref y2, .int at_, .int rwi, .ref y3, .ref y4, .int 0, .int 0, .int (numF pu (woF kd mn) n), .ref y5, .ref y6, .int (nI rc), .ref x0, .ref x1, .ref x2, .ref x3], ar E y0 6 kd, ar E y1 6 mn, ar E y2 6 pu, ar E z2 240 cc] H := hP
  have hD : va_D A [ob m0 7 [.int lf, .int tr, .ref z0, .ref z1, .ref z2, .int (nI n), .ref y0, .ref y1, .ref y2, .int at_, .int rwi, .ref y3, .ref y4, .int 0, .int 0, .int (numF pu (woF kd mn) n), .ref y5, .ref y6, .int (nI rc), .ref x0, .ref x1, .ref x2, .ref x3], ar E y0 6 kd, ar E y1 6 mn, ar E y2 6 pu, ar E z2 240 cc] := hD
  refine lv_iconst (v := 0) hx hb dX7_goDay_18 (by decide) ?_
  refine lv_istore_n (lv' := [(3, .int 0), (0, .ref m0), (1, .int (nI (b + i))), (2, .int (nI nn))]) hx hb dX7_goDay_19 rfl hl (by decide) rfl (fun ls hl => ?_)
  have L20 : ∀ (fuel : Nat) (k : Nat), (k ≤ nn) → ((dRun n (woF kd mn n - 1) (rmF kd mn) (woF kd mn) (fun q => cc (b + q)) i pu k).1 = -9) → (PB n (dRun n (woF kd mn n - 1) (rmF kd mn) (woF kd mn) (fun q => cc (b + q)) i pu k).2.1.1) → (nn - k) < fuel → ∀ (H : Heap) (locs : List Loc), va_P E.1 vwCl [ob m0 7 [.int lf, .int tr, .ref z0, .ref z1, .ref z2, .int (nI n), .ref y0, .ref y1, .ref y2, .int at_, .int rwi, .ref y3, .ref y4, .int ((dRun n (woF kd mn n - 1) (rmF kd mn) (woF kd mn) (fun q => cc (b + q)) i pu k).2.1.2.1), .int ((dRun n (woF kd mn n - 1) (rmF kd mn) (woF kd mn) (fun q => cc (b + q)) i pu k).2.1.2.2), .int ((dRun n (woF kd mn n - 1) (rmF kd mn) (woF kd mn) (fun q => cc (b + q)) i pu k).2.2), .ref y5, .ref y6, .int (nI rc), .ref x0, .ref x1, .ref x2, .ref x3], ar E y0 6 kd, ar E y1 6 mn, ar E y2 6 ((dRun n (woF kd mn n - 1) (rmF kd mn) (woF kd mn) (fun q => cc (b + q)) i pu k).2.1.1), ar E z2 240 cc] H → va_D A [ob m0 7 [.int lf, .int tr, .ref z0, .ref z1, .ref z2, .int (nI n), .ref y0, .ref y1, .ref y2, .int at_, .int rwi, .ref y3, .ref y4, .int ((dRun n (woF kd mn n - 1) (rmF kd mn) (woF kd mn) (fun q => cc (b + q)) i pu k).2.1.2.1), .int ((dRun n (woF kd mn n - 1) (rmF kd mn) (woF kd mn) (fun q => cc (b + q)) i pu k).2.1.2.2), .int ((dRun n (woF kd mn n - 1) (rmF kd mn) (woF kd mn) (fun q => cc (b + q)) i pu k).2.2), .ref y5, .ref y6, .int (nI rc), .ref x0, .ref x1, .ref x2, .ref x3], ar E y0 6 kd, ar E y1 6 mn, ar E y2 6 ((dRun n (woF kd mn n - 1) (rmF kd mn) (woF kd mn) (fun q => cc (b + q)) i pu k).2.1.1), ar E z2 240 cc] → va_S A s.heap H locs → ∀ ls : Array Slot, lv_has ls 4 [(3, .int (nI k)), (0, .ref m0), (1, .int (nI (b + i))), (2, .int (nI nn))] → W p l e ({ frames := 6, cells := 0, slots := 0, locals := 136 }) s m args below meth c H locs 0 0 QQ (F0 m 20 ls []) := by
    intro fuel
    induction fuel with
    | zero => intro k hk hq1 hq2 hf; exact absurd hf (Nat.not_lt_zero _)
    | succ fuel ih20 =>
      intro k hk hq1 hq2 hf20 H locs hP hD hS ls hl
      refine lv_iload_n hx hb dX7_goDay_20 rfl (lv_at hl 0 rfl) ?_
      refine lv_iload_n hx hb dX7_goDay_21 rfl (lv_at hl 3 rfl) ?_
      refine icmpN_ge (tgt := 88) (a := k) (b := nn) hx hb rfl rfl (by omega) (by omega) dX7_goDay_22 (by decide) (fun c_2 => ?_) (fun c_2 => ?_)
      ·
        obtain rfl : nn = k := by omega
        refine lv_bipush (v := (-9)) hx hb dX7_goDay_88 (by decide) ?_
        exact hret _ _ _ _ _ () dX7_goDay_90 hS hP hq1.symm
      ·
        refine lv_aload_n hx hb dX7_goDay_25 rfl (lv_at hl 1 rfl) ?_
        refine lv_aload_n hx hb dX7_goDay_26 rfl (lv_at hl 1 rfl) ?_
        refine va_get (D := E.1) (ci := 7) (v := .ref z2) (C := RX7) (T := TX7) (N := 23) hx hb hts hinX7 hown hK.1 hP 0 rfl rfl 4 (by decide) fl_16 (fun _ h9 => h9) rfl dX7_goDay_27 ?_
        refine lv_iload_n hx hb dX7_goDay_30 rfl (lv_at hl 2 rfl) ?_
        refine lv_iconst (v := 2) hx hb dX7_goDay_31 (by decide) ?_
        refine lv_iload_n hx hb dX7_goDay_32 rfl (lv_at hl 0 rfl) ?_
        refine N_imul (a := 2) (b := k) hx hb rfl rfl dX7_goDay_33 ?_
        refine N_iadd (a := b + i) (b := 2 * k) hx hb rfl rfl dX7_goDay_34 ?_
        refine ild hx hb hK hP 4 rfl (j := (b + i) + (2 * k)) rfl (by omega) (by decide) dX7_goDay_35 ?_
        rw [Nat.add_assoc b i (2 * k)]
        refine lv_aload_n hx hb dX7_goDay_36 rfl (lv_at hl 1 rfl) ?_
        refine va_get (D := E.1) (ci := 7) (v := .ref z2) (C := RX7) (T := TX7) (N := 23) hx hb hts hinX7 hown hK.1 hP 0 rfl rfl 4 (by decide) fl_16 (fun _ h9 => h9) rfl dX7_goDay_37 ?_
        refine lv_iload_n hx hb dX7_goDay_40 rfl (lv_at hl 2 rfl) ?_
        refine lv_iconst (v := 2) hx hb dX7_goDay_41 (by decide) ?_
        refine lv_iload_n hx hb dX7_goDay_42 rfl (lv_at hl 0 rfl) ?_
        refine N_imul (a := 2) (b := k) hx hb rfl rfl dX7_goDay_43 ?_
        refine N_iadd (a := b + i) (b := 2 * k) hx hb rfl rfl dX7_goDay_44 ?_
        refine lv_iconst (v := 1) hx hb dX7_goDay_45 (by decide) ?_
        refine N_iadd (a := (b + i) + (2 * k)) (b := 1) hx hb rfl rfl dX7_goDay_46 ?_
        refine ild hx hb hK hP 4 rfl (j := ((b + i) + (2 * k)) + 1) rfl (by omega) (by decide) dX7_goDay_47 ?_
        rw [show b + i + 2 * k + 1 = b + (i + 2 * k + 1) by omega]
        refine cwVi (As := [.int (cc (b + (i + 2 * k))), .int (cc (b + (i + 2 * k + 1)))]) (rest := []) ⟨hx, hb, hml, hown, hts⟩ (c_X7_does l E _ m0 lf tr z0 z1 z2 n y0 y1 y2 at_ rwi y3 y4 ((dRun n (woF kd mn n - 1) (rmF kd mn) (woF kd mn) (fun q => cc (b + q)) i pu k).2.1.2.1) ((dRun n (woF kd mn n - 1) (rmF kd mn) (woF kd mn) (fun q => cc (b + q)) i pu k).2.1.2.2) ((dRun n (woF kd mn n - 1) (rmF kd mn) (woF kd mn) (fun q => cc (b + q)) i pu k).2.2) y5 y6 rc x0 x1 x2 x3 kd mn ((dRun n (woF kd mn n - 1) (rmF kd mn) (woF kd mn) (fun q => cc (b + q)) i pu k).2.1.1) (cc (b + (i + 2 * k))) (cc (b + (i + 2 * k + 1))) (by first | assumption | omega) (by first | assumption | omega) hq2 (hall k (by omega))) (cwV 2 hts gX7_goDay_X7_does rfl rfl rfl (by decide +kernel) ⟨Nat.le_of_ble_eq_true rfl, Nat.le_of_ble_eq_true rfl⟩) hK hP hD hS hA [0, 1, 2, 3] (by decide) rfl [m0, y0, y1, y2] (fun _ => rfl) rfl 0 rfl rfl rfl rfl hl.1 rfl (catLe (Nat.le_of_ble_eq_true rfl)) dX7_goDay_48 ⟨Nat.zero_le _, Nat.zero_le _⟩ (fun r_3 u_4 H locs hwr_3 hP hD hS => ?_)
        have hP : va_P E.1 vwCl [ob m0 7 [.int lf, .int tr, .ref z0, .ref z1, .ref z2, .int (nI n), .ref y0, .ref y1, .ref y2, .int at_, .int rwi, .ref y3, .ref y4, .int (((dStep n (woF kd mn n - 1) (rmF kd mn) (woF kd mn) (cc (b + (i + 2 * k))) (cc (b + (i + 2 * k + 1))) (((dRun n (woF kd mn n - 1) (rmF kd mn) (woF kd mn) (fun q => cc (b + q)) i pu k).2.1.1), ((dRun n (woF kd mn n - 1) (rmF kd mn) (woF kd mn) (fun q => cc (b + q)) i pu k).2.1.2.1), ((dRun n (woF kd mn n - 1) (rmF kd mn) (woF kd mn) (fun q => cc (b + q)) i pu k).2.1.2.2))).getD (((dRun n (woF kd mn n - 1) (rmF kd mn) (woF kd mn) (fun q => cc (b + q)) i pu k).2.1.1), ((dRun n (woF kd mn n - 1) (rmF kd mn) (woF kd mn) (fun q => cc (b + q)) i pu k).2.1.2.1), ((dRun n (woF kd mn n - 1) (rmF kd mn) (woF kd mn) (fun q => cc (b + q)) i pu k).2.1.2.2))).2.1), .int (((dStep n (woF kd mn n - 1) (rmF kd mn) (woF kd mn) (cc (b + (i + 2 * k))) (cc (b + (i + 2 * k + 1))) (((dRun n (woF kd mn n - 1) (rmF kd mn) (woF kd mn) (fun q => cc (b + q)) i pu k).2.1.1), ((dRun n (woF kd mn n - 1) (rmF kd mn) (woF kd mn) (fun q => cc (b + q)) i pu k).2.1.2.1), ((dRun n (woF kd mn n - 1) (rmF kd mn) (woF kd mn) (fun q => cc (b + q)) i pu k).2.1.2.2))).getD (((dRun n (woF kd mn n - 1) (rmF kd mn) (woF kd mn) (fun q => cc (b + q)) i pu k).2.1.1), ((dRun n (woF kd mn n - 1) (rmF kd mn) (woF kd mn) (fun q => cc (b + q)) i pu k).2.1.2.1), ((dRun n (woF kd mn n - 1) (rmF kd mn) (woF kd mn) (fun q => cc (b + q)) i pu k).2.1.2.2))).2.2), .int ((dRun n (woF kd mn n - 1) (rmF kd mn) (woF kd mn) (fun q => cc (b + q)) i pu k).2.2), .ref y5, .ref y6, .int (nI rc), .ref x0, .ref x1, .ref x2, .ref x3], ar E y0 6 kd, ar E y1 6 mn, ar E y2 6 (((dStep n (woF kd mn n - 1) (rmF kd mn) (woF kd mn) (cc (b + (i + 2 * k))) (cc (b + (i + 2 * k + 1))) (((dRun n (woF kd mn n - 1) (rmF kd mn) (woF kd mn) (fun q => cc (b + q)) i pu k).2.1.1), ((dRun n (woF kd mn n - 1) (rmF kd mn) (woF kd mn) (fun q => cc (b + q)) i pu k).2.1.2.1), ((dRun n (woF kd mn n - 1) (rmF kd mn) (woF kd mn) (fun q => cc (b + q)) i pu k).2.1.2.2))).getD (((dRun n (woF kd mn n - 1) (rmF kd mn) (woF kd mn) (fun q => cc (b + q)) i pu k).2.1.1), ((dRun n (woF kd mn n - 1) (rmF kd mn) (woF kd mn) (fun q => cc (b + q)) i pu k).2.1.2.1), ((dRun n (woF kd mn n - 1) (rmF kd mn) (woF kd mn) (fun q => cc (b + q)) i pu k).2.1.2.2))).1), ar E z2 240 cc] H := hP
        have hD : va_D A [ob m0 7 [.int lf, .int tr, .ref z0, .ref z1, .ref z2, .int (nI n), .ref y0, .ref y1, .ref y2, .int at_, .int rwi, .ref y3, .ref y4, .int (((dStep n (woF kd mn n - 1) (rmF kd mn) (woF kd mn) (cc (b + (i + 2 * k))) (cc (b + (i + 2 * k + 1))) (((dRun n (woF kd mn n - 1) (rmF kd mn) (woF kd mn) (fun q => cc (b + q)) i pu k).2.1.1), ((dRun n (woF kd mn n - 1) (rmF kd mn) (woF kd mn) (fun q => cc (b + q)) i pu k).2.1.2.1), ((dRun n (woF kd mn n - 1) (rmF kd mn) (woF kd mn) (fun q => cc (b + q)) i pu k).2.1.2.2))).getD (((dRun n (woF kd mn n - 1) (rmF kd mn) (woF kd mn) (fun q => cc (b + q)) i pu k).2.1.1), ((dRun n (woF kd mn n - 1) (rmF kd mn) (woF kd mn) (fun q => cc (b + q)) i pu k).2.1.2.1), ((dRun n (woF kd mn n - 1) (rmF kd mn) (woF kd mn) (fun q => cc (b + q)) i pu k).2.1.2.2))).2.1), .int (((dStep n (woF kd mn n - 1) (rmF kd mn) (woF kd mn) (cc (b + (i + 2 * k))) (cc (b + (i + 2 * k + 1))) (((dRun n (woF kd mn n - 1) (rmF kd mn) (woF kd mn) (fun q => cc (b + q)) i pu k).2.1.1), ((dRun n (woF kd mn n - 1) (rmF kd mn) (woF kd mn) (fun q => cc (b + q)) i pu k).2.1.2.1), ((dRun n (woF kd mn n - 1) (rmF kd mn) (woF kd mn) (fun q => cc (b + q)) i pu k).2.1.2.2))).getD (((dRun n (woF kd mn n - 1) (rmF kd mn) (woF kd mn) (fun q => cc (b + q)) i pu k).2.1.1), ((dRun n (woF kd mn n - 1) (rmF kd mn) (woF kd mn) (fun q => cc (b + q)) i pu k).2.1.2.1), ((dRun n (woF kd mn n - 1) (rmF kd mn) (woF kd mn) (fun q => cc (b + q)) i pu k).2.1.2.2))).2.2), .int ((dRun n (woF kd mn n - 1) (rmF kd mn) (woF kd mn) (fun q => cc (b + q)) i pu k).2.2), .ref y5, .ref y6, .int (nI rc), .ref x0, .ref x1, .ref x2, .ref x3], ar E y0 6 kd, ar E y1 6 mn, ar E y2 6 (((dStep n (woF kd mn n - 1) (rmF kd mn) (woF kd mn) (cc (b + (i + 2 * k))) (cc (b + (i + 2 * k + 1))) (((dRun n (woF kd mn n - 1) (rmF kd mn) (woF kd mn) (fun q => cc (b + q)) i pu k).2.1.1), ((dRun n (woF kd mn n - 1) (rmF kd mn) (woF kd mn) (fun q => cc (b + q)) i pu k).2.1.2.1), ((dRun n (woF kd mn n - 1) (rmF kd mn) (woF kd mn) (fun q => cc (b + q)) i pu k).2.1.2.2))).getD (((dRun n (woF kd mn n - 1) (rmF kd mn) (woF kd mn) (fun q => cc (b + q)) i pu k).2.1.1), ((dRun n (woF kd mn n - 1) (rmF kd mn) (woF kd mn) (fun q => cc (b + q)) i pu k).2.1.2.1), ((dRun n (woF kd mn n - 1) (rmF kd mn) (woF kd mn) (fun q => cc (b + q)) i pu k).2.1.2.2))).1), ar E z2 240 cc] := hD
        subst hwr_3
        refine ifB_ne (P := (dStep n (woF kd mn n - 1) (rmF kd mn) (woF kd mn) (cc (b + (i + 2 * k))) (cc (b + (i + 2 * k + 1))) (((dRun n (woF kd mn n - 1) (rmF kd mn) (woF kd mn) (fun q => cc (b + q)) i pu k).2.1.1), ((dRun n (woF kd mn n - 1) (rmF kd mn) (woF kd mn) (fun q => cc (b + q)) i pu k).2.1.2.1), ((dRun n (woF kd mn n - 1) (rmF kd mn) (woF kd mn) (fun q => cc (b + q)) i pu k).2.1.2.2))).isSome = true) (tgt := 56) hx hb dX7_goDay_51 (by decide) (fun c_5 => ?_) (fun c_5 => ?_)
        ·
          obtain ⟨d, ed⟩ := Option.isSome_iff_exists.mp c_5
          rw [ed] at hP hD
          have hP : va_P E.1 vwCl [ob m0 7 [.int lf, .int tr, .ref z0, .ref z1, .ref z2, .int (nI n), .ref y0, .ref y1, .ref y2, .int at_, .int rwi, .ref y3, .ref y4, .int d.2.1, .int d.2.2, .int ((dRun n (woF kd mn n - 1) (rmF kd mn) (woF kd mn) (fun q => cc (b + q)) i pu k).2.2), .ref y5, .ref y6, .int (nI rc), .ref x0, .ref x1, .ref x2, .ref x3], ar E y0 6 kd, ar E y1 6 mn, ar E y2 6 d.1, ar E z2 240 cc] H := hP
          have hD : va_D A [ob m0 7 [.int lf, .int tr, .ref z0, .ref z1, .ref z2, .int (nI n), .ref y0, .ref y1, .ref y2, .int at_, .int rwi, .ref y3, .ref y4, .int d.2.1, .int d.2.2, .int ((dRun n (woF kd mn n - 1) (rmF kd mn) (woF kd mn) (fun q => cc (b + q)) i pu k).2.2), .ref y5, .ref y6, .int (nI rc), .ref x0, .ref x1, .ref x2, .ref x3], ar E y0 6 kd, ar E y1 6 mn, ar E y2 6 d.1, ar E z2 240 cc] := hD
          have hpd : PB n d.1 := dStep_PB hFR (x := (dRun n (woF kd mn n - 1) (rmF kd mn) (woF kd mn) (fun q => cc (b + q)) i pu k).2.1) hq2 (hall k (by omega)) ed
          refine lv_aload_n hx hb dX7_goDay_56 rfl (lv_at hl 1 rfl) ?_
          refine lv_aload_n hx hb dX7_goDay_57 rfl (lv_at hl 1 rfl) ?_
          refine crV (As := []) (rest := [.ref m0]) ⟨hx, hb, hml, hown, hts⟩ (c_X7_numberNow l E m0 lf tr z0 z1 z2 n y0 y1 y2 at_ rwi y3 y4 d.2.1 d.2.2 ((dRun n (woF kd mn n - 1) (rmF kd mn) (woF kd mn) (fun q => cc (b + q)) i pu k).2.2) y5 y6 rc x0 x1 x2 x3 kd mn d.1 (by first | assumption | omega)) (cwV 0 hts gX7_goDay_X7_numberNow rfl rfl rfl (by decide +kernel) ⟨Nat.le_of_ble_eq_true rfl, Nat.le_of_ble_eq_true rfl⟩) hK hP [0, 1, 2, 3] rfl 0 rfl rfl rfl rfl hl.1 rfl (catLe (Nat.le_of_ble_eq_true rfl)) dX7_goDay_58 ⟨Nat.zero_le _, Nat.zero_le _⟩ (fun r_6 hr_6 => ?_)
          subst hr_6
          refine lv_aload_n hx hb dX7_goDay_61 rfl (lv_at hl 1 rfl) ?_
          refine va_get (D := E.1) (ci := 7) (v := .int ((dRun n (woF kd mn n - 1) (rmF kd mn) (woF kd mn) (fun q => cc (b + q)) i pu k).2.2)) (C := RX7) (T := TX7) (N := 23) hx hb hts hinX7 hown hK.1 hP 0 rfl rfl 15 (by decide) fl_151 (fun _ h9 => h9) rfl dX7_goDay_62 ?_
          refine lv_icmp_le (tgt := 75) hx hb dX7_goDay_65 (by decide) (fun c_7 => ?_) (fun c_7 => ?_)
          ·
            have c_7b := Int32.not_lt.mpr c_7
            refine lv_aload_n hx hb dX7_goDay_75 rfl (lv_at hl 1 rfl) ?_
            refine va_get (D := E.1) (ci := 7) (v := .int ((dRun n (woF kd mn n - 1) (rmF kd mn) (woF kd mn) (fun q => cc (b + q)) i pu k).2.2)) (C := RX7) (T := TX7) (N := 23) hx hb hts hinX7 hown hK.1 hP 0 rfl rfl 15 (by decide) fl_151 (fun _ h9 => h9) rfl dX7_goDay_76 ?_
            refine va_put (D := E.1) (ci := 7) (v := .int ((dRun n (woF kd mn n - 1) (rmF kd mn) (woF kd mn) (fun q => cc (b + q)) i pu k).2.2)) (ty := .int) (C := RX7) (T := TX7) (N := 23) hx hb hts hinX7 tyX7 tyX7_ok nmX7 hown hK.1 hP hD hS 0 rfl rfl 15 (by decide) fl_151 (fun _ h9 => h9) rfl (by decide +kernel) rfl rfl (Nat.le_of_ble_eq_true rfl) dX7_goDay_79 (fun H locs hP hD hS => ?_)
            have hP : va_P E.1 vwCl [ob m0 7 [.int lf, .int tr, .ref z0, .ref z1, .ref z2, .int (nI n), .ref y0, .ref y1, .ref y2, .int at_, .int rwi, .ref y3, .ref y4, .int d.2.1, .int d.2.2, .int ((dRun n (woF kd mn n - 1) (rmF kd mn) (woF kd mn) (fun q => cc (b + q)) i pu k).2.2), .ref y5, .ref y6, .int (nI rc), .ref x0, .ref x1, .ref x2, .ref x3], ar E y0 6 kd, ar E y1 6 mn, ar E y2 6 d.1, ar E z2 240 cc] H := hP
            have hD : va_D A [ob m0 7 [.int lf, .int tr, .ref z0, .ref z1, .ref z2, .int (nI n), .ref y0, .ref y1, .ref y2, .int at_, .int rwi, .ref y3, .ref y4, .int d.2.1, .int d.2.2, .int ((dRun n (woF kd mn n - 1) (rmF kd mn) (woF kd mn) (fun q => cc (b + q)) i pu k).2.2), .ref y5, .ref y6, .int (nI rc), .ref x0, .ref x1, .ref x2, .ref x3], ar E y0 6 kd, ar E y1 6 mn, ar E y2 6 d.1, ar E z2 240 cc] := hD
            refine lv_iinc (v := nI (k + 1)) (lv' := [(3, .int (nI (k + 1))), (0, .ref m0), (1, .int (nI (b + i))), (2, .int (nI nn))]) hx hb dX7_goDay_82 hl (k := 0) rfl (nI_inc k) (by decide) rfl (fun ls hl => ?_)
            refine lv_goto (tgt := 20) hx hb dX7_goDay_85 (by decide) ?_
            have eX : dRun n (woF kd mn n - 1) (rmF kd mn) (woF kd mn) (fun q => cc (b + q)) i pu (k + 1) = ((dRun n (woF kd mn n - 1) (rmF kd mn) (woF kd mn) (fun q => cc (b + q)) i pu k).1, d, if (dRun n (woF kd mn n - 1) (rmF kd mn) (woF kd mn) (fun q => cc (b + q)) i pu k).2.2 < numF d.1 (woF kd mn) n then numF d.1 (woF kd mn) n else (dRun n (woF kd mn n - 1) (rmF kd mn) (woF kd mn) (fun q => cc (b + q)) i pu k).2.2) := dNext_some hq1 ed
            have eM : (if (dRun n (woF kd mn n - 1) (rmF kd mn) (woF kd mn) (fun q => cc (b + q)) i pu k).2.2 < numF d.1 (woF kd mn) n then numF d.1 (woF kd mn) n else (dRun n (woF kd mn n - 1) (rmF kd mn) (woF kd mn) (fun q => cc (b + q)) i pu k).2.2) = ((dRun n (woF kd mn n - 1) (rmF kd mn) (woF kd mn) (fun q => cc (b + q)) i pu k).2.2) := if_neg c_7b
            have hP : va_P E.1 vwCl [ob m0 7 [.int lf, .int tr, .ref z0, .ref z1, .ref z2, .int (nI n), .ref y0, .ref y1, .ref y2, .int at_, .int rwi, .ref y3, .ref y4, .int ((dRun n (woF kd mn n - 1) (rmF kd mn) (woF kd mn) (fun q => cc (b + q)) i pu (k + 1)).2.1.2.1), .int ((dRun n (woF kd mn n - 1) (rmF kd mn) (woF kd mn) (fun q => cc (b + q)) i pu (k + 1)).2.1.2.2), .int ((dRun n (woF kd mn n - 1) (rmF kd mn) (woF kd mn) (fun q => cc (b + q)) i pu (k + 1)).2.2), .ref y5, .ref y6, .int (nI rc), .ref x0, .ref x1, .ref x2, .ref x3], ar E y0 6 kd, ar E y1 6 mn, ar E y2 6 ((dRun n (woF kd mn n - 1) (rmF kd mn) (woF kd mn) (fun q => cc (b + q)) i pu (k + 1)).2.1.1), ar E z2 240 cc] H := by rw [eX, eM]; exact hP
            have hD : va_D A [ob m0 7 [.int lf, .int tr, .ref z0, .ref z1, .ref z2, .int (nI n), .ref y0, .ref y1, .ref y2, .int at_, .int rwi, .ref y3, .ref y4, .int ((dRun n (woF kd mn n - 1) (rmF kd mn) (woF kd mn) (fun q => cc (b + q)) i pu (k + 1)).2.1.2.1), .int ((dRun n (woF kd mn n - 1) (rmF kd mn) (woF kd mn) (fun q => cc (b + q)) i pu (k + 1)).2.1.2.2), .int ((dRun n (woF kd mn n - 1) (rmF kd mn) (woF kd mn) (fun q => cc (b + q)) i pu (k + 1)).2.2), .ref y5, .ref y6, .int (nI rc), .ref x0, .ref x1, .ref x2, .ref x3], ar E y0 6 kd, ar E y1 6 mn, ar E y2 6 ((dRun n (woF kd mn n - 1) (rmF kd mn) (woF kd mn) (fun q => cc (b + q)) i pu (k + 1)).2.1.1), ar E z2 240 cc] := va_D_addr hD [m0, y0, y1, y2, z2] rfl rfl
            exact ih20 (k + 1) (by omega) (by rw [eX]; exact hq1) (by rw [eX]; exact hpd) (by omega) _ _ hP hD hS ls (lv_sub hl [0, 1, 2, 3] rfl)
          ·
            have c_7b := Int32.not_le.mp c_7
            refine lv_aload_n hx hb dX7_goDay_68 rfl (lv_at hl 1 rfl) ?_
            refine crV (As := []) (rest := [.ref m0]) ⟨hx, hb, hml, hown, hts⟩ (c_X7_numberNow l E m0 lf tr z0 z1 z2 n y0 y1 y2 at_ rwi y3 y4 d.2.1 d.2.2 ((dRun n (woF kd mn n - 1) (rmF kd mn) (woF kd mn) (fun q => cc (b + q)) i pu k).2.2) y5 y6 rc x0 x1 x2 x3 kd mn d.1 (by first | assumption | omega)) (cwV 0 hts gX7_goDay_X7_numberNow rfl rfl rfl (by decide +kernel) ⟨Nat.le_of_ble_eq_true rfl, Nat.le_of_ble_eq_true rfl⟩) hK hP [0, 1, 2, 3] rfl 0 rfl rfl rfl rfl hl.1 rfl (catLe (Nat.le_of_ble_eq_true rfl)) dX7_goDay_69 ⟨Nat.zero_le _, Nat.zero_le _⟩ (fun r_8 hr_8 => ?_)
            subst hr_8
            refine lv_goto (tgt := 79) hx hb dX7_goDay_72 (by decide) ?_
            refine va_put (D := E.1) (ci := 7) (v := .int (numF d.1 (woF kd mn) n)) (ty := .int) (C := RX7) (T := TX7) (N := 23) hx hb hts hinX7 tyX7 tyX7_ok nmX7 hown hK.1 hP hD hS 0 rfl rfl 15 (by decide) fl_151 (fun _ h9 => h9) rfl (by decide +kernel) rfl rfl (Nat.le_of_ble_eq_true rfl) dX7_goDay_79 (fun H locs hP hD hS => ?_)
            have hP : va_P E.1 vwCl [ob m0 7 [.int lf, .int tr, .ref z0, .ref z1, .ref z2, .int (nI n), .ref y0, .ref y1, .ref y2, .int at_, .int rwi, .ref y3, .ref y4, .int d.2.1, .int d.2.2, .int (numF d.1 (woF kd mn) n), .ref y5, .ref y6, .int (nI rc), .ref x0, .ref x1, .ref x2, .ref x3], ar E y0 6 kd, ar E y1 6 mn, ar E y2 6 d.1, ar E z2 240 cc] H := hP
            have hD : va_D A [ob m0 7 [.int lf, .int tr, .ref z0, .ref z1, .ref z2, .int (nI n), .ref y0, .ref y1, .ref y2, .int at_, .int rwi, .ref y3, .ref y4, .int d.2.1, .int d.2.2, .int (numF d.1 (woF kd mn) n), .ref y5, .ref y6, .int (nI rc), .ref x0, .ref x1, .ref x2, .ref x3], ar E y0 6 kd, ar E y1 6 mn, ar E y2 6 d.1, ar E z2 240 cc] := hD
            refine lv_iinc (v := nI (k + 1)) (lv' := [(3, .int (nI (k + 1))), (0, .ref m0), (1, .int (nI (b + i))), (2, .int (nI nn))]) hx hb dX7_goDay_82 hl (k := 0) rfl (nI_inc k) (by decide) rfl (fun ls hl => ?_)
            refine lv_goto (tgt := 20) hx hb dX7_goDay_85 (by decide) ?_
            have eX : dRun n (woF kd mn n - 1) (rmF kd mn) (woF kd mn) (fun q => cc (b + q)) i pu (k + 1) = ((dRun n (woF kd mn n - 1) (rmF kd mn) (woF kd mn) (fun q => cc (b + q)) i pu k).1, d, if (dRun n (woF kd mn n - 1) (rmF kd mn) (woF kd mn) (fun q => cc (b + q)) i pu k).2.2 < numF d.1 (woF kd mn) n then numF d.1 (woF kd mn) n else (dRun n (woF kd mn n - 1) (rmF kd mn) (woF kd mn) (fun q => cc (b + q)) i pu k).2.2) := dNext_some hq1 ed
            have eM : (if (dRun n (woF kd mn n - 1) (rmF kd mn) (woF kd mn) (fun q => cc (b + q)) i pu k).2.2 < numF d.1 (woF kd mn) n then numF d.1 (woF kd mn) n else (dRun n (woF kd mn n - 1) (rmF kd mn) (woF kd mn) (fun q => cc (b + q)) i pu k).2.2) = (numF d.1 (woF kd mn) n) := if_pos c_7b
            have hP : va_P E.1 vwCl [ob m0 7 [.int lf, .int tr, .ref z0, .ref z1, .ref z2, .int (nI n), .ref y0, .ref y1, .ref y2, .int at_, .int rwi, .ref y3, .ref y4, .int ((dRun n (woF kd mn n - 1) (rmF kd mn) (woF kd mn) (fun q => cc (b + q)) i pu (k + 1)).2.1.2.1), .int ((dRun n (woF kd mn n - 1) (rmF kd mn) (woF kd mn) (fun q => cc (b + q)) i pu (k + 1)).2.1.2.2), .int ((dRun n (woF kd mn n - 1) (rmF kd mn) (woF kd mn) (fun q => cc (b + q)) i pu (k + 1)).2.2), .ref y5, .ref y6, .int (nI rc), .ref x0, .ref x1, .ref x2, .ref x3], ar E y0 6 kd, ar E y1 6 mn, ar E y2 6 ((dRun n (woF kd mn n - 1) (rmF kd mn) (woF kd mn) (fun q => cc (b + q)) i pu (k + 1)).2.1.1), ar E z2 240 cc] H := by rw [eX, eM]; exact hP
            have hD : va_D A [ob m0 7 [.int lf, .int tr, .ref z0, .ref z1, .ref z2, .int (nI n), .ref y0, .ref y1, .ref y2, .int at_, .int rwi, .ref y3, .ref y4, .int ((dRun n (woF kd mn n - 1) (rmF kd mn) (woF kd mn) (fun q => cc (b + q)) i pu (k + 1)).2.1.2.1), .int ((dRun n (woF kd mn n - 1) (rmF kd mn) (woF kd mn) (fun q => cc (b + q)) i pu (k + 1)).2.1.2.2), .int ((dRun n (woF kd mn n - 1) (rmF kd mn) (woF kd mn) (fun q => cc (b + q)) i pu (k + 1)).2.2), .ref y5, .ref y6, .int (nI rc), .ref x0, .ref x1, .ref x2, .ref x3], ar E y0 6 kd, ar E y1 6 mn, ar E y2 6 ((dRun n (woF kd mn n - 1) (rmF kd mn) (woF kd mn) (fun q => cc (b + q)) i pu (k + 1)).2.1.1), ar E z2 240 cc] := va_D_addr hD [m0, y0, y1, y2, z2] rfl rfl
            exact ih20 (k + 1) (by omega) (by rw [eX]; exact hq1) (by rw [eX]; exact hpd) (by omega) _ _ hP hD hS ls (lv_sub hl [0, 1, 2, 3] rfl)
        ·
          have ed := isSome_none c_5
          rw [ed] at hP hD
          have hP : va_P E.1 vwCl [ob m0 7 [.int lf, .int tr, .ref z0, .ref z1, .ref z2, .int (nI n), .ref y0, .ref y1, .ref y2, .int at_, .int rwi, .ref y3, .ref y4, .int ((dRun n (woF kd mn n - 1) (rmF kd mn) (woF kd mn) (fun q => cc (b + q)) i pu k).2.1.2.1), .int ((dRun n (woF kd mn n - 1) (rmF kd mn) (woF kd mn) (fun q => cc (b + q)) i pu k).2.1.2.2), .int ((dRun n (woF kd mn n - 1) (rmF kd mn) (woF kd mn) (fun q => cc (b + q)) i pu k).2.2), .ref y5, .ref y6, .int (nI rc), .ref x0, .ref x1, .ref x2, .ref x3], ar E y0 6 kd, ar E y1 6 mn, ar E y2 6 ((dRun n (woF kd mn n - 1) (rmF kd mn) (woF kd mn) (fun q => cc (b + q)) i pu k).2.1.1), ar E z2 240 cc] H := hP
          have hD : va_D A [ob m0 7 [.int lf, .int tr, .ref z0, .ref z1, .ref z2, .int (nI n), .ref y0, .ref y1, .ref y2, .int at_, .int rwi, .ref y3, .ref y4, .int ((dRun n (woF kd mn n - 1) (rmF kd mn) (woF kd mn) (fun q => cc (b + q)) i pu k).2.1.2.1), .int ((dRun n (woF kd mn n - 1) (rmF kd mn) (woF kd mn) (fun q => cc (b + q)) i pu k).2.1.2.2), .int ((dRun n (woF kd mn n - 1) (rmF kd mn) (woF kd mn) (fun q => cc (b + q)) i pu k).2.2), .ref y5, .ref y6, .int (nI rc), .ref x0, .ref x1, .ref x2, .ref x3], ar E y0 6 kd, ar E y1 6 mn, ar E y2 6 ((dRun n (woF kd mn n - 1) (rmF kd mn) (woF kd mn) (fun q => cc (b + q)) i pu k).2.1.1), ar E z2 240 cc] := hD
          have eX : dRun n (woF kd mn n - 1) (rmF kd mn) (woF kd mn) (fun q => cc (b + q)) i pu (k + 1) = (nI k, (dRun n (woF kd mn n - 1) (rmF kd mn) (woF kd mn) (fun q => cc (b + q)) i pu k).2) := dNext_none hq1 ed
          have eS : dRun n (woF kd mn n - 1) (rmF kd mn) (woF kd mn) (fun q => cc (b + q)) i pu nn = (nI k, (dRun n (woF kd mn n - 1) (rmF kd mn) (woF kd mn) (fun q => cc (b + q)) i pu k).2) := (dRun_stop (k := k + 1) (by rw [eX]; exact fun (z : nI k = -9) => nI_pos (show k < 2 ^ 31 by omega) (by rw [z]; decide)) nn (by omega)).trans eX
          refine lv_iload_n hx hb dX7_goDay_54 rfl (lv_at hl 0 rfl) ?_
          exact hret _ _ _ _ _ () dX7_goDay_55 hS (by rw [eS]; exact hP) (by rw [eS])
  exact L20 _ 0 (by omega) rfl hpb (Nat.lt_succ_self _) _ _ hP hD hS ls (lv_sub hl [0, 1, 2, 3] rfl)
set_option maxHeartbeats 4000000 in
set_option maxRecDepth 100000 in
theorem c_X7_tellDay (l : Launch) (E : gE) (m0 : Nat) (lf : Int32) (tr : Int32) (z0 : Nat) (z1 : Nat) (z2 : Nat) (n : Nat) (y0 : Nat) (y1 : Nat) (y2 : Nat) (at_ : Int32) (rwi : Int32) (y3 : Nat) (y4 : Nat) (sl : Int32) (cr : Int32) (gr : Int32) (y5 : Nat) (y6 : Nat) (rc : Nat) (x0 : Nat) (x1 : Nat) (x2 : Nat) (x3 : Nat) (kd : Nat → Int32) (mn : Nat → Int32) (pu : Nat → Int32) (what : Int32) (hFR : FR n kd mn) : Met l yX7_tellDay wsX7_tellDay ({ frames := 4, cells := 0, slots := 0, locals := 87 }) (PR E [.ref m0, .int what] [ob m0 7 [.int lf, .int tr, .ref z0, .ref z1, .ref z2, .int (nI n), .ref y0, .ref y1, .ref y2, .int at_, .int rwi, .ref y3, .ref y4, .int sl, .int cr, .int gr, .ref y5, .ref y6, .int (nI rc), .ref x0, .ref x1, .ref x2, .ref x3], ar E y0 6 kd, ar E y1 6 mn, ar E y2 6 pu]) (vp_Si (fun r => r = tdF what n pu (woF kd mn) sl cr gr)) 0 0 (fun _ => False) := by
  refine mkRi (cc := cX7_tellDay) (maxL := 2) (by decide) rfl (Nat.le_of_ble_eq_true rfl) ?_
  intro p e s m args below meth c QQ hx hb hml hown hmn hts hK hP hret ls hl
  have hown : s.vm.findClass RX7 = some m.cls := hown
  have hl : lv_has ls 2 [(0, .ref m0), (1, .int what)] := hl
  have hinX7 : ∀ w ∈ wsX70, w ∈ wsX7_tellDay := by decide +kernel
  have fl_25 := hts (.fieldLink RX7 25 "GuardAbacusModel" "pushed" "[I") (by decide +kernel)
  have fl_145 := hts (.fieldLink RX7 145 "GuardAbacusModel" "slidAll" "I") (by decide +kernel)
  have fl_148 := hts (.fieldLink RX7 148 "GuardAbacusModel" "carriedAll" "I") (by decide +kernel)
  have fl_151 := hts (.fieldLink RX7 151 "GuardAbacusModel" "greatest" "I") (by decide +kernel)
  have hn := hFR.1
  refine lv_iload_n hx hb dX7_tellDay_0 rfl (lv_at hl 1 rfl) ?_
  refine lv_bipush (v := 10) hx hb dX7_tellDay_1 (by decide) ?_
  refine lv_icmp_lt (tgt := 32) hx hb dX7_tellDay_3 (by decide) (fun c_1 => ?_) (fun c_1 => ?_)
  ·
    have c_1b := Int32.not_le.mpr c_1
    refine lv_iload_n hx hb dX7_tellDay_32 rfl (lv_at hl 1 rfl) ?_
    by_cases q_2 : what = 0
    ·
      subst q_2
      refine lv_tableIn (off := 31) (tgt := 64) hx hb dX7_tellDay_33 (by decide) (by decide) rfl (by decide) ?_
      refine lv_aload_n hx hb dX7_tellDay_64 rfl (lv_at hl 0 rfl) ?_
      refine crV (As := []) (rest := []) ⟨hx, hb, hml, hown, hts⟩ (c_X7_numberNow l E m0 lf tr z0 z1 z2 n y0 y1 y2 at_ rwi y3 y4 sl cr gr y5 y6 rc x0 x1 x2 x3 kd mn pu (by first | assumption | omega)) (cwV 0 hts gX7_tellDay_X7_numberNow rfl rfl rfl (by decide +kernel) ⟨Nat.le_of_ble_eq_true rfl, Nat.le_of_ble_eq_true rfl⟩) hK hP [0, 1, 2, 3] rfl 0 rfl rfl rfl rfl hl.1 rfl (catLe (Nat.le_of_ble_eq_true rfl)) dX7_tellDay_65 ⟨Nat.zero_le _, Nat.zero_le _⟩ (fun r_3 hr_3 => ?_)
      subst hr_3
      exact hret _ _ _ dX7_tellDay_68 (by simp [tdF, c_1, c_1b])
    by_cases q_4 : what = 1
    ·
      subst q_4
      refine lv_tableIn (off := 46) (tgt := 79) hx hb dX7_tellDay_33 (by decide) (by decide) rfl (by decide) ?_
      refine lv_aload_n hx hb dX7_tellDay_79 rfl (lv_at hl 0 rfl) ?_
      refine va_get (D := E.1) (ci := 7) (v := .int gr) (C := RX7) (T := TX7) (N := 23) hx hb hts hinX7 hown hK.1 hP 0 rfl rfl 15 (by decide) fl_151 (fun _ h9 => h9) rfl dX7_tellDay_80 ?_
      exact hret _ _ _ dX7_tellDay_83 (by simp [tdF, c_1, c_1b])
    by_cases q_5 : what = 2
    ·
      subst q_5
      refine lv_tableIn (off := 36) (tgt := 69) hx hb dX7_tellDay_33 (by decide) (by decide) rfl (by decide) ?_
      refine lv_aload_n hx hb dX7_tellDay_69 rfl (lv_at hl 0 rfl) ?_
      refine va_get (D := E.1) (ci := 7) (v := .int sl) (C := RX7) (T := TX7) (N := 23) hx hb hts hinX7 hown hK.1 hP 0 rfl rfl 13 (by decide) fl_145 (fun _ h9 => h9) rfl dX7_tellDay_70 ?_
      exact hret _ _ _ dX7_tellDay_73 (by simp [tdF, c_1, c_1b])
    by_cases q_6 : what = 3
    ·
      subst q_6
      refine lv_tableIn (off := 41) (tgt := 74) hx hb dX7_tellDay_33 (by decide) (by decide) rfl (by decide) ?_
      refine lv_aload_n hx hb dX7_tellDay_74 rfl (lv_at hl 0 rfl) ?_
      refine va_get (D := E.1) (ci := 7) (v := .int cr) (C := RX7) (T := TX7) (N := 23) hx hb hts hinX7 hown hK.1 hP 0 rfl rfl 14 (by decide) fl_148 (fun _ h9 => h9) rfl dX7_tellDay_75 ?_
      exact hret _ _ _ dX7_tellDay_78 (by simp [tdF, c_1, c_1b])
    refine lv_tableOut (tgt := 79) hx hb dX7_tellDay_33 (by have z0 := lv_neT q_2 (show (0 : Int32).toInt = 0 from rfl); have z1 := lv_neT q_4 (show (1 : Int32).toInt = 1 from rfl); have z2 := lv_neT q_5 (show (2 : Int32).toInt = 2 from rfl); have z3 := lv_neT q_6 (show (3 : Int32).toInt = 3 from rfl); omega) (by decide) ?_
    refine lv_aload_n hx hb dX7_tellDay_79 rfl (lv_at hl 0 rfl) ?_
    refine va_get (D := E.1) (ci := 7) (v := .int gr) (C := RX7) (T := TX7) (N := 23) hx hb hts hinX7 hown hK.1 hP 0 rfl rfl 15 (by decide) fl_151 (fun _ h9 => h9) rfl dX7_tellDay_80 ?_
    exact hret _ _ _ dX7_tellDay_83 (by simp [tdF, c_1, q_2, q_4, q_5, q_6, c_1b])
  ·
    have c_1b := Int32.not_lt.mp c_1
    refine lv_aload_n hx hb dX7_tellDay_6 rfl (lv_at hl 0 rfl) ?_
    refine lv_iload_n hx hb dX7_tellDay_7 rfl (lv_at hl 1 rfl) ?_
    refine lv_bipush (v := 10) hx hb dX7_tellDay_8 (by decide) ?_
    refine lv_isub hx hb dX7_tellDay_10 ?_
    refine crV (As := [.int (what - 10)]) (rest := []) ⟨hx, hb, hml, hown, hts⟩ (c_X7_isWire l E m0 lf tr z0 z1 z2 n y0 y1 y2 at_ rwi y3 y4 sl cr gr y5 y6 rc x0 x1 x2 x3 (what - 10)) (cwV 1 hts gX7_tellDay_X7_isWire rfl rfl rfl (by decide +kernel) ⟨Nat.le_of_ble_eq_true rfl, Nat.le_of_ble_eq_true rfl⟩) hK hP [0] rfl 0 rfl rfl rfl rfl hl.1 rfl (catLe (Nat.le_of_ble_eq_true rfl)) dX7_tellDay_11 ⟨Nat.zero_le _, Nat.zero_le _⟩ (fun r_7 hr_7 => ?_)
    subst hr_7
    refine ifB_eq (P := hasP n (what - 10)) (tgt := 29) hx hb dX7_tellDay_14 (by decide) (fun c_8 => ?_) (fun c_8 => ?_)
    ·
      refine lv_bipush (v := (-9)) hx hb dX7_tellDay_29 (by decide) ?_
      exact hret _ _ _ dX7_tellDay_31 (by rw [tdF, if_neg c_1, if_neg c_8])
    ·
      refine lv_aload_n hx hb dX7_tellDay_17 rfl (lv_at hl 0 rfl) ?_
      refine va_get (D := E.1) (ci := 7) (v := .ref y2) (C := RX7) (T := TX7) (N := 23) hx hb hts hinX7 hown hK.1 hP 0 rfl rfl 8 (by decide) fl_25 (fun _ h9 => h9) rfl dX7_tellDay_18 ?_
      refine lv_iload_n hx hb dX7_tellDay_21 rfl (lv_at hl 1 rfl) ?_
      refine lv_bipush (v := 10) hx hb dX7_tellDay_22 (by decide) ?_
      refine lv_isub hx hb dX7_tellDay_24 ?_
      obtain ⟨z, hz, ez⟩ := hasP_of c_8 hn
      refine ild hx hb hK hP 3 rfl (j := z) ez (by omega) (by decide) dX7_tellDay_25 ?_
      refine lv_goto (tgt := 31) hx hb dX7_tellDay_26 (by decide) ?_
      exact hret _ _ _ dX7_tellDay_31 (by rw [tdF, if_neg c_1, if_pos c_8, ez, ix_nI (by omega)])
set_option maxHeartbeats 4000000 in
set_option maxRecDepth 100000 in
theorem c_X7_day (l : Launch) (E : gE) (sz : Nat) (m0 : Nat) (lf : Int32) (tr : Int32) (z0 : Nat) (z1 : Nat) (z2 : Nat) (n : Nat) (y0 : Nat) (y1 : Nat) (y2 : Nat) (at_ : Int32) (rwi : Int32) (y3 : Nat) (y4 : Nat) (sl : Int32) (cr : Int32) (gr : Int32) (y5 : Nat) (y6 : Nat) (rc : Nat) (x0 : Nat) (x1 : Nat) (x2 : Nat) (x3 : Nat) (so : Nat → Int32) (sg : Nat → Int32) (cc : Nat → Int32) (kd : Nat → Int32) (mn : Nat → Int32) (pu : Nat → Int32) (kp : Nat → Int32) (ln : Nat) (j : Nat) (sheet : Int32) (lane : Int32) (i : Int32) (x : Int32) (what : Int32) (hj4 : j < 4) (hjs : shP sheet → sheet = nI j) (hsg : sg j = nI ln) (h60 : ln ≤ 60) (hFR : FR n kd mn) (hpb : PB n pu) : Met l yX7_day wsX7_day ({ frames := 7, cells := 0, slots := 0, locals := 159 }) (PW E [.ref m0, .int sheet, .int lane, .int i, .int x, .int what] [ob m0 7 [.int lf, .int tr, .ref z0, .ref z1, .ref z2, .int (nI n), .ref y0, .ref y1, .ref y2, .int at_, .int rwi, .ref y3, .ref y4, .int sl, .int cr, .int gr, .ref y5, .ref y6, .int (nI rc), .ref x0, .ref x1, .ref x2, .ref x3], ar E z0 4 so, ar E z1 4 sg, ar E z2 240 cc, ar E y0 6 kd, ar E y1 6 mn, ar E y2 6 pu, ar E y4 6 kp] sz) (QWi E (fun r u => r = spDay sheet lane i x what (thM (so j)) (so j) ln (fun q => cc (60 * j + q)) n kd mn pu ∧ ∀ w, w < n → u.1 w = pu w) (fun (u : (Nat → Int32) × (Nat → Int32) × (Int32) × (Int32) × (Int32)) => [ob m0 7 [.int (fltF (rtK sheet lane i (2 * x) (if dyT x what then 1 else 0) (thM (so j)) (so j) ln)), .int tr, .ref z0, .ref z1, .ref z2, .int (nI n), .ref y0, .ref y1, .ref y2, .int at_, .int rwi, .ref y3, .ref y4, .int u.2.2.1, .int u.2.2.2.1, .int u.2.2.2.2, .ref y5, .ref y6, .int (nI rc), .ref x0, .ref x1, .ref x2, .ref x3], ar E z0 4 so, ar E z1 4 sg, ar E z2 240 cc, ar E y0 6 kd, ar E y1 6 mn, ar E y2 6 u.1, ar E y4 6 u.2.1]) (va_A [ob m0 7 [.int lf, .int tr, .ref z0, .ref z1, .ref z2, .int (nI n), .ref y0, .ref y1, .ref y2, .int at_, .int rwi, .ref y3, .ref y4, .int sl, .int cr, .int gr, .ref y5, .ref y6, .int (nI rc), .ref x0, .ref x1, .ref x2, .ref x3], ar E z0 4 so, ar E z1 4 sg, ar E z2 240 cc, ar E y0 6 kd, ar E y1 6 mn, ar E y2 6 pu, ar E y4 6 kp] sz)) 0 0 (va_A [ob m0 7 [.int lf, .int tr, .ref z0, .ref z1, .ref z2, .int (nI n), .ref y0, .ref y1, .ref y2, .int at_, .int rwi, .ref y3, .ref y4, .int sl, .int cr, .int gr, .ref y5, .ref y6, .int (nI rc), .ref x0, .ref x1, .ref x2, .ref x3], ar E z0 4 so, ar E z1 4 sg, ar E z2 240 cc, ar E y0 6 kd, ar E y1 6 mn, ar E y2 6 pu, ar E y4 6 kp] sz) := by
  refine mkWi (cc := cX7_day) (maxL := 11) (by decide) rfl (Nat.le_of_ble_eq_true rfl) ?_
  intro p e s m args below meth c QQ A hx hb hml hown hmn hts hK hA hP hD hS hret ls hl
  have hown : s.vm.findClass RX7 = some m.cls := hown
  have hl : lv_has ls 11 [(0, .ref m0), (1, .int sheet), (2, .int lane), (3, .int i), (4, .int x), (5, .int what)] := hl
  have hinX7 : ∀ w ∈ wsX70, w ∈ wsX7_day := by decide +kernel
  have fl_16 := hts (.fieldLink RX7 16 "GuardAbacusModel" "cells" "[I") (by decide +kernel)
  have fl_25 := hts (.fieldLink RX7 25 "GuardAbacusModel" "pushed" "[I") (by decide +kernel)
  have fl_31 := hts (.fieldLink RX7 31 "GuardAbacusModel" "keptPushed" "[I") (by decide +kernel)
  have fl_52 := hts (.fieldLink RX7 52 "GuardAbacusModel" "fault" "I") (by decide +kernel)
  have fl_62 := hts (.fieldLink RX7 62 "GuardAbacusModel" "wires" "I") (by decide +kernel)
  have hn := hFR.1
  refine lv_aload_n hx hb dX7_day_0 rfl (lv_at hl 0 rfl) ?_
  refine lv_iconst (v := 0) hx hb dX7_day_1 (by decide) ?_
  refine va_put (D := E.1) (ci := 7) (v := .int 0) (ty := .int) (C := RX7) (T := TX7) (N := 23) hx hb hts hinX7 tyX7 tyX7_ok nmX7 hown hK.1 hP hD hS 0 rfl rfl 0 (by decide) fl_52 (fun _ h9 => h9) rfl (by decide +kernel) rfl rfl (Nat.le_of_ble_eq_true rfl) dX7_day_2 (fun H locs hP hD hS => ?_)
  have hP : va_P E.1 vwCl [ob m0 7 [.int 0, .int tr, .ref z0, .ref z1, .ref z2, .int (nI n), .ref y0, .ref y1, .ref y2, .int at_, .int rwi, .ref y3, .ref y4, .int sl, .int cr, .int gr, .ref y5, .ref y6, .int (nI rc), .ref x0, .ref x1, .ref x2, .ref x3], ar E z0 4 so, ar E z1 4 sg, ar E z2 240 cc, ar E y0 6 kd, ar E y1 6 mn, ar E y2 6 pu, ar E y4 6 kp] H := hP
  have hD : va_D A [ob m0 7 [.int 0, .int tr, .ref z0, .ref z1, .ref z2, .int (nI n), .ref y0, .ref y1, .ref y2, .int at_, .int rwi, .ref y3, .ref y4, .int sl, .int cr, .int gr, .ref y5, .ref y6, .int (nI rc), .ref x0, .ref x1, .ref x2, .ref x3], ar E z0 4 so, ar E z1 4 sg, ar E z2 240 cc, ar E y0 6 kd, ar E y1 6 mn, ar E y2 6 pu, ar E y4 6 kp] := hD
  refine lv_iload_n hx hb dX7_day_5 rfl (lv_at hl 1 rfl) ?_
  refine crS (As := [.int sheet]) (rest := []) ⟨hx, hb, hml, hown, hts⟩ (c_X7_isSheet l E sheet) (va_cwS 1 hts gX7_day_X7_isSheet rfl rfl rfl (by decide +kernel) ⟨Nat.le_of_ble_eq_true rfl, Nat.le_of_ble_eq_true rfl⟩) hK hP [] rfl rfl hl.1 rfl (catLe (Nat.le_of_ble_eq_true rfl)) dX7_day_6 ⟨Nat.zero_le _, Nat.zero_le _⟩ (fun r_1 hr_1 => ?_)
  subst hr_1
  refine ifB_ne (P := shP sheet) (tgt := 14) hx hb dX7_day_9 (by decide) (fun c_2 => ?_) (fun c_2 => ?_)
  ·
    have hsh := hjs c_2
    subst hsh
    refine lv_iload_n hx hb dX7_day_14 rfl (lv_at hl 2 rfl) ?_
    refine crS (As := [.int lane]) (rest := []) ⟨hx, hb, hml, hown, hts⟩ (c_X7_isSort l E lane) (va_cwS 1 hts gX7_day_X7_isSort rfl rfl rfl (by decide +kernel) ⟨Nat.le_of_ble_eq_true rfl, Nat.le_of_ble_eq_true rfl⟩) hK hP [] rfl rfl hl.1 rfl (catLe (Nat.le_of_ble_eq_true rfl)) dX7_day_15 ⟨Nat.zero_le _, Nat.zero_le _⟩ (fun r_3 hr_3 => ?_)
    subst hr_3
    refine ifB_eq (P := laP lane) (tgt := 54) hx hb dX7_day_18 (by decide) (fun c_4 => ?_) (fun c_4 => ?_)
    ·
      refine lv_bipush (v := (-2)) hx hb dX7_day_54 (by decide) ?_
      have eR : rtK (nI j) lane i (2 * x) (if dyT x what then 1 else 0) (thM (so j)) (so j) ln = -2 := by rw [rtK, if_neg (not_not_intro c_2), if_pos (Or.inl c_4)]
      exact hret _ _ _ _ _ (pu, kp, sl, cr, gr) dX7_day_56 hS (by rw [eR]; exact hP) ⟨by rw [spDay, eR, if_pos (by decide)], fun _ _ => rfl⟩
    ·
      refine lv_iload hx hb dX7_day_21 (lv_at hl 4 rfl) ?_
      refine lv_iconst (v := 0) hx hb dX7_day_23 (by decide) ?_
      refine lv_bipush (v := 20) hx hb dX7_day_24 (by decide) ?_
      refine crS (As := [.int x, .int 0, .int 20]) (rest := []) ⟨hx, hb, hml, hown, hts⟩ (c_X7_within l E x 0 20) (va_cwS 3 hts gX7_day_X7_within rfl rfl rfl (by decide +kernel) ⟨Nat.le_of_ble_eq_true rfl, Nat.le_of_ble_eq_true rfl⟩) hK hP [] rfl rfl hl.1 rfl (catLe (Nat.le_of_ble_eq_true rfl)) dX7_day_26 ⟨Nat.zero_le _, Nat.zero_le _⟩ (fun r_5 hr_5 => ?_)
      subst hr_5
      refine ifB_eq (P := wiP x 0 20) (tgt := 54) hx hb dX7_day_29 (by decide) (fun c_6 => ?_) (fun c_6 => ?_)
      ·
        refine lv_bipush (v := (-2)) hx hb dX7_day_54 (by decide) ?_
        have eR : rtK (nI j) lane i (2 * x) (if dyT x what then 1 else 0) (thM (so j)) (so j) ln = -2 := by rw [rtK, if_neg (not_not_intro c_2), if_pos (Or.inr (if_neg (fun h => c_6 ⟨h.1, Int32.not_lt.mpr h.2.1⟩)))]
        exact hret _ _ _ _ _ (pu, kp, sl, cr, gr) dX7_day_56 hS (by rw [eR]; exact hP) ⟨by rw [spDay, eR, if_pos (by decide)], fun _ _ => rfl⟩
      ·
        refine lv_iload hx hb dX7_day_32 (lv_at hl 5 rfl) ?_
        refine lv_iconst (v := 0) hx hb dX7_day_34 (by decide) ?_
        refine lv_iconst (v := 4) hx hb dX7_day_35 (by decide) ?_
        refine crS (As := [.int what, .int 0, .int 4]) (rest := []) ⟨hx, hb, hml, hown, hts⟩ (c_X7_within l E what 0 4) (va_cwS 3 hts gX7_day_X7_within rfl rfl rfl (by decide +kernel) ⟨Nat.le_of_ble_eq_true rfl, Nat.le_of_ble_eq_true rfl⟩) hK hP [] rfl rfl hl.1 rfl (catLe (Nat.le_of_ble_eq_true rfl)) dX7_day_36 ⟨Nat.zero_le _, Nat.zero_le _⟩ (fun r_7 hr_7 => ?_)
        subst hr_7
        refine ifB_ne (P := wiP what 0 4) (tgt := 57) hx hb dX7_day_39 (by decide) (fun c_8 => ?_) (fun c_8 => ?_)
        ·
          have hdy : dyP what := wi_dy.mp (Or.inl c_8)
          have ha : (if dyT x what then (1 : Int32) else 0) = 1 := if_pos ⟨c_6.1, Int32.not_lt.mp c_6.2, hdy⟩
          have eR := ag_rt (sheet := nI j) (i := i) (cells := 2 * x) (so := so j) (ln := ln) c_2 c_4
          refine lv_aload_n hx hb dX7_day_57 rfl (lv_at hl 0 rfl) ?_
          refine lv_iload_n hx hb dX7_day_58 rfl (lv_at hl 1 rfl) ?_
          refine lv_iload_n hx hb dX7_day_59 rfl (lv_at hl 2 rfl) ?_
          refine lv_iload_n hx hb dX7_day_60 rfl (lv_at hl 3 rfl) ?_
          refine lv_iconst (v := 2) hx hb dX7_day_61 (by decide) ?_
          refine lv_iload hx hb dX7_day_62 (lv_at hl 4 rfl) ?_
          refine lv_imul hx hb dX7_day_64 ?_
          refine crV (As := [.int (nI j), .int lane, .int i, .int (2 * x)]) (rest := []) ⟨hx, hb, hml, hown, hts⟩ (c_X7_against l E m0 0 tr z0 z1 z2 n y0 y1 y2 at_ rwi y3 y4 sl cr gr y5 y6 rc x0 x1 x2 x3 so sg j ln lane i (2 * x) (by first | assumption | omega) (by first | assumption | omega)) (cwV 4 hts gX7_day_X7_against rfl rfl rfl (by decide +kernel) ⟨Nat.le_of_ble_eq_true rfl, Nat.le_of_ble_eq_true rfl⟩) hK hP [0, 1, 2] rfl 0 rfl rfl rfl rfl hl.1 rfl (catLe (Nat.le_of_ble_eq_true rfl)) dX7_day_65 ⟨Nat.zero_le _, Nat.zero_le _⟩ (fun r_9 hr_9 => ?_)
          subst hr_9
          refine lv_istore (lv' := [(6, .int (agF (so j) lane i (2 * x) ln)), (0, .ref m0), (1, .int (nI j)), (2, .int lane), (3, .int i), (4, .int x), (5, .int what)]) hx hb dX7_day_68 hl (by decide) rfl (fun ls hl => ?_)
          refine lv_iload hx hb dX7_day_70 (lv_at hl 0 rfl) ?_
          refine lv_if_eq (tgt := 82) hx hb dX7_day_72 (by decide) (fun c_10 => ?_) (fun c_10 => ?_)
          ·
            rw [if_pos c_10] at eR
            have hz := rtK_0 eR
            obtain ⟨m_, hm, rfl⟩ := le_nat (n := 20) (M := 20) rfl c_6.1 (Int32.not_lt.mp c_6.2)
            obtain ⟨a, rfl, hab⟩ := reach2 (b := 2 * m_) (by have h := hz.2.2.2.2.2; rwa [show (2 : Int32) * nI m_ = nI (2 * m_) from pk_mul 2 m_] at h) h60 (by omega)
            have hixa : ix (nI a) = a := ix_nI (by omega)
            have hixm : ix (nI m_) = m_ := ix_nI (by omega)
            refine lv_aload_n hx hb dX7_day_82 rfl (lv_at hl 1 rfl) ?_
            refine va_get (D := E.1) (ci := 7) (v := .int (nI n)) (C := RX7) (T := TX7) (N := 23) hx hb hts hinX7 hown hK.1 hP 0 rfl rfl 5 (by decide) fl_62 (fun _ h9 => h9) rfl dX7_day_83 ?_
            refine ifN_ne (tgt := 92) (a := n) hx hb rfl (by omega) dX7_day_86 (by decide) (fun c_11 => ?_) (fun c_11 => ?_)
            ·
              refine lv_bipush (v := 60) hx hb dX7_day_92 (by decide) ?_
              refine lv_iload_n hx hb dX7_day_94 rfl (lv_at hl 2 rfl) ?_
              refine N_imul (a := 60) (b := j) hx hb rfl rfl dX7_day_95 ?_
              refine lv_iload_n hx hb dX7_day_96 rfl (lv_at hl 4 rfl) ?_
              refine N_iadd (a := 60 * j) (b := a) hx hb rfl rfl dX7_day_97 ?_
              refine lv_istore (lv' := [(7, .int (nI ((60 * j) + a))), (6, .int (agF (so j) lane (nI a) (2 * (nI m_)) ln)), (0, .ref m0), (1, .int (nI j)), (2, .int lane), (3, .int (nI a)), (4, .int (nI m_)), (5, .int what)]) hx hb dX7_day_98 hl (by decide) rfl (fun ls hl => ?_)
              refine lv_iconst (v := 0) hx hb dX7_day_100 (by decide) ?_
              refine lv_istore (lv' := [(8, .int 0), (7, .int (nI ((60 * j) + a))), (6, .int (agF (so j) lane (nI a) (2 * (nI m_)) ln)), (0, .ref m0), (1, .int (nI j)), (2, .int lane), (3, .int (nI a)), (4, .int (nI m_)), (5, .int what)]) hx hb dX7_day_101 hl (by decide) rfl (fun ls hl => ?_)
              have L103 : ∀ (fuel : Nat) (z : Nat), (z ≤ m_) → (acR (fun q => cc (60 * j + q)) a n z = 0) → (m_ - z) < fuel → ∀ (H : Heap) (locs : List Loc), va_P E.1 vwCl [ob m0 7 [.int 0, .int tr, .ref z0, .ref z1, .ref z2, .int (nI n), .ref y0, .ref y1, .ref y2, .int at_, .int rwi, .ref y3, .ref y4, .int sl, .int cr, .int gr, .ref y5, .ref y6, .int (nI rc), .ref x0, .ref x1, .ref x2, .ref x3], ar E z0 4 so, ar E z1 4 sg, ar E z2 240 cc, ar E y0 6 kd, ar E y1 6 mn, ar E y2 6 pu, ar E y4 6 kp] H → va_D A [ob m0 7 [.int 0, .int tr, .ref z0, .ref z1, .ref z2, .int (nI n), .ref y0, .ref y1, .ref y2, .int at_, .int rwi, .ref y3, .ref y4, .int sl, .int cr, .int gr, .ref y5, .ref y6, .int (nI rc), .ref x0, .ref x1, .ref x2, .ref x3], ar E z0 4 so, ar E z1 4 sg, ar E z2 240 cc, ar E y0 6 kd, ar E y1 6 mn, ar E y2 6 pu, ar E y4 6 kp] → va_S A s.heap H locs → ∀ ls : Array Slot, lv_has ls 11 [(8, .int (nI z)), (7, .int (nI ((60 * j) + a))), (0, .ref m0), (1, .int (nI j)), (2, .int lane), (3, .int (nI a)), (4, .int (nI m_)), (5, .int what)] → W p l e ({ frames := 7, cells := 0, slots := 0, locals := 159 }) s m args below meth c H locs 0 0 QQ (F0 m 103 ls []) := by
                intro fuel
                induction fuel with
                | zero => intro z hz_ hq hf; exact absurd hf (Nat.not_lt_zero _)
                | succ fuel ih103 =>
                  intro z hz_ hq hf103 H locs hP hD hS ls hl
                  refine lv_iload hx hb dX7_day_103 (lv_at hl 0 rfl) ?_
                  refine lv_iload hx hb dX7_day_105 (lv_at hl 6 rfl) ?_
                  refine icmpN_ge (tgt := 156) (a := z) (b := m_) hx hb rfl rfl (by omega) (by omega) dX7_day_107 (by decide) (fun c_12 => ?_) (fun c_12 => ?_)
                  ·
                    obtain rfl : m_ = z := by omega
                    refine lv_iconst (v := 0) hx hb dX7_day_156 (by decide) ?_
                    refine lv_istore (lv' := [(8, .int 0), (7, .int (nI ((60 * j) + a))), (0, .ref m0), (1, .int (nI j)), (2, .int lane), (3, .int (nI a)), (4, .int (nI m_)), (5, .int what)]) hx hb dX7_day_157 hl (by decide) rfl (fun ls hl => ?_)
                    rw [← fil_0 pu kp] at hP hD
                    have L159 : ∀ (fuel : Nat) (k : Nat), (k ≤ n) → (n - k) < fuel → ∀ (H : Heap) (locs : List Loc), va_P E.1 vwCl [ob m0 7 [.int 0, .int tr, .ref z0, .ref z1, .ref z2, .int (nI n), .ref y0, .ref y1, .ref y2, .int at_, .int rwi, .ref y3, .ref y4, .int sl, .int cr, .int gr, .ref y5, .ref y6, .int (nI rc), .ref x0, .ref x1, .ref x2, .ref x3], ar E z0 4 so, ar E z1 4 sg, ar E z2 240 cc, ar E y0 6 kd, ar E y1 6 mn, ar E y2 6 pu, ar E y4 6 (fil pu kp k)] H → va_D A [ob m0 7 [.int 0, .int tr, .ref z0, .ref z1, .ref z2, .int (nI n), .ref y0, .ref y1, .ref y2, .int at_, .int rwi, .ref y3, .ref y4, .int sl, .int cr, .int gr, .ref y5, .ref y6, .int (nI rc), .ref x0, .ref x1, .ref x2, .ref x3], ar E z0 4 so, ar E z1 4 sg, ar E z2 240 cc, ar E y0 6 kd, ar E y1 6 mn, ar E y2 6 pu, ar E y4 6 (fil pu kp k)] → va_S A s.heap H locs → ∀ ls : Array Slot, lv_has ls 11 [(8, .int (nI k)), (7, .int (nI ((60 * j) + a))), (0, .ref m0), (4, .int (nI m_)), (5, .int what)] → W p l e ({ frames := 7, cells := 0, slots := 0, locals := 159 }) s m args below meth c H locs 0 0 QQ (F0 m 159 ls []) := by
                      intro fuel
                      induction fuel with
                      | zero => intro k hk hf; exact absurd hf (Nat.not_lt_zero _)
                      | succ fuel ih159 =>
                        intro k hk hf159 H locs hP hD hS ls hl
                        refine lv_iload hx hb dX7_day_159 (lv_at hl 0 rfl) ?_
                        refine lv_aload_n hx hb dX7_day_161 rfl (lv_at hl 2 rfl) ?_
                        refine va_get (D := E.1) (ci := 7) (v := .int (nI n)) (C := RX7) (T := TX7) (N := 23) hx hb hts hinX7 hown hK.1 hP 0 rfl rfl 5 (by decide) fl_62 (fun _ h9 => h9) rfl dX7_day_162 ?_
                        refine icmpN_ge (tgt := 188) (a := k) (b := n) hx hb rfl rfl (by omega) (by omega) dX7_day_165 (by decide) (fun c_13 => ?_) (fun c_13 => ?_)
                        ·
                          obtain rfl : n = k := by omega
                          refine lv_aload_n hx hb dX7_day_188 rfl (lv_at hl 2 rfl) ?_
                          refine lv_iload hx hb dX7_day_189 (lv_at hl 1 rfl) ?_
                          refine lv_iload hx hb dX7_day_191 (lv_at hl 3 rfl) ?_
                          refine cwVi (As := [.int (nI ((60 * j) + a)), .int (nI m_)]) (rest := []) ⟨hx, hb, hml, hown, hts⟩ (c_X7_goDay l E _ m0 0 tr z0 z1 z2 n y0 y1 y2 at_ rwi y3 y4 sl cr gr y5 y6 rc x0 x1 x2 x3 kd mn pu cc (60 * j) a m_ (by first | assumption | omega) (by omega) (by first | assumption | omega) (fun k hk => acR_all hq k hk) (by omega)) (cwV 2 hts gX7_day_X7_goDay rfl rfl rfl (by decide +kernel) ⟨Nat.le_of_ble_eq_true rfl, Nat.le_of_ble_eq_true rfl⟩) hK hP hD hS hA [0, 4, 5, 6, 3] (by decide) rfl [m0, y0, y1, y2, z2] (fun _ => rfl) rfl 0 rfl rfl rfl rfl hl.1 rfl (catLe (Nat.le_of_ble_eq_true rfl)) dX7_day_193 ⟨Nat.zero_le _, Nat.zero_le _⟩ (fun r_14 u_15 H locs hwr_14 hP hD hS => ?_)
                          have hP : va_P E.1 vwCl [ob m0 7 [.int 0, .int tr, .ref z0, .ref z1, .ref z2, .int (nI n), .ref y0, .ref y1, .ref y2, .int at_, .int rwi, .ref y3, .ref y4, .int ((dRun n (woF kd mn n - 1) (rmF kd mn) (woF kd mn) (fun q => cc ((60 * j) + q)) a pu m_).2.1.2.1), .int ((dRun n (woF kd mn n - 1) (rmF kd mn) (woF kd mn) (fun q => cc ((60 * j) + q)) a pu m_).2.1.2.2), .int ((dRun n (woF kd mn n - 1) (rmF kd mn) (woF kd mn) (fun q => cc ((60 * j) + q)) a pu m_).2.2), .ref y5, .ref y6, .int (nI rc), .ref x0, .ref x1, .ref x2, .ref x3], ar E z0 4 so, ar E z1 4 sg, ar E z2 240 cc, ar E y0 6 kd, ar E y1 6 mn, ar E y2 6 ((dRun n (woF kd mn n - 1) (rmF kd mn) (woF kd mn) (fun q => cc ((60 * j) + q)) a pu m_).2.1.1), ar E y4 6 (fil pu kp n)] H := hP
                          have hD : va_D A [ob m0 7 [.int 0, .int tr, .ref z0, .ref z1, .ref z2, .int (nI n), .ref y0, .ref y1, .ref y2, .int at_, .int rwi, .ref y3, .ref y4, .int ((dRun n (woF kd mn n - 1) (rmF kd mn) (woF kd mn) (fun q => cc ((60 * j) + q)) a pu m_).2.1.2.1), .int ((dRun n (woF kd mn n - 1) (rmF kd mn) (woF kd mn) (fun q => cc ((60 * j) + q)) a pu m_).2.1.2.2), .int ((dRun n (woF kd mn n - 1) (rmF kd mn) (woF kd mn) (fun q => cc ((60 * j) + q)) a pu m_).2.2), .ref y5, .ref y6, .int (nI rc), .ref x0, .ref x1, .ref x2, .ref x3], ar E z0 4 so, ar E z1 4 sg, ar E z2 240 cc, ar E y0 6 kd, ar E y1 6 mn, ar E y2 6 ((dRun n (woF kd mn n - 1) (rmF kd mn) (woF kd mn) (fun q => cc ((60 * j) + q)) a pu m_).2.1.1), ar E y4 6 (fil pu kp n)] := hD
                          subst hwr_14
                          refine lv_istore (lv' := [(8, .int ((dRun n (woF kd mn n - 1) (rmF kd mn) (woF kd mn) (fun q => cc ((60 * j) + q)) a pu m_).1)), (7, .int (nI ((60 * j) + a))), (0, .ref m0), (4, .int (nI m_)), (5, .int what)]) hx hb dX7_day_196 hl (by decide) rfl (fun ls hl => ?_)
                          refine lv_aload_n hx hb dX7_day_198 rfl (lv_at hl 2 rfl) ?_
                          refine lv_iload hx hb dX7_day_199 (lv_at hl 4 rfl) ?_
                          refine crV (As := [.int what]) (rest := []) ⟨hx, hb, hml, hown, hts⟩ (c_X7_tellDay l E m0 0 tr z0 z1 z2 n y0 y1 y2 at_ rwi y3 y4 ((dRun n (woF kd mn n - 1) (rmF kd mn) (woF kd mn) (fun q => cc ((60 * j) + q)) a pu m_).2.1.2.1) ((dRun n (woF kd mn n - 1) (rmF kd mn) (woF kd mn) (fun q => cc ((60 * j) + q)) a pu m_).2.1.2.2) ((dRun n (woF kd mn n - 1) (rmF kd mn) (woF kd mn) (fun q => cc ((60 * j) + q)) a pu m_).2.2) y5 y6 rc x0 x1 x2 x3 kd mn ((dRun n (woF kd mn n - 1) (rmF kd mn) (woF kd mn) (fun q => cc ((60 * j) + q)) a pu m_).2.1.1) what (by first | assumption | omega)) (cwV 1 hts gX7_day_X7_tellDay rfl rfl rfl (by decide +kernel) ⟨Nat.le_of_ble_eq_true rfl, Nat.le_of_ble_eq_true rfl⟩) hK hP [0, 4, 5, 6] rfl 0 rfl rfl rfl rfl hl.1 rfl (catLe (Nat.le_of_ble_eq_true rfl)) dX7_day_201 ⟨Nat.zero_le _, Nat.zero_le _⟩ (fun r_16 hr_16 => ?_)
                          subst hr_16
                          refine lv_istore (lv' := [(9, .int (tdF what n ((dRun n (woF kd mn n - 1) (rmF kd mn) (woF kd mn) (fun q => cc ((60 * j) + q)) a pu m_).2.1.1) (woF kd mn) ((dRun n (woF kd mn n - 1) (rmF kd mn) (woF kd mn) (fun q => cc ((60 * j) + q)) a pu m_).2.1.2.1) ((dRun n (woF kd mn n - 1) (rmF kd mn) (woF kd mn) (fun q => cc ((60 * j) + q)) a pu m_).2.1.2.2) ((dRun n (woF kd mn n - 1) (rmF kd mn) (woF kd mn) (fun q => cc ((60 * j) + q)) a pu m_).2.2))), (8, .int ((dRun n (woF kd mn n - 1) (rmF kd mn) (woF kd mn) (fun q => cc ((60 * j) + q)) a pu m_).1)), (7, .int (nI ((60 * j) + a))), (0, .ref m0), (4, .int (nI m_)), (5, .int what)]) hx hb dX7_day_204 hl (by decide) rfl (fun ls hl => ?_)
                          refine lv_iconst (v := 0) hx hb dX7_day_206 (by decide) ?_
                          refine lv_istore (lv' := [(10, .int 0), (9, .int (tdF what n ((dRun n (woF kd mn n - 1) (rmF kd mn) (woF kd mn) (fun q => cc ((60 * j) + q)) a pu m_).2.1.1) (woF kd mn) ((dRun n (woF kd mn n - 1) (rmF kd mn) (woF kd mn) (fun q => cc ((60 * j) + q)) a pu m_).2.1.2.1) ((dRun n (woF kd mn n - 1) (rmF kd mn) (woF kd mn) (fun q => cc ((60 * j) + q)) a pu m_).2.1.2.2) ((dRun n (woF kd mn n - 1) (rmF kd mn) (woF kd mn) (fun q => cc ((60 * j) + q)) a pu m_).2.2))), (8, .int ((dRun n (woF kd mn n - 1) (rmF kd mn) (woF kd mn) (fun q => cc ((60 * j) + q)) a pu m_).1)), (7, .int (nI ((60 * j) + a))), (0, .ref m0), (4, .int (nI m_)), (5, .int what)]) hx hb dX7_day_207 hl (by decide) rfl (fun ls hl => ?_)
                          rw [← fil_0 (fil pu kp n) (dRun n (woF kd mn n - 1) (rmF kd mn) (woF kd mn) (fun q => cc (60 * j + q)) a pu m_).2.1.1] at hP hD
                          have L209 : ∀ (fuel : Nat) (y : Nat), (y ≤ n) → (n - y) < fuel → ∀ (H : Heap) (locs : List Loc), va_P E.1 vwCl [ob m0 7 [.int 0, .int tr, .ref z0, .ref z1, .ref z2, .int (nI n), .ref y0, .ref y1, .ref y2, .int at_, .int rwi, .ref y3, .ref y4, .int ((dRun n (woF kd mn n - 1) (rmF kd mn) (woF kd mn) (fun q => cc ((60 * j) + q)) a pu m_).2.1.2.1), .int ((dRun n (woF kd mn n - 1) (rmF kd mn) (woF kd mn) (fun q => cc ((60 * j) + q)) a pu m_).2.1.2.2), .int ((dRun n (woF kd mn n - 1) (rmF kd mn) (woF kd mn) (fun q => cc ((60 * j) + q)) a pu m_).2.2), .ref y5, .ref y6, .int (nI rc), .ref x0, .ref x1, .ref x2, .ref x3], ar E z0 4 so, ar E z1 4 sg, ar E z2 240 cc, ar E y0 6 kd, ar E y1 6 mn, ar E y2 6 (fil (fil pu kp n) (dRun n (woF kd mn n - 1) (rmF kd mn) (woF kd mn) (fun q => cc (60 * j + q)) a pu m_).2.1.1 y), ar E y4 6 (fil pu kp n)] H → va_D A [ob m0 7 [.int 0, .int tr, .ref z0, .ref z1, .ref z2, .int (nI n), .ref y0, .ref y1, .ref y2, .int at_, .int rwi, .ref y3, .ref y4, .int ((dRun n (woF kd mn n - 1) (rmF kd mn) (woF kd mn) (fun q => cc ((60 * j) + q)) a pu m_).2.1.2.1), .int ((dRun n (woF kd mn n - 1) (rmF kd mn) (woF kd mn) (fun q => cc ((60 * j) + q)) a pu m_).2.1.2.2), .int ((dRun n (woF kd mn n - 1) (rmF kd mn) (woF kd mn) (fun q => cc ((60 * j) + q)) a pu m_).2.2), .ref y5, .ref y6, .int (nI rc), .ref x0, .ref x1, .ref x2, .ref x3], ar E z0 4 so, ar E z1 4 sg, ar E z2 240 cc, ar E y0 6 kd, ar E y1 6 mn, ar E y2 6 (fil (fil pu kp n) (dRun n (woF kd mn n - 1) (rmF kd mn) (woF kd mn) (fun q => cc (60 * j + q)) a pu m_).2.1.1 y), ar E y4 6 (fil pu kp n)] → va_S A s.heap H locs → ∀ ls : Array Slot, lv_has ls 11 [(10, .int (nI y)), (9, .int (tdF what n ((dRun n (woF kd mn n - 1) (rmF kd mn) (woF kd mn) (fun q => cc ((60 * j) + q)) a pu m_).2.1.1) (woF kd mn) ((dRun n (woF kd mn n - 1) (rmF kd mn) (woF kd mn) (fun q => cc ((60 * j) + q)) a pu m_).2.1.2.1) ((dRun n (woF kd mn n - 1) (rmF kd mn) (woF kd mn) (fun q => cc ((60 * j) + q)) a pu m_).2.1.2.2) ((dRun n (woF kd mn n - 1) (rmF kd mn) (woF kd mn) (fun q => cc ((60 * j) + q)) a pu m_).2.2))), (8, .int ((dRun n (woF kd mn n - 1) (rmF kd mn) (woF kd mn) (fun q => cc ((60 * j) + q)) a pu m_).1)), (7, .int (nI ((60 * j) + a))), (0, .ref m0), (4, .int (nI m_)), (5, .int what)] → W p l e ({ frames := 7, cells := 0, slots := 0, locals := 159 }) s m args below meth c H locs 0 0 QQ (F0 m 209 ls []) := by
                            intro fuel
                            induction fuel with
                            | zero => intro y hy hf; exact absurd hf (Nat.not_lt_zero _)
                            | succ fuel ih209 =>
                              intro y hy hf209 H locs hP hD hS ls hl
                              refine lv_iload hx hb dX7_day_209 (lv_at hl 0 rfl) ?_
                              refine lv_aload_n hx hb dX7_day_211 rfl (lv_at hl 4 rfl) ?_
                              refine va_get (D := E.1) (ci := 7) (v := .int (nI n)) (C := RX7) (T := TX7) (N := 23) hx hb hts hinX7 hown hK.1 hP 0 rfl rfl 5 (by decide) fl_62 (fun _ h9 => h9) rfl dX7_day_212 ?_
                              refine icmpN_ge (tgt := 238) (a := y) (b := n) hx hb rfl rfl (by omega) (by omega) dX7_day_215 (by decide) (fun c_17 => ?_) (fun c_17 => ?_)
                              ·
                                obtain rfl : n = y := by omega
                                refine lv_iload hx hb dX7_day_238 (lv_at hl 6 rfl) ?_
                                refine lv_iconst (v := 1) hx hb dX7_day_240 (by decide) ?_
                                refine lv_icmp_ne (tgt := 249) hx hb dX7_day_241 (by decide) (fun c_18 => ?_) (fun c_18 => ?_)
                                ·
                                  refine lv_iload hx hb dX7_day_249 (lv_at hl 2 rfl) ?_
                                  refine lv_bipush (v := (-9)) hx hb dX7_day_251 (by decide) ?_
                                  refine lv_icmp_ne (tgt := 261) hx hb dX7_day_253 (by decide) (fun c_19 => ?_) (fun c_19 => ?_)
                                  ·
                                    refine lv_bipush (v := (-100)) hx hb dX7_day_261 (by decide) ?_
                                    refine lv_iload hx hb dX7_day_263 (lv_at hl 2 rfl) ?_
                                    refine lv_isub hx hb dX7_day_265 ?_
                                    exact hret _ _ _ _ _ (fil (fil pu kp n) (dRun n (woF kd mn n - 1) (rmF kd mn) (woF kd mn) (fun q => cc (60 * j + q)) a pu m_).2.1.1 n, fil pu kp n, (dRun n (woF kd mn n - 1) (rmF kd mn) (woF kd mn) (fun q => cc ((60 * j) + q)) a pu m_).2.1.2.1, (dRun n (woF kd mn n - 1) (rmF kd mn) (woF kd mn) (fun q => cc ((60 * j) + q)) a pu m_).2.1.2.2, (dRun n (woF kd mn n - 1) (rmF kd mn) (woF kd mn) (fun q => cc ((60 * j) + q)) a pu m_).2.2) dX7_day_266 hS (by rw [ha, eR]; exact hP) ⟨by rw [spDay, ha, eR, if_neg (not_not_intro rfl), if_neg (by omega), hixa, hixm, if_neg (not_not_intro hq), ← tdF_ofD hdy, if_neg c_18, if_neg c_19], fun w hw => (fil_in hw).trans (fil_in hw)⟩
                                  ·
                                    refine lv_iload hx hb dX7_day_256 (lv_at hl 1 rfl) ?_
                                    refine lv_goto (tgt := 266) hx hb dX7_day_258 (by decide) ?_
                                    exact hret _ _ _ _ _ (fil (fil pu kp n) (dRun n (woF kd mn n - 1) (rmF kd mn) (woF kd mn) (fun q => cc (60 * j + q)) a pu m_).2.1.1 n, fil pu kp n, (dRun n (woF kd mn n - 1) (rmF kd mn) (woF kd mn) (fun q => cc ((60 * j) + q)) a pu m_).2.1.2.1, (dRun n (woF kd mn n - 1) (rmF kd mn) (woF kd mn) (fun q => cc ((60 * j) + q)) a pu m_).2.1.2.2, (dRun n (woF kd mn n - 1) (rmF kd mn) (woF kd mn) (fun q => cc ((60 * j) + q)) a pu m_).2.2) dX7_day_266 hS (by rw [ha, eR]; exact hP) ⟨by rw [spDay, ha, eR, if_neg (not_not_intro rfl), if_neg (by omega), hixa, hixm, if_neg (not_not_intro hq), ← tdF_ofD hdy, if_neg c_18, if_pos c_19], fun w hw => (fil_in hw).trans (fil_in hw)⟩
                                ·
                                  refine lv_iload hx hb dX7_day_244 (lv_at hl 2 rfl) ?_
                                  refine lv_goto (tgt := 266) hx hb dX7_day_246 (by decide) ?_
                                  exact hret _ _ _ _ _ (fil (fil pu kp n) (dRun n (woF kd mn n - 1) (rmF kd mn) (woF kd mn) (fun q => cc (60 * j + q)) a pu m_).2.1.1 n, fil pu kp n, (dRun n (woF kd mn n - 1) (rmF kd mn) (woF kd mn) (fun q => cc ((60 * j) + q)) a pu m_).2.1.2.1, (dRun n (woF kd mn n - 1) (rmF kd mn) (woF kd mn) (fun q => cc ((60 * j) + q)) a pu m_).2.1.2.2, (dRun n (woF kd mn n - 1) (rmF kd mn) (woF kd mn) (fun q => cc ((60 * j) + q)) a pu m_).2.2) dX7_day_266 hS (by rw [ha, eR]; exact hP) ⟨by rw [spDay, ha, eR, if_neg (not_not_intro rfl), if_neg (by omega), hixa, hixm, if_neg (not_not_intro hq), ← tdF_ofD hdy, if_pos c_18], fun w hw => (fil_in hw).trans (fil_in hw)⟩
                              ·
                                refine lv_aload_n hx hb dX7_day_218 rfl (lv_at hl 4 rfl) ?_
                                refine va_get (D := E.1) (ci := 7) (v := .ref y2) (C := RX7) (T := TX7) (N := 23) hx hb hts hinX7 hown hK.1 hP 0 rfl rfl 8 (by decide) fl_25 (fun _ h9 => h9) rfl dX7_day_219 ?_
                                refine lv_iload hx hb dX7_day_222 (lv_at hl 0 rfl) ?_
                                refine lv_aload_n hx hb dX7_day_224 rfl (lv_at hl 4 rfl) ?_
                                refine va_get (D := E.1) (ci := 7) (v := .ref y4) (C := RX7) (T := TX7) (N := 23) hx hb hts hinX7 hown hK.1 hP 0 rfl rfl 12 (by decide) fl_31 (fun _ h9 => h9) rfl dX7_day_225 ?_
                                refine lv_iload hx hb dX7_day_228 (lv_at hl 0 rfl) ?_
                                refine ild hx hb hK hP 7 rfl (j := y) rfl (by omega) (by decide) dX7_day_230 ?_
                                refine ist hx hb hK hP hD hS 6 rfl (j := y) rfl (by omega) (by decide) dX7_day_231 (fun H locs hP hD hS => ?_)
                                have hP : va_P E.1 vwCl [ob m0 7 [.int 0, .int tr, .ref z0, .ref z1, .ref z2, .int (nI n), .ref y0, .ref y1, .ref y2, .int at_, .int rwi, .ref y3, .ref y4, .int ((dRun n (woF kd mn n - 1) (rmF kd mn) (woF kd mn) (fun q => cc ((60 * j) + q)) a pu m_).2.1.2.1), .int ((dRun n (woF kd mn n - 1) (rmF kd mn) (woF kd mn) (fun q => cc ((60 * j) + q)) a pu m_).2.1.2.2), .int ((dRun n (woF kd mn n - 1) (rmF kd mn) (woF kd mn) (fun q => cc ((60 * j) + q)) a pu m_).2.2), .ref y5, .ref y6, .int (nI rc), .ref x0, .ref x1, .ref x2, .ref x3], ar E z0 4 so, ar E z1 4 sg, ar E z2 240 cc, ar E y0 6 kd, ar E y1 6 mn, ar E y2 6 (upd (fil (fil pu kp n) (dRun n (woF kd mn n - 1) (rmF kd mn) (woF kd mn) (fun q => cc (60 * j + q)) a pu m_).2.1.1 y) y ((fil pu kp n) y)), ar E y4 6 (fil pu kp n)] H := hP
                                have hD : va_D A [ob m0 7 [.int 0, .int tr, .ref z0, .ref z1, .ref z2, .int (nI n), .ref y0, .ref y1, .ref y2, .int at_, .int rwi, .ref y3, .ref y4, .int ((dRun n (woF kd mn n - 1) (rmF kd mn) (woF kd mn) (fun q => cc ((60 * j) + q)) a pu m_).2.1.2.1), .int ((dRun n (woF kd mn n - 1) (rmF kd mn) (woF kd mn) (fun q => cc ((60 * j) + q)) a pu m_).2.1.2.2), .int ((dRun n (woF kd mn n - 1) (rmF kd mn) (woF kd mn) (fun q => cc ((60 * j) + q)) a pu m_).2.2), .ref y5, .ref y6, .int (nI rc), .ref x0, .ref x1, .ref x2, .ref x3], ar E z0 4 so, ar E z1 4 sg, ar E z2 240 cc, ar E y0 6 kd, ar E y1 6 mn, ar E y2 6 (upd (fil (fil pu kp n) (dRun n (woF kd mn n - 1) (rmF kd mn) (woF kd mn) (fun q => cc (60 * j + q)) a pu m_).2.1.1 y) y ((fil pu kp n) y)), ar E y4 6 (fil pu kp n)] := hD
                                rw [show upd (fil (fil pu kp n) (dRun n (woF kd mn n - 1) (rmF kd mn) (woF kd mn) (fun q => cc (60 * j + q)) a pu m_).2.1.1 y) y ((fil pu kp n) y) = fil (fil pu kp n) (dRun n (woF kd mn n - 1) (rmF kd mn) (woF kd mn) (fun q => cc (60 * j + q)) a pu m_).2.1.1 (y + 1) from fil_s _ _ _] at hP hD
                                refine lv_iinc (v := nI (y + 1)) (lv' := [(10, .int (nI (y + 1))), (9, .int (tdF what n ((dRun n (woF kd mn n - 1) (rmF kd mn) (woF kd mn) (fun q => cc ((60 * j) + q)) a pu m_).2.1.1) (woF kd mn) ((dRun n (woF kd mn n - 1) (rmF kd mn) (woF kd mn) (fun q => cc ((60 * j) + q)) a pu m_).2.1.2.1) ((dRun n (woF kd mn n - 1) (rmF kd mn) (woF kd mn) (fun q => cc ((60 * j) + q)) a pu m_).2.1.2.2) ((dRun n (woF kd mn n - 1) (rmF kd mn) (woF kd mn) (fun q => cc ((60 * j) + q)) a pu m_).2.2))), (8, .int ((dRun n (woF kd mn n - 1) (rmF kd mn) (woF kd mn) (fun q => cc ((60 * j) + q)) a pu m_).1)), (7, .int (nI ((60 * j) + a))), (0, .ref m0), (4, .int (nI m_)), (5, .int what)]) hx hb dX7_day_232 hl (k := 0) rfl (nI_inc y) (by decide) rfl (fun ls hl => ?_)
                                refine lv_goto (tgt := 209) hx hb dX7_day_235 (by decide) ?_
                                exact ih209 (y + 1) (by omega) (by omega) _ _ hP hD hS ls (lv_sub hl [0, 1, 2, 3, 4, 5, 6] rfl)
                          exact L209 _ 0 (by omega) (Nat.lt_succ_self _) _ _ hP hD hS ls (lv_sub hl [0, 1, 2, 3, 4, 5, 6] rfl)
                        ·
                          refine lv_aload_n hx hb dX7_day_168 rfl (lv_at hl 2 rfl) ?_
                          refine va_get (D := E.1) (ci := 7) (v := .ref y4) (C := RX7) (T := TX7) (N := 23) hx hb hts hinX7 hown hK.1 hP 0 rfl rfl 12 (by decide) fl_31 (fun _ h9 => h9) rfl dX7_day_169 ?_
                          refine lv_iload hx hb dX7_day_172 (lv_at hl 0 rfl) ?_
                          refine lv_aload_n hx hb dX7_day_174 rfl (lv_at hl 2 rfl) ?_
                          refine va_get (D := E.1) (ci := 7) (v := .ref y2) (C := RX7) (T := TX7) (N := 23) hx hb hts hinX7 hown hK.1 hP 0 rfl rfl 8 (by decide) fl_25 (fun _ h9 => h9) rfl dX7_day_175 ?_
                          refine lv_iload hx hb dX7_day_178 (lv_at hl 0 rfl) ?_
                          refine ild hx hb hK hP 6 rfl (j := k) rfl (by omega) (by decide) dX7_day_180 ?_
                          refine ist hx hb hK hP hD hS 7 rfl (j := k) rfl (by omega) (by decide) dX7_day_181 (fun H locs hP hD hS => ?_)
                          have hP : va_P E.1 vwCl [ob m0 7 [.int 0, .int tr, .ref z0, .ref z1, .ref z2, .int (nI n), .ref y0, .ref y1, .ref y2, .int at_, .int rwi, .ref y3, .ref y4, .int sl, .int cr, .int gr, .ref y5, .ref y6, .int (nI rc), .ref x0, .ref x1, .ref x2, .ref x3], ar E z0 4 so, ar E z1 4 sg, ar E z2 240 cc, ar E y0 6 kd, ar E y1 6 mn, ar E y2 6 pu, ar E y4 6 (upd (fil pu kp k) k (pu k))] H := hP
                          have hD : va_D A [ob m0 7 [.int 0, .int tr, .ref z0, .ref z1, .ref z2, .int (nI n), .ref y0, .ref y1, .ref y2, .int at_, .int rwi, .ref y3, .ref y4, .int sl, .int cr, .int gr, .ref y5, .ref y6, .int (nI rc), .ref x0, .ref x1, .ref x2, .ref x3], ar E z0 4 so, ar E z1 4 sg, ar E z2 240 cc, ar E y0 6 kd, ar E y1 6 mn, ar E y2 6 pu, ar E y4 6 (upd (fil pu kp k) k (pu k))] := hD
                          rw [show upd (fil pu kp k) k (pu k) = fil pu kp (k + 1) from fil_s pu kp k] at hP hD
                          refine lv_iinc (v := nI (k + 1)) (lv' := [(8, .int (nI (k + 1))), (7, .int (nI ((60 * j) + a))), (0, .ref m0), (4, .int (nI m_)), (5, .int what)]) hx hb dX7_day_182 hl (k := 0) rfl (nI_inc k) (by decide) rfl (fun ls hl => ?_)
                          refine lv_goto (tgt := 159) hx hb dX7_day_185 (by decide) ?_
                          exact ih159 (k + 1) (by omega) (by omega) _ _ hP hD hS ls (lv_sub hl [0, 1, 2, 3, 4] rfl)
                    exact L159 _ 0 (by omega) (Nat.lt_succ_self _) _ _ hP hD hS ls (lv_sub hl [0, 1, 2, 6, 7] rfl)
                  ·
                    refine lv_aload_n hx hb dX7_day_110 rfl (lv_at hl 2 rfl) ?_
                    refine lv_aload_n hx hb dX7_day_111 rfl (lv_at hl 2 rfl) ?_
                    refine va_get (D := E.1) (ci := 7) (v := .ref z2) (C := RX7) (T := TX7) (N := 23) hx hb hts hinX7 hown hK.1 hP 0 rfl rfl 4 (by decide) fl_16 (fun _ h9 => h9) rfl dX7_day_112 ?_
                    refine lv_iload hx hb dX7_day_115 (lv_at hl 1 rfl) ?_
                    refine lv_iconst (v := 2) hx hb dX7_day_117 (by decide) ?_
                    refine lv_iload hx hb dX7_day_118 (lv_at hl 0 rfl) ?_
                    refine N_imul (a := 2) (b := z) hx hb rfl rfl dX7_day_120 ?_
                    refine N_iadd (a := (60 * j) + a) (b := 2 * z) hx hb rfl rfl dX7_day_121 ?_
                    refine ild hx hb hK hP 3 rfl (j := ((60 * j) + a) + (2 * z)) rfl (by omega) (by decide) dX7_day_122 ?_
                    rw [Nat.add_assoc (60 * j) a (2 * z)]
                    refine lv_aload_n hx hb dX7_day_123 rfl (lv_at hl 2 rfl) ?_
                    refine va_get (D := E.1) (ci := 7) (v := .ref z2) (C := RX7) (T := TX7) (N := 23) hx hb hts hinX7 hown hK.1 hP 0 rfl rfl 4 (by decide) fl_16 (fun _ h9 => h9) rfl dX7_day_124 ?_
                    refine lv_iload hx hb dX7_day_127 (lv_at hl 1 rfl) ?_
                    refine lv_iconst (v := 2) hx hb dX7_day_129 (by decide) ?_
                    refine lv_iload hx hb dX7_day_130 (lv_at hl 0 rfl) ?_
                    refine N_imul (a := 2) (b := z) hx hb rfl rfl dX7_day_132 ?_
                    refine N_iadd (a := (60 * j) + a) (b := 2 * z) hx hb rfl rfl dX7_day_133 ?_
                    refine lv_iconst (v := 1) hx hb dX7_day_134 (by decide) ?_
                    refine N_iadd (a := ((60 * j) + a) + (2 * z)) (b := 1) hx hb rfl rfl dX7_day_135 ?_
                    refine ild hx hb hK hP 3 rfl (j := (((60 * j) + a) + (2 * z)) + 1) rfl (by omega) (by decide) dX7_day_136 ?_
                    rw [show 60 * j + a + 2 * z + 1 = 60 * j + (a + 2 * z + 1) by omega]
                    refine crV (As := [.int (cc (60 * j + (a + 2 * z))), .int (cc (60 * j + (a + 2 * z + 1)))]) (rest := []) ⟨hx, hb, hml, hown, hts⟩ (c_X7_refusesPair l E m0 0 tr z0 z1 z2 n y0 y1 y2 at_ rwi y3 y4 sl cr gr y5 y6 rc x0 x1 x2 x3 (cc (60 * j + (a + 2 * z))) (cc (60 * j + (a + 2 * z + 1)))) (cwV 2 hts gX7_day_X7_refusesPair rfl rfl rfl (by decide +kernel) ⟨Nat.le_of_ble_eq_true rfl, Nat.le_of_ble_eq_true rfl⟩) hK hP [0] rfl 0 rfl rfl rfl rfl hl.1 rfl (catLe (Nat.le_of_ble_eq_true rfl)) dX7_day_137 ⟨Nat.zero_le _, Nat.zero_le _⟩ (fun r_20 hr_20 => ?_)
                    subst hr_20
                    refine lv_istore (lv' := [(9, .int (acF n (cc (60 * j + (a + 2 * z))) (cc (60 * j + (a + 2 * z + 1))))), (8, .int (nI z)), (7, .int (nI ((60 * j) + a))), (0, .ref m0), (1, .int (nI j)), (2, .int lane), (3, .int (nI a)), (4, .int (nI m_)), (5, .int what)]) hx hb dX7_day_140 hl (by decide) rfl (fun ls hl => ?_)
                    refine lv_iload hx hb dX7_day_142 (lv_at hl 0 rfl) ?_
                    refine lv_if_eq (tgt := 150) hx hb dX7_day_144 (by decide) (fun c_21 => ?_) (fun c_21 => ?_)
                    ·
                      refine lv_iinc (v := nI (z + 1)) (lv' := [(8, .int (nI (z + 1))), (9, .int (acF n (cc (60 * j + (a + 2 * z))) (cc (60 * j + (a + 2 * z + 1))))), (7, .int (nI ((60 * j) + a))), (0, .ref m0), (1, .int (nI j)), (2, .int lane), (3, .int (nI a)), (4, .int (nI m_)), (5, .int what)]) hx hb dX7_day_150 hl (k := 1) rfl (nI_inc z) (by decide) rfl (fun ls hl => ?_)
                      refine lv_goto (tgt := 103) hx hb dX7_day_153 (by decide) ?_
                      exact ih103 (z + 1) (by omega) (by rw [acR, if_pos hq]; exact c_21) (by omega) _ _ hP hD hS ls (lv_sub hl [0, 2, 3, 4, 5, 6, 7, 8] rfl)
                    ·
                      refine lv_iload hx hb dX7_day_147 (lv_at hl 0 rfl) ?_
                      exact hret _ _ _ _ _ (pu, kp, sl, cr, gr) dX7_day_149 hS (by rw [ha, eR]; exact hP) ⟨by rw [spDay, ha, eR, if_neg (not_not_intro rfl), if_neg (by omega), hixa, hixm, acR_hit hq rfl c_21 m_ (by omega), if_pos c_21], fun _ _ => rfl⟩
              exact L103 _ 0 (by omega) rfl (Nat.lt_succ_self _) _ _ hP hD hS ls (lv_sub hl [0, 1, 3, 4, 5, 6, 7, 8] rfl)
            ·
              refine lv_bipush (v := (-3)) hx hb dX7_day_89 (by decide) ?_
              exact hret _ _ _ _ _ (pu, kp, sl, cr, gr) dX7_day_91 hS (by rw [ha, eR]; exact hP) ⟨by rw [spDay, ha, eR, if_neg (not_not_intro rfl), if_pos (by omega)], fun _ _ => rfl⟩
          ·
            refine lv_aload_n hx hb dX7_day_75 rfl (lv_at hl 1 rfl) ?_
            refine lv_iload hx hb dX7_day_76 (lv_at hl 0 rfl) ?_
            refine cwVi (As := [.int (agF (so j) lane i (2 * x) ln)]) (rest := []) ⟨hx, hb, hml, hown, hts⟩ (c_X7_fails l E _ m0 0 tr z0 z1 z2 n y0 y1 y2 at_ rwi y3 y4 sl cr gr y5 y6 rc x0 x1 x2 x3 (agF (so j) lane i (2 * x) ln)) (cwV 1 hts gX7_day_X7_fails rfl rfl rfl (by decide +kernel) ⟨Nat.le_of_ble_eq_true rfl, Nat.le_of_ble_eq_true rfl⟩) hK hP hD hS hA [0] (by decide) rfl [m0] (fun _ => rfl) rfl 0 rfl rfl rfl rfl hl.1 rfl (catLe (Nat.le_of_ble_eq_true rfl)) dX7_day_78 ⟨Nat.zero_le _, Nat.zero_le _⟩ (fun r_22 u_23 H locs hwr_22 hP hD hS => ?_)
            have hP : va_P E.1 vwCl [ob m0 7 [.int (agF (so j) lane i (2 * x) ln), .int tr, .ref z0, .ref z1, .ref z2, .int (nI n), .ref y0, .ref y1, .ref y2, .int at_, .int rwi, .ref y3, .ref y4, .int sl, .int cr, .int gr, .ref y5, .ref y6, .int (nI rc), .ref x0, .ref x1, .ref x2, .ref x3], ar E z0 4 so, ar E z1 4 sg, ar E z2 240 cc, ar E y0 6 kd, ar E y1 6 mn, ar E y2 6 pu, ar E y4 6 kp] H := hP
            have hD : va_D A [ob m0 7 [.int (agF (so j) lane i (2 * x) ln), .int tr, .ref z0, .ref z1, .ref z2, .int (nI n), .ref y0, .ref y1, .ref y2, .int at_, .int rwi, .ref y3, .ref y4, .int sl, .int cr, .int gr, .ref y5, .ref y6, .int (nI rc), .ref x0, .ref x1, .ref x2, .ref x3], ar E z0 4 so, ar E z1 4 sg, ar E z2 240 cc, ar E y0 6 kd, ar E y1 6 mn, ar E y2 6 pu, ar E y4 6 kp] := hD
            subst hwr_22
            exact hret _ _ _ _ _ (pu, kp, sl, cr, gr) dX7_day_81 hS (by rw [ha, eR, if_neg c_10, flt_ag c_10]; exact hP) ⟨by rw [spDay, ha, eR, if_neg c_10, if_pos (agF_ne c_10)], fun _ _ => rfl⟩
        ·
          refine lv_iload hx hb dX7_day_42 (lv_at hl 5 rfl) ?_
          refine lv_bipush (v := 10) hx hb dX7_day_44 (by decide) ?_
          refine lv_bipush (v := 15) hx hb dX7_day_46 (by decide) ?_
          refine crS (As := [.int what, .int 10, .int 15]) (rest := []) ⟨hx, hb, hml, hown, hts⟩ (c_X7_within l E what 10 15) (va_cwS 3 hts gX7_day_X7_within rfl rfl rfl (by decide +kernel) ⟨Nat.le_of_ble_eq_true rfl, Nat.le_of_ble_eq_true rfl⟩) hK hP [] rfl rfl hl.1 rfl (catLe (Nat.le_of_ble_eq_true rfl)) dX7_day_48 ⟨Nat.zero_le _, Nat.zero_le _⟩ (fun r_24 hr_24 => ?_)
          subst hr_24
          refine ifB_ne (P := wiP what 10 15) (tgt := 57) hx hb dX7_day_51 (by decide) (fun c_25 => ?_) (fun c_25 => ?_)
          ·
            have hdy : dyP what := wi_dy.mp (Or.inr c_25)
            have ha : (if dyT x what then (1 : Int32) else 0) = 1 := if_pos ⟨c_6.1, Int32.not_lt.mp c_6.2, hdy⟩
            have eR := ag_rt (sheet := nI j) (i := i) (cells := 2 * x) (so := so j) (ln := ln) c_2 c_4
            refine lv_aload_n hx hb dX7_day_57 rfl (lv_at hl 0 rfl) ?_
            refine lv_iload_n hx hb dX7_day_58 rfl (lv_at hl 1 rfl) ?_
            refine lv_iload_n hx hb dX7_day_59 rfl (lv_at hl 2 rfl) ?_
            refine lv_iload_n hx hb dX7_day_60 rfl (lv_at hl 3 rfl) ?_
            refine lv_iconst (v := 2) hx hb dX7_day_61 (by decide) ?_
            refine lv_iload hx hb dX7_day_62 (lv_at hl 4 rfl) ?_
            refine lv_imul hx hb dX7_day_64 ?_
            refine crV (As := [.int (nI j), .int lane, .int i, .int (2 * x)]) (rest := []) ⟨hx, hb, hml, hown, hts⟩ (c_X7_against l E m0 0 tr z0 z1 z2 n y0 y1 y2 at_ rwi y3 y4 sl cr gr y5 y6 rc x0 x1 x2 x3 so sg j ln lane i (2 * x) (by first | assumption | omega) (by first | assumption | omega)) (cwV 4 hts gX7_day_X7_against rfl rfl rfl (by decide +kernel) ⟨Nat.le_of_ble_eq_true rfl, Nat.le_of_ble_eq_true rfl⟩) hK hP [0, 1, 2] rfl 0 rfl rfl rfl rfl hl.1 rfl (catLe (Nat.le_of_ble_eq_true rfl)) dX7_day_65 ⟨Nat.zero_le _, Nat.zero_le _⟩ (fun r_26 hr_26 => ?_)
            subst hr_26
            refine lv_istore (lv' := [(6, .int (agF (so j) lane i (2 * x) ln)), (0, .ref m0), (1, .int (nI j)), (2, .int lane), (3, .int i), (4, .int x), (5, .int what)]) hx hb dX7_day_68 hl (by decide) rfl (fun ls hl => ?_)
            refine lv_iload hx hb dX7_day_70 (lv_at hl 0 rfl) ?_
            refine lv_if_eq (tgt := 82) hx hb dX7_day_72 (by decide) (fun c_27 => ?_) (fun c_27 => ?_)
            ·
              rw [if_pos c_27] at eR
              have hz := rtK_0 eR
              obtain ⟨m_, hm, rfl⟩ := le_nat (n := 20) (M := 20) rfl c_6.1 (Int32.not_lt.mp c_6.2)
              obtain ⟨a, rfl, hab⟩ := reach2 (b := 2 * m_) (by have h := hz.2.2.2.2.2; rwa [show (2 : Int32) * nI m_ = nI (2 * m_) from pk_mul 2 m_] at h) h60 (by omega)
              have hixa : ix (nI a) = a := ix_nI (by omega)
              have hixm : ix (nI m_) = m_ := ix_nI (by omega)
              refine lv_aload_n hx hb dX7_day_82 rfl (lv_at hl 1 rfl) ?_
              refine va_get (D := E.1) (ci := 7) (v := .int (nI n)) (C := RX7) (T := TX7) (N := 23) hx hb hts hinX7 hown hK.1 hP 0 rfl rfl 5 (by decide) fl_62 (fun _ h9 => h9) rfl dX7_day_83 ?_
              refine ifN_ne (tgt := 92) (a := n) hx hb rfl (by omega) dX7_day_86 (by decide) (fun c_28 => ?_) (fun c_28 => ?_)
              ·
                refine lv_bipush (v := 60) hx hb dX7_day_92 (by decide) ?_
                refine lv_iload_n hx hb dX7_day_94 rfl (lv_at hl 2 rfl) ?_
                refine N_imul (a := 60) (b := j) hx hb rfl rfl dX7_day_95 ?_
                refine lv_iload_n hx hb dX7_day_96 rfl (lv_at hl 4 rfl) ?_
                refine N_iadd (a := 60 * j) (b := a) hx hb rfl rfl dX7_day_97 ?_
                refine lv_istore (lv' := [(7, .int (nI ((60 * j) + a))), (6, .int (agF (so j) lane (nI a) (2 * (nI m_)) ln)), (0, .ref m0), (1, .int (nI j)), (2, .int lane), (3, .int (nI a)), (4, .int (nI m_)), (5, .int what)]) hx hb dX7_day_98 hl (by decide) rfl (fun ls hl => ?_)
                refine lv_iconst (v := 0) hx hb dX7_day_100 (by decide) ?_
                refine lv_istore (lv' := [(8, .int 0), (7, .int (nI ((60 * j) + a))), (6, .int (agF (so j) lane (nI a) (2 * (nI m_)) ln)), (0, .ref m0), (1, .int (nI j)), (2, .int lane), (3, .int (nI a)), (4, .int (nI m_)), (5, .int what)]) hx hb dX7_day_101 hl (by decide) rfl (fun ls hl => ?_)
                have L103 : ∀ (fuel : Nat) (z : Nat), (z ≤ m_) → (acR (fun q => cc (60 * j + q)) a n z = 0) → (m_ - z) < fuel → ∀ (H : Heap) (locs : List Loc), va_P E.1 vwCl [ob m0 7 [.int 0, .int tr, .ref z0, .ref z1, .ref z2, .int (nI n), .ref y0, .ref y1, .ref y2, .int at_, .int rwi, .ref y3, .ref y4, .int sl, .int cr, .int gr, .ref y5, .ref y6, .int (nI rc), .ref x0, .ref x1, .ref x2, .ref x3], ar E z0 4 so, ar E z1 4 sg, ar E z2 240 cc, ar E y0 6 kd, ar E y1 6 mn, ar E y2 6 pu, ar E y4 6 kp] H → va_D A [ob m0 7 [.int 0, .int tr, .ref z0, .ref z1, .ref z2, .int (nI n), .ref y0, .ref y1, .ref y2, .int at_, .int rwi, .ref y3, .ref y4, .int sl, .int cr, .int gr, .ref y5, .ref y6, .int (nI rc), .ref x0, .ref x1, .ref x2, .ref x3], ar E z0 4 so, ar E z1 4 sg, ar E z2 240 cc, ar E y0 6 kd, ar E y1 6 mn, ar E y2 6 pu, ar E y4 6 kp] → va_S A s.heap H locs → ∀ ls : Array Slot, lv_has ls 11 [(8, .int (nI z)), (7, .int (nI ((60 * j) + a))), (0, .ref m0), (1, .int (nI j)), (2, .int lane), (3, .int (nI a)), (4, .int (nI m_)), (5, .int what)] → W p l e ({ frames := 7, cells := 0, slots := 0, locals := 159 }) s m args below meth c H locs 0 0 QQ (F0 m 103 ls []) := by
                  intro fuel
                  induction fuel with
                  | zero => intro z hz_ hq hf; exact absurd hf (Nat.not_lt_zero _)
                  | succ fuel ih103 =>
                    intro z hz_ hq hf103 H locs hP hD hS ls hl
                    refine lv_iload hx hb dX7_day_103 (lv_at hl 0 rfl) ?_
                    refine lv_iload hx hb dX7_day_105 (lv_at hl 6 rfl) ?_
                    refine icmpN_ge (tgt := 156) (a := z) (b := m_) hx hb rfl rfl (by omega) (by omega) dX7_day_107 (by decide) (fun c_29 => ?_) (fun c_29 => ?_)
                    ·
                      obtain rfl : m_ = z := by omega
                      refine lv_iconst (v := 0) hx hb dX7_day_156 (by decide) ?_
                      refine lv_istore (lv' := [(8, .int 0), (7, .int (nI ((60 * j) + a))), (0, .ref m0), (1, .int (nI j)), (2, .int lane), (3, .int (nI a)), (4, .int (nI m_)), (5, .int what)]) hx hb dX7_day_157 hl (by decide) rfl (fun ls hl => ?_)
                      rw [← fil_0 pu kp] at hP hD
                      have L159 : ∀ (fuel : Nat) (k : Nat), (k ≤ n) → (n - k) < fuel → ∀ (H : Heap) (locs : List Loc), va_P E.1 vwCl [ob m0 7 [.int 0, .int tr, .ref z0, .ref z1, .ref z2, .int (nI n), .ref y0, .ref y1, .ref y2, .int at_, .int rwi, .ref y3, .ref y4, .int sl, .int cr, .int gr, .ref y5, .ref y6, .int (nI rc), .ref x0, .ref x1, .ref x2, .ref x3], ar E z0 4 so, ar E z1 4 sg, ar E z2 240 cc, ar E y0 6 kd, ar E y1 6 mn, ar E y2 6 pu, ar E y4 6 (fil pu kp k)] H → va_D A [ob m0 7 [.int 0, .int tr, .ref z0, .ref z1, .ref z2, .int (nI n), .ref y0, .ref y1, .ref y2, .int at_, .int rwi, .ref y3, .ref y4, .int sl, .int cr, .int gr, .ref y5, .ref y6, .int (nI rc), .ref x0, .ref x1, .ref x2, .ref x3], ar E z0 4 so, ar E z1 4 sg, ar E z2 240 cc, ar E y0 6 kd, ar E y1 6 mn, ar E y2 6 pu, ar E y4 6 (fil pu kp k)] → va_S A s.heap H locs → ∀ ls : Array Slot, lv_has ls 11 [(8, .int (nI k)), (7, .int (nI ((60 * j) + a))), (0, .ref m0), (4, .int (nI m_)), (5, .int what)] → W p l e ({ frames := 7, cells := 0, slots := 0, locals := 159 }) s m args below meth c H locs 0 0 QQ (F0 m 159 ls []) := by
                        intro fuel
                        induction fuel with
                        | zero => intro k hk hf; exact absurd hf (Nat.not_lt_zero _)
                        | succ fuel ih159 =>
                          intro k hk hf159 H locs hP hD hS ls hl
                          refine lv_iload hx hb dX7_day_159 (lv_at hl 0 rfl) ?_
                          refine lv_aload_n hx hb dX7_day_161 rfl (lv_at hl 2 rfl) ?_
                          refine va_get (D := E.1) (ci := 7) (v := .int (nI n)) (C := RX7) (T := TX7) (N := 23) hx hb hts hinX7 hown hK.1 hP 0 rfl rfl 5 (by decide) fl_62 (fun _ h9 => h9) rfl dX7_day_162 ?_
                          refine icmpN_ge (tgt := 188) (a := k) (b := n) hx hb rfl rfl (by omega) (by omega) dX7_day_165 (by decide) (fun c_30 => ?_) (fun c_30 => ?_)
                          ·
                            obtain rfl : n = k := by omega
                            refine lv_aload_n hx hb dX7_day_188 rfl (lv_at hl 2 rfl) ?_
                            refine lv_iload hx hb dX7_day_189 (lv_at hl 1 rfl) ?_
                            refine lv_iload hx hb dX7_day_191 (lv_at hl 3 rfl) ?_
                            refine cwVi (As := [.int (nI ((60 * j) + a)), .int (nI m_)]) (rest := []) ⟨hx, hb, hml, hown, hts⟩ (c_X7_goDay l E _ m0 0 tr z0 z1 z2 n y0 y1 y2 at_ rwi y3 y4 sl cr gr y5 y6 rc x0 x1 x2 x3 kd mn pu cc (60 * j) a m_ (by first | assumption | omega) (by omega) (by first | assumption | omega) (fun k hk => acR_all hq k hk) (by omega)) (cwV 2 hts gX7_day_X7_goDay rfl rfl rfl (by decide +kernel) ⟨Nat.le_of_ble_eq_true rfl, Nat.le_of_ble_eq_true rfl⟩) hK hP hD hS hA [0, 4, 5, 6, 3] (by decide) rfl [m0, y0, y1, y2, z2] (fun _ => rfl) rfl 0 rfl rfl rfl rfl hl.1 rfl (catLe (Nat.le_of_ble_eq_true rfl)) dX7_day_193 ⟨Nat.zero_le _, Nat.zero_le _⟩ (fun r_31 u_32 H locs hwr_31 hP hD hS => ?_)
                            have hP : va_P E.1 vwCl [ob m0 7 [.int 0, .int tr, .ref z0, .ref z1, .ref z2, .int (nI n), .ref y0, .ref y1, .ref y2, .int at_, .int rwi, .ref y3, .ref y4, .int ((dRun n (woF kd mn n - 1) (rmF kd mn) (woF kd mn) (fun q => cc ((60 * j) + q)) a pu m_).2.1.2.1), .int ((dRun n (woF kd mn n - 1) (rmF kd mn) (woF kd mn) (fun q => cc ((60 * j) + q)) a pu m_).2.1.2.2), .int ((dRun n (woF kd mn n - 1) (rmF kd mn) (woF kd mn) (fun q => cc ((60 * j) + q)) a pu m_).2.2), .ref y5, .ref y6, .int (nI rc), .ref x0, .ref x1, .ref x2, .ref x3], ar E z0 4 so, ar E z1 4 sg, ar E z2 240 cc, ar E y0 6 kd, ar E y1 6 mn, ar E y2 6 ((dRun n (woF kd mn n - 1) (rmF kd mn) (woF kd mn) (fun q => cc ((60 * j) + q)) a pu m_).2.1.1), ar E y4 6 (fil pu kp n)] H := hP
                            have hD : va_D A [ob m0 7 [.int 0, .int tr, .ref z0, .ref z1, .ref z2, .int (nI n), .ref y0, .ref y1, .ref y2, .int at_, .int rwi, .ref y3, .ref y4, .int ((dRun n (woF kd mn n - 1) (rmF kd mn) (woF kd mn) (fun q => cc ((60 * j) + q)) a pu m_).2.1.2.1), .int ((dRun n (woF kd mn n - 1) (rmF kd mn) (woF kd mn) (fun q => cc ((60 * j) + q)) a pu m_).2.1.2.2), .int ((dRun n (woF kd mn n - 1) (rmF kd mn) (woF kd mn) (fun q => cc ((60 * j) + q)) a pu m_).2.2), .ref y5, .ref y6, .int (nI rc), .ref x0, .ref x1, .ref x2, .ref x3], ar E z0 4 so, ar E z1 4 sg, ar E z2 240 cc, ar E y0 6 kd, ar E y1 6 mn, ar E y2 6 ((dRun n (woF kd mn n - 1) (rmF kd mn) (woF kd mn) (fun q => cc ((60 * j) + q)) a pu m_).2.1.1), ar E y4 6 (fil pu kp n)] := hD
                            subst hwr_31
                            refine lv_istore (lv' := [(8, .int ((dRun n (woF kd mn n - 1) (rmF kd mn) (woF kd mn) (fun q => cc ((60 * j) + q)) a pu m_).1)), (7, .int (nI ((60 * j) + a))), (0, .ref m0), (4, .int (nI m_)), (5, .int what)]) hx hb dX7_day_196 hl (by decide) rfl (fun ls hl => ?_)
                            refine lv_aload_n hx hb dX7_day_198 rfl (lv_at hl 2 rfl) ?_
                            refine lv_iload hx hb dX7_day_199 (lv_at hl 4 rfl) ?_
                            refine crV (As := [.int what]) (rest := []) ⟨hx, hb, hml, hown, hts⟩ (c_X7_tellDay l E m0 0 tr z0 z1 z2 n y0 y1 y2 at_ rwi y3 y4 ((dRun n (woF kd mn n - 1) (rmF kd mn) (woF kd mn) (fun q => cc ((60 * j) + q)) a pu m_).2.1.2.1) ((dRun n (woF kd mn n - 1) (rmF kd mn) (woF kd mn) (fun q => cc ((60 * j) + q)) a pu m_).2.1.2.2) ((dRun n (woF kd mn n - 1) (rmF kd mn) (woF kd mn) (fun q => cc ((60 * j) + q)) a pu m_).2.2) y5 y6 rc x0 x1 x2 x3 kd mn ((dRun n (woF kd mn n - 1) (rmF kd mn) (woF kd mn) (fun q => cc ((60 * j) + q)) a pu m_).2.1.1) what (by first | assumption | omega)) (cwV 1 hts gX7_day_X7_tellDay rfl rfl rfl (by decide +kernel) ⟨Nat.le_of_ble_eq_true rfl, Nat.le_of_ble_eq_true rfl⟩) hK hP [0, 4, 5, 6] rfl 0 rfl rfl rfl rfl hl.1 rfl (catLe (Nat.le_of_ble_eq_true rfl)) dX7_day_201 ⟨Nat.zero_le _, Nat.zero_le _⟩ (fun r_33 hr_33 => ?_)
                            subst hr_33
                            refine lv_istore (lv' := [(9, .int (tdF what n ((dRun n (woF kd mn n - 1) (rmF kd mn) (woF kd mn) (fun q => cc ((60 * j) + q)) a pu m_).2.1.1) (woF kd mn) ((dRun n (woF kd mn n - 1) (rmF kd mn) (woF kd mn) (fun q => cc ((60 * j) + q)) a pu m_).2.1.2.1) ((dRun n (woF kd mn n - 1) (rmF kd mn) (woF kd mn) (fun q => cc ((60 * j) + q)) a pu m_).2.1.2.2) ((dRun n (woF kd mn n - 1) (rmF kd mn) (woF kd mn) (fun q => cc ((60 * j) + q)) a pu m_).2.2))), (8, .int ((dRun n (woF kd mn n - 1) (rmF kd mn) (woF kd mn) (fun q => cc ((60 * j) + q)) a pu m_).1)), (7, .int (nI ((60 * j) + a))), (0, .ref m0), (4, .int (nI m_)), (5, .int what)]) hx hb dX7_day_204 hl (by decide) rfl (fun ls hl => ?_)
                            refine lv_iconst (v := 0) hx hb dX7_day_206 (by decide) ?_
                            refine lv_istore (lv' := [(10, .int 0), (9, .int (tdF what n ((dRun n (woF kd mn n - 1) (rmF kd mn) (woF kd mn) (fun q => cc ((60 * j) + q)) a pu m_).2.1.1) (woF kd mn) ((dRun n (woF kd mn n - 1) (rmF kd mn) (woF kd mn) (fun q => cc ((60 * j) + q)) a pu m_).2.1.2.1) ((dRun n (woF kd mn n - 1) (rmF kd mn) (woF kd mn) (fun q => cc ((60 * j) + q)) a pu m_).2.1.2.2) ((dRun n (woF kd mn n - 1) (rmF kd mn) (woF kd mn) (fun q => cc ((60 * j) + q)) a pu m_).2.2))), (8, .int ((dRun n (woF kd mn n - 1) (rmF kd mn) (woF kd mn) (fun q => cc ((60 * j) + q)) a pu m_).1)), (7, .int (nI ((60 * j) + a))), (0, .ref m0), (4, .int (nI m_)), (5, .int what)]) hx hb dX7_day_207 hl (by decide) rfl (fun ls hl => ?_)
                            rw [← fil_0 (fil pu kp n) (dRun n (woF kd mn n - 1) (rmF kd mn) (woF kd mn) (fun q => cc (60 * j + q)) a pu m_).2.1.1] at hP hD
                            have L209 : ∀ (fuel : Nat) (y : Nat), (y ≤ n) → (n - y) < fuel → ∀ (H : Heap) (locs : List Loc), va_P E.1 vwCl [ob m0 7 [.int 0, .int tr, .ref z0, .ref z1, .ref z2, .int (nI n), .ref y0, .ref y1, .ref y2, .int at_, .int rwi, .ref y3, .ref y4, .int ((dRun n (woF kd mn n - 1) (rmF kd mn) (woF kd mn) (fun q => cc ((60 * j) + q)) a pu m_).2.1.2.1), .int ((dRun n (woF kd mn n - 1) (rmF kd mn) (woF kd mn) (fun q => cc ((60 * j) + q)) a pu m_).2.1.2.2), .int ((dRun n (woF kd mn n - 1) (rmF kd mn) (woF kd mn) (fun q => cc ((60 * j) + q)) a pu m_).2.2), .ref y5, .ref y6, .int (nI rc), .ref x0, .ref x1, .ref x2, .ref x3], ar E z0 4 so, ar E z1 4 sg, ar E z2 240 cc, ar E y0 6 kd, ar E y1 6 mn, ar E y2 6 (fil (fil pu kp n) (dRun n (woF kd mn n - 1) (rmF kd mn) (woF kd mn) (fun q => cc (60 * j + q)) a pu m_).2.1.1 y), ar E y4 6 (fil pu kp n)] H → va_D A [ob m0 7 [.int 0, .int tr, .ref z0, .ref z1, .ref z2, .int (nI n), .ref y0, .ref y1, .ref y2, .int at_, .int rwi, .ref y3, .ref y4, .int ((dRun n (woF kd mn n - 1) (rmF kd mn) (woF kd mn) (fun q => cc ((60 * j) + q)) a pu m_).2.1.2.1), .int ((dRun n (woF kd mn n - 1) (rmF kd mn) (woF kd mn) (fun q => cc ((60 * j) + q)) a pu m_).2.1.2.2), .int ((dRun n (woF kd mn n - 1) (rmF kd mn) (woF kd mn) (fun q => cc ((60 * j) + q)) a pu m_).2.2), .ref y5, .ref y6, .int (nI rc), .ref x0, .ref x1, .ref x2, .ref x3], ar E z0 4 so, ar E z1 4 sg, ar E z2 240 cc, ar E y0 6 kd, ar E y1 6 mn, ar E y2 6 (fil (fil pu kp n) (dRun n (woF kd mn n - 1) (rmF kd mn) (woF kd mn) (fun q => cc (60 * j + q)) a pu m_).2.1.1 y), ar E y4 6 (fil pu kp n)] → va_S A s.heap H locs → ∀ ls : Array Slot, lv_has ls 11 [(10, .int (nI y)), (9, .int (tdF what n ((dRun n (woF kd mn n - 1) (rmF kd mn) (woF kd mn) (fun q => cc ((60 * j) + q)) a pu m_).2.1.1) (woF kd mn) ((dRun n (woF kd mn n - 1) (rmF kd mn) (woF kd mn) (fun q => cc ((60 * j) + q)) a pu m_).2.1.2.1) ((dRun n (woF kd mn n - 1) (rmF kd mn) (woF kd mn) (fun q => cc ((60 * j) + q)) a pu m_).2.1.2.2) ((dRun n (woF kd mn n - 1) (rmF kd mn) (woF kd mn) (fun q => cc ((60 * j) + q)) a pu m_).2.2))), (8, .int ((dRun n (woF kd mn n - 1) (rmF kd mn) (woF kd mn) (fun q => cc ((60 * j) + q)) a pu m_).1)), (7, .int (nI ((60 * j) + a))), (0, .ref m0), (4, .int (nI m_)), (5, .int what)] → W p l e ({ frames := 7, cells := 0, slots := 0, locals := 159 }) s m args below meth c H locs 0 0 QQ (F0 m 209 ls []) := by
                              intro fuel
                              induction fuel with
                              | zero => intro y hy hf; exact absurd hf (Nat.not_lt_zero _)
                              | succ fuel ih209 =>
                                intro y hy hf209 H locs hP hD hS ls hl
                                refine lv_iload hx hb dX7_day_209 (lv_at hl 0 rfl) ?_
                                refine lv_aload_n hx hb dX7_day_211 rfl (lv_at hl 4 rfl) ?_
                                refine va_get (D := E.1) (ci := 7) (v := .int (nI n)) (C := RX7) (T := TX7) (N := 23) hx hb hts hinX7 hown hK.1 hP 0 rfl rfl 5 (by decide) fl_62 (fun _ h9 => h9) rfl dX7_day_212 ?_
                                refine icmpN_ge (tgt := 238) (a := y) (b := n) hx hb rfl rfl (by omega) (by omega) dX7_day_215 (by decide) (fun c_34 => ?_) (fun c_34 => ?_)
                                ·
                                  obtain rfl : n = y := by omega
                                  refine lv_iload hx hb dX7_day_238 (lv_at hl 6 rfl) ?_
                                  refine lv_iconst (v := 1) hx hb dX7_day_240 (by decide) ?_
                                  refine lv_icmp_ne (tgt := 249) hx hb dX7_day_241 (by decide) (fun c_35 => ?_) (fun c_35 => ?_)
                                  ·
                                    refine lv_iload hx hb dX7_day_249 (lv_at hl 2 rfl) ?_
                                    refine lv_bipush (v := (-9)) hx hb dX7_day_251 (by decide) ?_
                                    refine lv_icmp_ne (tgt := 261) hx hb dX7_day_253 (by decide) (fun c_36 => ?_) (fun c_36 => ?_)
                                    ·
                                      refine lv_bipush (v := (-100)) hx hb dX7_day_261 (by decide) ?_
                                      refine lv_iload hx hb dX7_day_263 (lv_at hl 2 rfl) ?_
                                      refine lv_isub hx hb dX7_day_265 ?_
                                      exact hret _ _ _ _ _ (fil (fil pu kp n) (dRun n (woF kd mn n - 1) (rmF kd mn) (woF kd mn) (fun q => cc (60 * j + q)) a pu m_).2.1.1 n, fil pu kp n, (dRun n (woF kd mn n - 1) (rmF kd mn) (woF kd mn) (fun q => cc ((60 * j) + q)) a pu m_).2.1.2.1, (dRun n (woF kd mn n - 1) (rmF kd mn) (woF kd mn) (fun q => cc ((60 * j) + q)) a pu m_).2.1.2.2, (dRun n (woF kd mn n - 1) (rmF kd mn) (woF kd mn) (fun q => cc ((60 * j) + q)) a pu m_).2.2) dX7_day_266 hS (by rw [ha, eR]; exact hP) ⟨by rw [spDay, ha, eR, if_neg (not_not_intro rfl), if_neg (by omega), hixa, hixm, if_neg (not_not_intro hq), ← tdF_ofD hdy, if_neg c_35, if_neg c_36], fun w hw => (fil_in hw).trans (fil_in hw)⟩
                                    ·
                                      refine lv_iload hx hb dX7_day_256 (lv_at hl 1 rfl) ?_
                                      refine lv_goto (tgt := 266) hx hb dX7_day_258 (by decide) ?_
                                      exact hret _ _ _ _ _ (fil (fil pu kp n) (dRun n (woF kd mn n - 1) (rmF kd mn) (woF kd mn) (fun q => cc (60 * j + q)) a pu m_).2.1.1 n, fil pu kp n, (dRun n (woF kd mn n - 1) (rmF kd mn) (woF kd mn) (fun q => cc ((60 * j) + q)) a pu m_).2.1.2.1, (dRun n (woF kd mn n - 1) (rmF kd mn) (woF kd mn) (fun q => cc ((60 * j) + q)) a pu m_).2.1.2.2, (dRun n (woF kd mn n - 1) (rmF kd mn) (woF kd mn) (fun q => cc ((60 * j) + q)) a pu m_).2.2) dX7_day_266 hS (by rw [ha, eR]; exact hP) ⟨by rw [spDay, ha, eR, if_neg (not_not_intro rfl), if_neg (by omega), hixa, hixm, if_neg (not_not_intro hq), ← tdF_ofD hdy, if_neg c_35, if_pos c_36], fun w hw => (fil_in hw).trans (fil_in hw)⟩
                                  ·
                                    refine lv_iload hx hb dX7_day_244 (lv_at hl 2 rfl) ?_
                                    refine lv_goto (tgt := 266) hx hb dX7_day_246 (by decide) ?_
                                    exact hret _ _ _ _ _ (fil (fil pu kp n) (dRun n (woF kd mn n - 1) (rmF kd mn) (woF kd mn) (fun q => cc (60 * j + q)) a pu m_).2.1.1 n, fil pu kp n, (dRun n (woF kd mn n - 1) (rmF kd mn) (woF kd mn) (fun q => cc ((60 * j) + q)) a pu m_).2.1.2.1, (dRun n (woF kd mn n - 1) (rmF kd mn) (woF kd mn) (fun q => cc ((60 * j) + q)) a pu m_).2.1.2.2, (dRun n (woF kd mn n - 1) (rmF kd mn) (woF kd mn) (fun q => cc ((60 * j) + q)) a pu m_).2.2) dX7_day_266 hS (by rw [ha, eR]; exact hP) ⟨by rw [spDay, ha, eR, if_neg (not_not_intro rfl), if_neg (by omega), hixa, hixm, if_neg (not_not_intro hq), ← tdF_ofD hdy, if_pos c_35], fun w hw => (fil_in hw).trans (fil_in hw)⟩
                                ·
                                  refine lv_aload_n hx hb dX7_day_218 rfl (lv_at hl 4 rfl) ?_
                                  refine va_get (D := E.1) (ci := 7) (v := .ref y2) (C := RX7) (T := TX7) (N := 23) hx hb hts hinX7 hown hK.1 hP 0 rfl rfl 8 (by decide) fl_25 (fun _ h9 => h9) rfl dX7_day_219 ?_
                                  refine lv_iload hx hb dX7_day_222 (lv_at hl 0 rfl) ?_
                                  refine lv_aload_n hx hb dX7_day_224 rfl (lv_at hl 4 rfl) ?_
                                  refine va_get (D := E.1) (ci := 7) (v := .ref y4) (C := RX7) (T := TX7) (N := 23) hx hb hts hinX7 hown hK.1 hP 0 rfl rfl 12 (by decide) fl_31 (fun _ h9 => h9) rfl dX7_day_225 ?_
                                  refine lv_iload hx hb dX7_day_228 (lv_at hl 0 rfl) ?_
                                  refine ild hx hb hK hP 7 rfl (j := y) rfl (by omega) (by decide) dX7_day_230 ?_
                                  refine ist hx hb hK hP hD hS 6 rfl (j := y) rfl (by omega) (by decide) dX7_day_231 (fun H locs hP hD hS => ?_)
                                  have hP : va_P E.1 vwCl [ob m0 7 [.int 0, .int tr, .ref z0, .ref z1, .ref z2, .int (nI n), .ref y0, .ref y1, .ref y2, .int at_, .int rwi, .ref y3, .ref y4, .int ((dRun n (woF kd mn n - 1) (rmF kd mn) (woF kd mn) (fun q => cc ((60 * j) + q)) a pu m_).2.1.2.1), .int ((dRun n (woF kd mn n - 1) (rmF kd mn) (woF kd mn) (fun q => cc ((60 * j) + q)) a pu m_).2.1.2.2), .int ((dRun n (woF kd mn n - 1) (rmF kd mn) (woF kd mn) (fun q => cc ((60 * j) + q)) a pu m_).2.2), .ref y5, .ref y6, .int (nI rc), .ref x0, .ref x1, .ref x2, .ref x3], ar E z0 4 so, ar E z1 4 sg, ar E z2 240 cc, ar E y0 6 kd, ar E y1 6 mn, ar E y2 6 (upd (fil (fil pu kp n) (dRun n (woF kd mn n - 1) (rmF kd mn) (woF kd mn) (fun q => cc (60 * j + q)) a pu m_).2.1.1 y) y ((fil pu kp n) y)), ar E y4 6 (fil pu kp n)] H := hP
                                  have hD : va_D A [ob m0 7 [.int 0, .int tr, .ref z0, .ref z1, .ref z2, .int (nI n), .ref y0, .ref y1, .ref y2, .int at_, .int rwi, .ref y3, .ref y4, .int ((dRun n (woF kd mn n - 1) (rmF kd mn) (woF kd mn) (fun q => cc ((60 * j) + q)) a pu m_).2.1.2.1), .int ((dRun n (woF kd mn n - 1) (rmF kd mn) (woF kd mn) (fun q => cc ((60 * j) + q)) a pu m_).2.1.2.2), .int ((dRun n (woF kd mn n - 1) (rmF kd mn) (woF kd mn) (fun q => cc ((60 * j) + q)) a pu m_).2.2), .ref y5, .ref y6, .int (nI rc), .ref x0, .ref x1, .ref x2, .ref x3], ar E z0 4 so, ar E z1 4 sg, ar E z2 240 cc, ar E y0 6 kd, ar E y1 6 mn, ar E y2 6 (upd (fil (fil pu kp n) (dRun n (woF kd mn n - 1) (rmF kd mn) (woF kd mn) (fun q => cc (60 * j + q)) a pu m_).2.1.1 y) y ((fil pu kp n) y)), ar E y4 6 (fil pu kp n)] := hD
                                  rw [show upd (fil (fil pu kp n) (dRun n (woF kd mn n - 1) (rmF kd mn) (woF kd mn) (fun q => cc (60 * j + q)) a pu m_).2.1.1 y) y ((fil pu kp n) y) = fil (fil pu kp n) (dRun n (woF kd mn n - 1) (rmF kd mn) (woF kd mn) (fun q => cc (60 * j + q)) a pu m_).2.1.1 (y + 1) from fil_s _ _ _] at hP hD
                                  refine lv_iinc (v := nI (y + 1)) (lv' := [(10, .int (nI (y + 1))), (9, .int (tdF what n ((dRun n (woF kd mn n - 1) (rmF kd mn) (woF kd mn) (fun q => cc ((60 * j) + q)) a pu m_).2.1.1) (woF kd mn) ((dRun n (woF kd mn n - 1) (rmF kd mn) (woF kd mn) (fun q => cc ((60 * j) + q)) a pu m_).2.1.2.1) ((dRun n (woF kd mn n - 1) (rmF kd mn) (woF kd mn) (fun q => cc ((60 * j) + q)) a pu m_).2.1.2.2) ((dRun n (woF kd mn n - 1) (rmF kd mn) (woF kd mn) (fun q => cc ((60 * j) + q)) a pu m_).2.2))), (8, .int ((dRun n (woF kd mn n - 1) (rmF kd mn) (woF kd mn) (fun q => cc ((60 * j) + q)) a pu m_).1)), (7, .int (nI ((60 * j) + a))), (0, .ref m0), (4, .int (nI m_)), (5, .int what)]) hx hb dX7_day_232 hl (k := 0) rfl (nI_inc y) (by decide) rfl (fun ls hl => ?_)
                                  refine lv_goto (tgt := 209) hx hb dX7_day_235 (by decide) ?_
                                  exact ih209 (y + 1) (by omega) (by omega) _ _ hP hD hS ls (lv_sub hl [0, 1, 2, 3, 4, 5, 6] rfl)
                            exact L209 _ 0 (by omega) (Nat.lt_succ_self _) _ _ hP hD hS ls (lv_sub hl [0, 1, 2, 3, 4, 5, 6] rfl)
                          ·
                            refine lv_aload_n hx hb dX7_day_168 rfl (lv_at hl 2 rfl) ?_
                            refine va_get (D := E.1) (ci := 7) (v := .ref y4) (C := RX7) (T := TX7) (N := 23) hx hb hts hinX7 hown hK.1 hP 0 rfl rfl 12 (by decide) fl_31 (fun _ h9 => h9) rfl dX7_day_169 ?_
                            refine lv_iload hx hb dX7_day_172 (lv_at hl 0 rfl) ?_
                            refine lv_aload_n hx hb dX7_day_174 rfl (lv_at hl 2 rfl) ?_
                            refine va_get (D := E.1) (ci := 7) (v := .ref y2) (C := RX7) (T := TX7) (N := 23) hx hb hts hinX7 hown hK.1 hP 0 rfl rfl 8 (by decide) fl_25 (fun _ h9 => h9) rfl dX7_day_175 ?_
                            refine lv_iload hx hb dX7_day_178 (lv_at hl 0 rfl) ?_
                            refine ild hx hb hK hP 6 rfl (j := k) rfl (by omega) (by decide) dX7_day_180 ?_
                            refine ist hx hb hK hP hD hS 7 rfl (j := k) rfl (by omega) (by decide) dX7_day_181 (fun H locs hP hD hS => ?_)
                            have hP : va_P E.1 vwCl [ob m0 7 [.int 0, .int tr, .ref z0, .ref z1, .ref z2, .int (nI n), .ref y0, .ref y1, .ref y2, .int at_, .int rwi, .ref y3, .ref y4, .int sl, .int cr, .int gr, .ref y5, .ref y6, .int (nI rc), .ref x0, .ref x1, .ref x2, .ref x3], ar E z0 4 so, ar E z1 4 sg, ar E z2 240 cc, ar E y0 6 kd, ar E y1 6 mn, ar E y2 6 pu, ar E y4 6 (upd (fil pu kp k) k (pu k))] H := hP
                            have hD : va_D A [ob m0 7 [.int 0, .int tr, .ref z0, .ref z1, .ref z2, .int (nI n), .ref y0, .ref y1, .ref y2, .int at_, .int rwi, .ref y3, .ref y4, .int sl, .int cr, .int gr, .ref y5, .ref y6, .int (nI rc), .ref x0, .ref x1, .ref x2, .ref x3], ar E z0 4 so, ar E z1 4 sg, ar E z2 240 cc, ar E y0 6 kd, ar E y1 6 mn, ar E y2 6 pu, ar E y4 6 (upd (fil pu kp k) k (pu k))] := hD
                            rw [show upd (fil pu kp k) k (pu k) = fil pu kp (k + 1) from fil_s pu kp k] at hP hD
                            refine lv_iinc (v := nI (k + 1)) (lv' := [(8, .int (nI (k + 1))), (7, .int (nI ((60 * j) + a))), (0, .ref m0), (4, .int (nI m_)), (5, .int what)]) hx hb dX7_day_182 hl (k := 0) rfl (nI_inc k) (by decide) rfl (fun ls hl => ?_)
                            refine lv_goto (tgt := 159) hx hb dX7_day_185 (by decide) ?_
                            exact ih159 (k + 1) (by omega) (by omega) _ _ hP hD hS ls (lv_sub hl [0, 1, 2, 3, 4] rfl)
                      exact L159 _ 0 (by omega) (Nat.lt_succ_self _) _ _ hP hD hS ls (lv_sub hl [0, 1, 2, 6, 7] rfl)
                    ·
                      refine lv_aload_n hx hb dX7_day_110 rfl (lv_at hl 2 rfl) ?_
                      refine lv_aload_n hx hb dX7_day_111 rfl (lv_at hl 2 rfl) ?_
                      refine va_get (D := E.1) (ci := 7) (v := .ref z2) (C := RX7) (T := TX7) (N := 23) hx hb hts hinX7 hown hK.1 hP 0 rfl rfl 4 (by decide) fl_16 (fun _ h9 => h9) rfl dX7_day_112 ?_
                      refine lv_iload hx hb dX7_day_115 (lv_at hl 1 rfl) ?_
                      refine lv_iconst (v := 2) hx hb dX7_day_117 (by decide) ?_
                      refine lv_iload hx hb dX7_day_118 (lv_at hl 0 rfl) ?_
                      refine N_imul (a := 2) (b := z) hx hb rfl rfl dX7_day_120 ?_
                      refine N_iadd (a := (60 * j) + a) (b := 2 * z) hx hb rfl rfl dX7_day_121 ?_
                      refine ild hx hb hK hP 3 rfl (j := ((60 * j) + a) + (2 * z)) rfl (by omega) (by decide) dX7_day_122 ?_
                      rw [Nat.add_assoc (60 * j) a (2 * z)]
                      refine lv_aload_n hx hb dX7_day_123 rfl (lv_at hl 2 rfl) ?_
                      refine va_get (D := E.1) (ci := 7) (v := .ref z2) (C := RX7) (T := TX7) (N := 23) hx hb hts hinX7 hown hK.1 hP 0 rfl rfl 4 (by decide) fl_16 (fun _ h9 => h9) rfl dX7_day_124 ?_
                      refine lv_iload hx hb dX7_day_127 (lv_at hl 1 rfl) ?_
                      refine lv_iconst (v := 2) hx hb dX7_day_129 (by decide) ?_
                      refine lv_iload hx hb dX7_day_130 (lv_at hl 0 rfl) ?_
                      refine N_imul (a := 2) (b := z) hx hb rfl rfl dX7_day_132 ?_
                      refine N_iadd (a := (60 * j) + a) (b := 2 * z) hx hb rfl rfl dX7_day_133 ?_
                      refine lv_iconst (v := 1) hx hb dX7_day_134 (by decide) ?_
                      refine N_iadd (a := ((60 * j) + a) + (2 * z)) (b := 1) hx hb rfl rfl dX7_day_135 ?_
                      refine ild hx hb hK hP 3 rfl (j := (((60 * j) + a) + (2 * z)) + 1) rfl (by omega) (by decide) dX7_day_136 ?_
                      rw [show 60 * j + a + 2 * z + 1 = 60 * j + (a + 2 * z + 1) by omega]
                      refine crV (As := [.int (cc (60 * j + (a + 2 * z))), .int (cc (60 * j + (a + 2 * z + 1)))]) (rest := []) ⟨hx, hb, hml, hown, hts⟩ (c_X7_refusesPair l E m0 0 tr z0 z1 z2 n y0 y1 y2 at_ rwi y3 y4 sl cr gr y5 y6 rc x0 x1 x2 x3 (cc (60 * j + (a + 2 * z))) (cc (60 * j + (a + 2 * z + 1)))) (cwV 2 hts gX7_day_X7_refusesPair rfl rfl rfl (by decide +kernel) ⟨Nat.le_of_ble_eq_true rfl, Nat.le_of_ble_eq_true rfl⟩) hK hP [0] rfl 0 rfl rfl rfl rfl hl.1 rfl (catLe (Nat.le_of_ble_eq_true rfl)) dX7_day_137 ⟨Nat.zero_le _, Nat.zero_le _⟩ (fun r_37 hr_37 => ?_)
                      subst hr_37
                      refine lv_istore (lv' := [(9, .int (acF n (cc (60 * j + (a + 2 * z))) (cc (60 * j + (a + 2 * z + 1))))), (8, .int (nI z)), (7, .int (nI ((60 * j) + a))), (0, .ref m0), (1, .int (nI j)), (2, .int lane), (3, .int (nI a)), (4, .int (nI m_)), (5, .int what)]) hx hb dX7_day_140 hl (by decide) rfl (fun ls hl => ?_)
                      refine lv_iload hx hb dX7_day_142 (lv_at hl 0 rfl) ?_
                      refine lv_if_eq (tgt := 150) hx hb dX7_day_144 (by decide) (fun c_38 => ?_) (fun c_38 => ?_)
                      ·
                        refine lv_iinc (v := nI (z + 1)) (lv' := [(8, .int (nI (z + 1))), (9, .int (acF n (cc (60 * j + (a + 2 * z))) (cc (60 * j + (a + 2 * z + 1))))), (7, .int (nI ((60 * j) + a))), (0, .ref m0), (1, .int (nI j)), (2, .int lane), (3, .int (nI a)), (4, .int (nI m_)), (5, .int what)]) hx hb dX7_day_150 hl (k := 1) rfl (nI_inc z) (by decide) rfl (fun ls hl => ?_)
                        refine lv_goto (tgt := 103) hx hb dX7_day_153 (by decide) ?_
                        exact ih103 (z + 1) (by omega) (by rw [acR, if_pos hq]; exact c_38) (by omega) _ _ hP hD hS ls (lv_sub hl [0, 2, 3, 4, 5, 6, 7, 8] rfl)
                      ·
                        refine lv_iload hx hb dX7_day_147 (lv_at hl 0 rfl) ?_
                        exact hret _ _ _ _ _ (pu, kp, sl, cr, gr) dX7_day_149 hS (by rw [ha, eR]; exact hP) ⟨by rw [spDay, ha, eR, if_neg (not_not_intro rfl), if_neg (by omega), hixa, hixm, acR_hit hq rfl c_38 m_ (by omega), if_pos c_38], fun _ _ => rfl⟩
                exact L103 _ 0 (by omega) rfl (Nat.lt_succ_self _) _ _ hP hD hS ls (lv_sub hl [0, 1, 3, 4, 5, 6, 7, 8] rfl)
              ·
                refine lv_bipush (v := (-3)) hx hb dX7_day_89 (by decide) ?_
                exact hret _ _ _ _ _ (pu, kp, sl, cr, gr) dX7_day_91 hS (by rw [ha, eR]; exact hP) ⟨by rw [spDay, ha, eR, if_neg (not_not_intro rfl), if_pos (by omega)], fun _ _ => rfl⟩
            ·
              refine lv_aload_n hx hb dX7_day_75 rfl (lv_at hl 1 rfl) ?_
              refine lv_iload hx hb dX7_day_76 (lv_at hl 0 rfl) ?_
              refine cwVi (As := [.int (agF (so j) lane i (2 * x) ln)]) (rest := []) ⟨hx, hb, hml, hown, hts⟩ (c_X7_fails l E _ m0 0 tr z0 z1 z2 n y0 y1 y2 at_ rwi y3 y4 sl cr gr y5 y6 rc x0 x1 x2 x3 (agF (so j) lane i (2 * x) ln)) (cwV 1 hts gX7_day_X7_fails rfl rfl rfl (by decide +kernel) ⟨Nat.le_of_ble_eq_true rfl, Nat.le_of_ble_eq_true rfl⟩) hK hP hD hS hA [0] (by decide) rfl [m0] (fun _ => rfl) rfl 0 rfl rfl rfl rfl hl.1 rfl (catLe (Nat.le_of_ble_eq_true rfl)) dX7_day_78 ⟨Nat.zero_le _, Nat.zero_le _⟩ (fun r_39 u_40 H locs hwr_39 hP hD hS => ?_)
              have hP : va_P E.1 vwCl [ob m0 7 [.int (agF (so j) lane i (2 * x) ln), .int tr, .ref z0, .ref z1, .ref z2, .int (nI n), .ref y0, .ref y1, .ref y2, .int at_, .int rwi, .ref y3, .ref y4, .int sl, .int cr, .int gr, .ref y5, .ref y6, .int (nI rc), .ref x0, .ref x1, .ref x2, .ref x3], ar E z0 4 so, ar E z1 4 sg, ar E z2 240 cc, ar E y0 6 kd, ar E y1 6 mn, ar E y2 6 pu, ar E y4 6 kp] H := hP
              have hD : va_D A [ob m0 7 [.int (agF (so j) lane i (2 * x) ln), .int tr, .ref z0, .ref z1, .ref z2, .int (nI n), .ref y0, .ref y1, .ref y2, .int at_, .int rwi, .ref y3, .ref y4, .int sl, .int cr, .int gr, .ref y5, .ref y6, .int (nI rc), .ref x0, .ref x1, .ref x2, .ref x3], ar E z0 4 so, ar E z1 4 sg, ar E z2 240 cc, ar E y0 6 kd, ar E y1 6 mn, ar E y2 6 pu, ar E y4 6 kp] := hD
              subst hwr_39
              exact hret _ _ _ _ _ (pu, kp, sl, cr, gr) dX7_day_81 hS (by rw [ha, eR, if_neg c_27, flt_ag c_27]; exact hP) ⟨by rw [spDay, ha, eR, if_neg c_27, if_pos (agF_ne c_27)], fun _ _ => rfl⟩
          ·
            refine lv_bipush (v := (-2)) hx hb dX7_day_54 (by decide) ?_
            have eR : rtK (nI j) lane i (2 * x) (if dyT x what then 1 else 0) (thM (so j)) (so j) ln = -2 := by rw [rtK, if_neg (not_not_intro c_2), if_pos (Or.inr (if_neg (fun h => (wi_dy.mpr h.2.2).elim c_8 c_25)))]
            exact hret _ _ _ _ _ (pu, kp, sl, cr, gr) dX7_day_56 hS (by rw [eR]; exact hP) ⟨by rw [spDay, eR, if_pos (by decide)], fun _ _ => rfl⟩
  ·
    refine lv_iconst (v := (-1)) hx hb dX7_day_12 (by decide) ?_
    have eR : rtK sheet lane i (2 * x) (if dyT x what then 1 else 0) (thM (so j)) (so j) ln = -1 := by rw [rtK, if_pos c_2]
    exact hret _ _ _ _ _ (pu, kp, sl, cr, gr) dX7_day_13 hS (by rw [eR]; exact hP) ⟨by rw [spDay, eR, if_pos (by decide)], fun _ _ => rfl⟩
