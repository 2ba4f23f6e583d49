set_option maxHeartbeats 4000000 in
set_option maxRecDepth 100000 in
theorem c_X4_kindOf (l : Launch) (E : gE) (cd : Int32) : Met l yX4_kindOf wsX4_kindOf ({ frames := 0, cells := 0, slots := 0, locals := 0 }) (PR E [.int cd] []) (vp_Si (fun r => r = kdF cd)) 0 0 (fun _ => False) := by
  refine mkRi (cc := cX4_kindOf) (maxL := 1) (by decide) rfl (Nat.le_of_ble_eq_true rfl) ?_
  intro p e s m args below meth c QQ hx hb hml hown hmn hts hK hP hret ls hl
  have hown : s.vm.findClass RX4 = some m.cls := hown
  have hl : lv_has ls 1 [(0, .int cd)] := hl
  refine lv_iload_n hx hb dX4_kindOf_0 rfl (lv_at hl 0 rfl) ?_
  by_cases q_1 : cd = 108
  ·
    subst q_1
    refine lv_lookup (off := 37) (tgt := 38) hx hb dX4_kindOf_1 (by decide) (by decide) (by decide) ?_
    refine lv_iconst (v := 1) hx hb dX4_kindOf_38 (by decide) ?_
    exact hret _ _ _ dX4_kindOf_39 rfl
  by_cases q_2 : cd = 111
  ·
    subst q_2
    refine lv_lookup (off := 39) (tgt := 40) hx hb dX4_kindOf_1 (by decide) (by decide) (by decide) ?_
    refine lv_iconst (v := 2) hx hb dX4_kindOf_40 (by decide) ?_
    exact hret _ _ _ dX4_kindOf_41 rfl
  by_cases q_3 : cd = 119
  ·
    subst q_3
    refine lv_lookup (off := 35) (tgt := 36) hx hb dX4_kindOf_1 (by decide) (by decide) (by decide) ?_
    refine lv_iconst (v := 0) hx hb dX4_kindOf_36 (by decide) ?_
    exact hret _ _ _ dX4_kindOf_37 rfl
  refine lv_lookup (off := 41) (tgt := 42) hx hb dX4_kindOf_1 (by decide) ((lv_osw q_1 rfl).trans ((lv_osw q_2 rfl).trans ((lv_osw q_3 rfl).trans rfl))) (by decide) ?_
  refine lv_bipush (v := (-9)) hx hb dX4_kindOf_42 (by decide) ?_
  exact hret _ _ _ dX4_kindOf_44 (by simp [kdF, q_1, q_2, q_3])
set_option maxHeartbeats 4000000 in
set_option maxRecDepth 100000 in
theorem c_X4_goesOn (l : Launch) (E : gE) (sz : Nat) (ht : Nat) (h0 : Nat) (a0 : Nat) (a1 : Nat) (a2 : Nat) (a3 : Nat) (a4 : Nat) (n : Nat) (mo : Int32) (kd : Nat → Int32) (mn : Nat → Int32) (pu : Nat → Int32) (pl : Nat) (cd : Int32) (hn : n ≤ 6) (hpl : pl ≤ 100) : Met l yX4_goesOn wsX4_goesOn ({ frames := 1, cells := 0, slots := 0, locals := 21 }) (PW E [.ref ht, .int (nI pl), .int cd] [ob ht 4 [.ref h0], ob h0 5 [.ref a0, .ref a1, .ref a2, .ref a3, .ref a4, .int (nI n), .int mo], ar E a0 6 kd, ar E a1 6 mn, ar E a2 6 pu] sz) (QWi E (fun r _ => r = if gP pl cd n kd mn then 1 else 0) (fun (_ : Unit) => [ob ht 4 [.ref h0], ob h0 5 [.ref a0, .ref a1, .ref a2, .ref a3, .ref a4, .int (nI (gCt pl n)), .int mo], ar E a0 6 (gKd pl n cd kd), ar E a1 6 (gMn pl n cd mn), ar E a2 6 (gPu pl n cd pu)]) (va_A [ob ht 4 [.ref h0], ob h0 5 [.ref a0, .ref a1, .ref a2, .ref a3, .ref a4, .int (nI n), .int mo], ar E a0 6 kd, ar E a1 6 mn, ar E a2 6 pu] sz)) 0 0 (va_A [ob ht 4 [.ref h0], ob h0 5 [.ref a0, .ref a1, .ref a2, .ref a3, .ref a4, .int (nI n), .int mo], ar E a0 6 kd, ar E a1 6 mn, ar E a2 6 pu] sz) := by
  refine mkWz (cc := cX4_goesOn) (maxL := 4) (by decide) rfl (Nat.le_of_ble_eq_true rfl) ?_
  intro p e s m args below meth c QQ A hx hb hml hown hmn hts hK hA hP hD hS hret ls hl
  have hown : s.vm.findClass RX4 = some m.cls := hown
  have hl : lv_has ls 4 [(0, .ref ht), (1, .int (nI pl)), (2, .int cd)] := hl
  have hinX4 : ∀ w ∈ wsX40, w ∈ wsX4_goesOn := by decide +kernel
  have hinX5 : ∀ w ∈ wsX50, w ∈ wsX4_goesOn := by decide +kernel
  have fl_12 := hts (.fieldLink RX4 12 "GuardAbacus$Text" "made" "LGuardAbacus$Wires;") (by decide +kernel)
  have fl_18 := hts (.fieldLink RX4 18 "GuardAbacus$Wires" "count" "I") (by decide +kernel)
  have fl_32 := hts (.fieldLink RX4 32 "GuardAbacus$Wires" "kind" "[I") (by decide +kernel)
  have fl_39 := hts (.fieldLink RX4 39 "GuardAbacus$Wires" "men" "[I") (by decide +kernel)
  have fl_42 := hts (.fieldLink RX4 42 "GuardAbacus$Wires" "pushed" "[I") (by decide +kernel)
  refine lv_iload_n hx hb dX4_goesOn_0 rfl (lv_at hl 1 rfl) ?_
  refine lv_iconst (v := 1) hx hb dX4_goesOn_1 (by decide) ?_
  refine icmpN_ge (tgt := 17) (a := pl) (b := 1) hx hb rfl rfl (by omega) (by omega) dX4_goesOn_2 (by decide) (fun c_1 => ?_) (fun c_1 => ?_)
  ·
    refine lv_aload_n hx hb dX4_goesOn_17 rfl (lv_at hl 0 rfl) ?_
    refine va_get (D := E.1) (ci := 4) (v := .ref h0) (C := RX4) (T := TX4) (N := 1) hx hb hts hinX4 hown hK.1 hP 0 rfl rfl 0 (by decide) fl_12 (fun _ h9 => h9) rfl dX4_goesOn_18 ?_
    refine va_get (D := E.1) (ci := 5) (v := .int (nI n)) (C := RX5) (T := TX5) (N := 7) hx hb hts hinX5 hown hK.1 hP 1 rfl rfl 5 (by decide) fl_18 (fun _ h9 => h9) rfl dX4_goesOn_21 ?_
    refine lv_istore_n (lv' := [(3, .int (nI n)), (0, .ref ht), (1, .int (nI pl)), (2, .int cd)]) hx hb dX4_goesOn_24 rfl hl (by decide) rfl (fun ls hl => ?_)
    refine lv_iload_n hx hb dX4_goesOn_25 rfl (lv_at hl 0 rfl) ?_
    refine ifN_lt (tgt := 35) (a := n) hx hb rfl (by omega) dX4_goesOn_26 (by decide) ?_
    refine lv_iload_n hx hb dX4_goesOn_29 rfl (lv_at hl 0 rfl) ?_
    refine lv_bipush (v := 6) hx hb dX4_goesOn_30 (by decide) ?_
    refine icmpN_lt (tgt := 37) (a := n) (b := 6) hx hb rfl rfl (by omega) (by omega) dX4_goesOn_32 (by decide) (fun c_3 => ?_) (fun c_3 => ?_)
    ·
      refine lv_iload_n hx hb dX4_goesOn_37 rfl (lv_at hl 2 rfl) ?_
      refine lv_iconst (v := 1) hx hb dX4_goesOn_38 (by decide) ?_
      refine N_isub (a := pl) (b := 1) hx hb rfl rfl (by omega) dX4_goesOn_39 ?_
      refine lv_iconst (v := 4) hx hb dX4_goesOn_40 (by decide) ?_
      refine lv_irem hx hb dX4_goesOn_41 (by decide) ?_
      rw [show (nI (pl - 1) - nI (pl - 1) / 4 * 4 : Int32) = nI ((pl - 1) % 4) from pk_rem (d := 4) (by omega) (by decide) (by decide)]
      have h4 : (pl - 1) % 4 = 0 ∨ (pl - 1) % 4 = 1 ∨ (pl - 1) % 4 = 2 ∨ (pl - 1) % 4 = 3 := by omega
      rcases h4 with h4 | h4 | h4 | h4
      ·
        rw [h4]
        have hph : gPh pl n = 0 := gPh_of (by omega) (by omega) h4
        refine lv_tableIn (off := 26) (tgt := 68) hx hb dX4_goesOn_42 (by decide) (by decide) rfl (by decide) ?_
        refine lv_iload_n hx hb dX4_goesOn_68 rfl (lv_at hl 3 rfl) ?_
        refine lv_bipush (v := 59) hx hb dX4_goesOn_69 (by decide) ?_
        refine lv_icmp_ne (tgt := 78) hx hb dX4_goesOn_71 (by decide) (fun c_4 => ?_) (fun c_4 => ?_)
        ·
          refine lv_iconst (v := 0) hx hb dX4_goesOn_78 (by decide) ?_
          exact hret _ _ _ _ _ () dX4_goesOn_79 rfl hS (by simp only [gCt, gKd, gMn, gPu, hph]; exact hP) (b0_of (gP_0 (by omega) (by omega) h4) c_4)
        ·
          refine lv_iconst (v := 1) hx hb dX4_goesOn_74 (by decide) ?_
          refine lv_goto (tgt := 79) hx hb dX4_goesOn_75 (by decide) ?_
          exact hret _ _ _ _ _ () dX4_goesOn_79 rfl hS (by simp only [gCt, gKd, gMn, gPu, hph]; exact hP) (b1_of (gP_0 (by omega) (by omega) h4) c_4)
      ·
        rw [h4]
        have hph : gPh pl n = 1 := gPh_of (by omega) (by omega) h4
        refine lv_tableIn (off := 38) (tgt := 80) hx hb dX4_goesOn_42 (by decide) (by decide) rfl (by decide) ?_
        refine lv_aload_n hx hb dX4_goesOn_80 rfl (lv_at hl 1 rfl) ?_
        refine va_get (D := E.1) (ci := 4) (v := .ref h0) (C := RX4) (T := TX4) (N := 1) hx hb hts hinX4 hown hK.1 hP 0 rfl rfl 0 (by decide) fl_12 (fun _ h9 => h9) rfl dX4_goesOn_81 ?_
        refine va_get (D := E.1) (ci := 5) (v := .ref a0) (C := RX5) (T := TX5) (N := 7) hx hb hts hinX5 hown hK.1 hP 1 rfl rfl 0 (by decide) fl_32 (fun _ h9 => h9) rfl dX4_goesOn_84 ?_
        refine lv_iload_n hx hb dX4_goesOn_87 rfl (lv_at hl 0 rfl) ?_
        refine lv_iload_n hx hb dX4_goesOn_88 rfl (lv_at hl 3 rfl) ?_
        refine crS (As := [.int cd]) (rest := [.int (nI n), .ref a0]) ⟨hx, hb, hml, hown, hts⟩ (c_X4_kindOf l E cd) (va_cwS 1 hts gX4_goesOn_X4_kindOf rfl rfl rfl (by decide +kernel) ⟨Nat.le_of_ble_eq_true rfl, Nat.le_of_ble_eq_true rfl⟩) hK hP [] rfl rfl hl.1 rfl (catLe (Nat.le_of_ble_eq_true rfl)) dX4_goesOn_89 ⟨Nat.zero_le _, Nat.zero_le _⟩ (fun r_5 hr_5 => ?_)
        subst hr_5
        refine ist hx hb hK hP hD hS 2 rfl (j := n) rfl (by omega) (by decide) dX4_goesOn_92 (fun H locs hP hD hS => ?_)
        have hP : va_P E.1 vwCl [ob ht 4 [.ref h0], ob h0 5 [.ref a0, .ref a1, .ref a2, .ref a3, .ref a4, .int (nI n), .int mo], ar E a0 6 (upd kd n (kdF cd)), ar E a1 6 mn, ar E a2 6 pu] H := hP
        have hD : va_D A [ob ht 4 [.ref h0], ob h0 5 [.ref a0, .ref a1, .ref a2, .ref a3, .ref a4, .int (nI n), .int mo], ar E a0 6 (upd kd n (kdF cd)), ar E a1 6 mn, ar E a2 6 pu] := hD
        refine lv_aload_n hx hb dX4_goesOn_93 rfl (lv_at hl 1 rfl) ?_
        refine va_get (D := E.1) (ci := 4) (v := .ref h0) (C := RX4) (T := TX4) (N := 1) hx hb hts hinX4 hown hK.1 hP 0 rfl rfl 0 (by decide) fl_12 (fun _ h9 => h9) rfl dX4_goesOn_94 ?_
        refine va_get (D := E.1) (ci := 5) (v := .ref a0) (C := RX5) (T := TX5) (N := 7) hx hb hts hinX5 hown hK.1 hP 1 rfl rfl 0 (by decide) fl_32 (fun _ h9 => h9) rfl dX4_goesOn_97 ?_
        refine lv_iload_n hx hb dX4_goesOn_100 rfl (lv_at hl 0 rfl) ?_
        refine ild hx hb hK hP 2 rfl (j := n) rfl (by omega) (by decide) dX4_goesOn_101 ?_
        rw [pk_us]
        refine lv_bipush (v := (-9)) hx hb dX4_goesOn_102 (by decide) ?_
        refine lv_icmp_eq (tgt := 111) hx hb dX4_goesOn_104 (by decide) (fun c_6 => ?_) (fun c_6 => ?_)
        ·
          refine lv_iconst (v := 0) hx hb dX4_goesOn_111 (by decide) ?_
          exact hret _ _ _ _ _ () dX4_goesOn_112 rfl hS (by simp only [gCt, gKd, gMn, gPu, hph]; exact hP) (b0_of (gP_1 (by omega) (by omega) h4) (fun h => h c_6))
        ·
          refine lv_iconst (v := 1) hx hb dX4_goesOn_107 (by decide) ?_
          refine lv_goto (tgt := 112) hx hb dX4_goesOn_108 (by decide) ?_
          exact hret _ _ _ _ _ () dX4_goesOn_112 rfl hS (by simp only [gCt, gKd, gMn, gPu, hph]; exact hP) (b1_of (gP_1 (by omega) (by omega) h4) c_6)
      ·
        rw [h4]
        have hph : gPh pl n = 2 := gPh_of (by omega) (by omega) h4
        refine lv_tableIn (off := 71) (tgt := 113) hx hb dX4_goesOn_42 (by decide) (by decide) rfl (by decide) ?_
        refine lv_aload_n hx hb dX4_goesOn_113 rfl (lv_at hl 1 rfl) ?_
        refine va_get (D := E.1) (ci := 4) (v := .ref h0) (C := RX4) (T := TX4) (N := 1) hx hb hts hinX4 hown hK.1 hP 0 rfl rfl 0 (by decide) fl_12 (fun _ h9 => h9) rfl dX4_goesOn_114 ?_
        refine va_get (D := E.1) (ci := 5) (v := .ref a1) (C := RX5) (T := TX5) (N := 7) hx hb hts hinX5 hown hK.1 hP 1 rfl rfl 1 (by decide) fl_39 (fun _ h9 => h9) rfl dX4_goesOn_117 ?_
        refine lv_iload_n hx hb dX4_goesOn_120 rfl (lv_at hl 0 rfl) ?_
        refine lv_iload_n hx hb dX4_goesOn_121 rfl (lv_at hl 3 rfl) ?_
        refine lv_bipush (v := 48) hx hb dX4_goesOn_122 (by decide) ?_
        refine lv_isub hx hb dX4_goesOn_124 ?_
        refine ist hx hb hK hP hD hS 3 rfl (j := n) rfl (by omega) (by decide) dX4_goesOn_125 (fun H locs hP hD hS => ?_)
        have hP : va_P E.1 vwCl [ob ht 4 [.ref h0], ob h0 5 [.ref a0, .ref a1, .ref a2, .ref a3, .ref a4, .int (nI n), .int mo], ar E a0 6 kd, ar E a1 6 (upd mn n (cd - 48)), ar E a2 6 pu] H := hP
        have hD : va_D A [ob ht 4 [.ref h0], ob h0 5 [.ref a0, .ref a1, .ref a2, .ref a3, .ref a4, .int (nI n), .int mo], ar E a0 6 kd, ar E a1 6 (upd mn n (cd - 48)), ar E a2 6 pu] := hD
        refine lv_iload_n hx hb dX4_goesOn_126 rfl (lv_at hl 3 rfl) ?_
        refine lv_bipush (v := 49) hx hb dX4_goesOn_127 (by decide) ?_
        refine lv_icmp_lt (tgt := 142) hx hb dX4_goesOn_129 (by decide) (fun c_7 => ?_) (fun c_7 => ?_)
        ·
          have c_7b := Int32.not_le.mpr c_7
          refine lv_iconst (v := 0) hx hb dX4_goesOn_142 (by decide) ?_
          exact hret _ _ _ _ _ () dX4_goesOn_143 rfl hS (by simp only [gCt, gKd, gMn, gPu, hph]; exact hP) (b0_of (gP_2 (by omega) (by omega) h4) (by simp [c_7]))
        ·
          have c_7b := Int32.not_lt.mp c_7
          refine lv_iload_n hx hb dX4_goesOn_132 rfl (lv_at hl 3 rfl) ?_
          refine lv_bipush (v := 57) hx hb dX4_goesOn_133 (by decide) ?_
          refine lv_icmp_gt (tgt := 142) hx hb dX4_goesOn_135 (by decide) (fun c_8 => ?_) (fun c_8 => ?_)
          ·
            have c_8b := Int32.not_le.mpr c_8
            refine lv_iconst (v := 0) hx hb dX4_goesOn_142 (by decide) ?_
            exact hret _ _ _ _ _ () dX4_goesOn_143 rfl hS (by simp only [gCt, gKd, gMn, gPu, hph]; exact hP) (b0_of (gP_2 (by omega) (by omega) h4) (by simp [c_7, c_8]))
          ·
            have c_8b := Int32.not_lt.mp c_8
            refine lv_iconst (v := 1) hx hb dX4_goesOn_138 (by decide) ?_
            refine lv_goto (tgt := 143) hx hb dX4_goesOn_139 (by decide) ?_
            exact hret _ _ _ _ _ () dX4_goesOn_143 rfl hS (by simp only [gCt, gKd, gMn, gPu, hph]; exact hP) (b1_of (gP_2 (by omega) (by omega) h4) (by simp [c_7, c_8]))
      ·
        rw [h4]
        have hph : gPh pl n = 3 := gPh_of (by omega) (by omega) h4
        refine lv_tableOut (tgt := 144) hx hb dX4_goesOn_42 (by decide) (by decide) ?_
        refine lv_aload_n hx hb dX4_goesOn_144 rfl (lv_at hl 1 rfl) ?_
        refine va_get (D := E.1) (ci := 4) (v := .ref h0) (C := RX4) (T := TX4) (N := 1) hx hb hts hinX4 hown hK.1 hP 0 rfl rfl 0 (by decide) fl_12 (fun _ h9 => h9) rfl dX4_goesOn_145 ?_
        refine va_get (D := E.1) (ci := 5) (v := .ref a2) (C := RX5) (T := TX5) (N := 7) hx hb hts hinX5 hown hK.1 hP 1 rfl rfl 2 (by decide) fl_42 (fun _ h9 => h9) rfl dX4_goesOn_148 ?_
        refine lv_iload_n hx hb dX4_goesOn_151 rfl (lv_at hl 0 rfl) ?_
        refine lv_iload_n hx hb dX4_goesOn_152 rfl (lv_at hl 3 rfl) ?_
        refine lv_bipush (v := 48) hx hb dX4_goesOn_153 (by decide) ?_
        refine lv_isub hx hb dX4_goesOn_155 ?_
        refine ist hx hb hK hP hD hS 4 rfl (j := n) rfl (by omega) (by decide) dX4_goesOn_156 (fun H locs hP hD hS => ?_)
        have hP : va_P E.1 vwCl [ob ht 4 [.ref h0], ob h0 5 [.ref a0, .ref a1, .ref a2, .ref a3, .ref a4, .int (nI n), .int mo], ar E a0 6 kd, ar E a1 6 mn, ar E a2 6 (upd pu n (cd - 48))] H := hP
        have hD : va_D A [ob ht 4 [.ref h0], ob h0 5 [.ref a0, .ref a1, .ref a2, .ref a3, .ref a4, .int (nI n), .int mo], ar E a0 6 kd, ar E a1 6 mn, ar E a2 6 (upd pu n (cd - 48))] := hD
        refine lv_aload_n hx hb dX4_goesOn_157 rfl (lv_at hl 1 rfl) ?_
        refine va_get (D := E.1) (ci := 4) (v := .ref h0) (C := RX4) (T := TX4) (N := 1) hx hb hts hinX4 hown hK.1 hP 0 rfl rfl 0 (by decide) fl_12 (fun _ h9 => h9) rfl dX4_goesOn_158 ?_
        refine lv_iload_n hx hb dX4_goesOn_161 rfl (lv_at hl 0 rfl) ?_
        refine lv_iconst (v := 1) hx hb dX4_goesOn_162 (by decide) ?_
        refine N_iadd (a := n) (b := 1) hx hb rfl rfl dX4_goesOn_163 ?_
        refine va_put (D := E.1) (ci := 5) (v := .int (nI (n + 1))) (ty := .int) (C := RX5) (T := TX5) (N := 7) hx hb hts hinX5 tyX5 tyX5_ok nmX5 hown hK.1 hP hD hS 1 rfl rfl 5 (by decide) fl_18 (fun _ h9 => h9) rfl (by decide +kernel) rfl rfl (Nat.le_of_ble_eq_true rfl) dX4_goesOn_164 (fun H locs hP hD hS => ?_)
        have hP : va_P E.1 vwCl [ob ht 4 [.ref h0], ob h0 5 [.ref a0, .ref a1, .ref a2, .ref a3, .ref a4, .int (nI (n + 1)), .int mo], ar E a0 6 kd, ar E a1 6 mn, ar E a2 6 (upd pu n (cd - 48))] H := hP
        have hD : va_D A [ob ht 4 [.ref h0], ob h0 5 [.ref a0, .ref a1, .ref a2, .ref a3, .ref a4, .int (nI (n + 1)), .int mo], ar E a0 6 kd, ar E a1 6 mn, ar E a2 6 (upd pu n (cd - 48))] := hD
        refine lv_iload_n hx hb dX4_goesOn_167 rfl (lv_at hl 3 rfl) ?_
        refine lv_bipush (v := 48) hx hb dX4_goesOn_168 (by decide) ?_
        refine lv_icmp_lt (tgt := 211) hx hb dX4_goesOn_170 (by decide) (fun c_9 => ?_) (fun c_9 => ?_)
        ·
          have c_9b := Int32.not_le.mpr c_9
          refine lv_iconst (v := 0) hx hb dX4_goesOn_211 (by decide) ?_
          exact hret _ _ _ _ _ () dX4_goesOn_212 rfl hS (by simp only [gCt, gKd, gMn, gPu, hph]; exact hP) (b0_of (gP_3 (by omega) (by omega) h4) (by simp [c_9]))
        ·
          have c_9b := Int32.not_lt.mp c_9
          refine lv_iload_n hx hb dX4_goesOn_173 rfl (lv_at hl 3 rfl) ?_
          refine lv_bipush (v := 57) hx hb dX4_goesOn_174 (by decide) ?_
          refine lv_icmp_gt (tgt := 211) hx hb dX4_goesOn_176 (by decide) (fun c_10 => ?_) (fun c_10 => ?_)
          ·
            have c_10b := Int32.not_le.mpr c_10
            refine lv_iconst (v := 0) hx hb dX4_goesOn_211 (by decide) ?_
            exact hret _ _ _ _ _ () dX4_goesOn_212 rfl hS (by simp only [gCt, gKd, gMn, gPu, hph]; exact hP) (b0_of (gP_3 (by omega) (by omega) h4) (by simp [c_9, c_10]))
          ·
            have c_10b := Int32.not_lt.mp c_10
            refine lv_iload_n hx hb dX4_goesOn_179 rfl (lv_at hl 3 rfl) ?_
            refine lv_bipush (v := 48) hx hb dX4_goesOn_180 (by decide) ?_
            refine lv_isub hx hb dX4_goesOn_182 ?_
            refine lv_aload_n hx hb dX4_goesOn_183 rfl (lv_at hl 1 rfl) ?_
            refine va_get (D := E.1) (ci := 4) (v := .ref h0) (C := RX4) (T := TX4) (N := 1) hx hb hts hinX4 hown hK.1 hP 0 rfl rfl 0 (by decide) fl_12 (fun _ h9 => h9) rfl dX4_goesOn_184 ?_
            refine va_get (D := E.1) (ci := 5) (v := .ref a0) (C := RX5) (T := TX5) (N := 7) hx hb hts hinX5 hown hK.1 hP 1 rfl rfl 0 (by decide) fl_32 (fun _ h9 => h9) rfl dX4_goesOn_187 ?_
            refine lv_iload_n hx hb dX4_goesOn_190 rfl (lv_at hl 0 rfl) ?_
            refine ild hx hb hK hP 2 rfl (j := n) rfl (by omega) (by decide) dX4_goesOn_191 ?_
            refine lv_aload_n hx hb dX4_goesOn_192 rfl (lv_at hl 1 rfl) ?_
            refine va_get (D := E.1) (ci := 4) (v := .ref h0) (C := RX4) (T := TX4) (N := 1) hx hb hts hinX4 hown hK.1 hP 0 rfl rfl 0 (by decide) fl_12 (fun _ h9 => h9) rfl dX4_goesOn_193 ?_
            refine va_get (D := E.1) (ci := 5) (v := .ref a1) (C := RX5) (T := TX5) (N := 7) hx hb hts hinX5 hown hK.1 hP 1 rfl rfl 1 (by decide) fl_39 (fun _ h9 => h9) rfl dX4_goesOn_196 ?_
            refine lv_iload_n hx hb dX4_goesOn_199 rfl (lv_at hl 0 rfl) ?_
            refine ild hx hb hK hP 3 rfl (j := n) rfl (by omega) (by decide) dX4_goesOn_200 ?_
            refine crSN (As := [.int (kd n), .int (mn n)]) (rest := [.int (cd - 48)]) ⟨hx, hb, hml, hown, hts⟩ (c_X6_roomOf l E (kd n) (mn n)) ⟨va_cnB 2 hts gX4_goesOn_X6_roomOf_n45 rfl rfl rfl hK.2.2.1 (hts (.initialized RX6) (by decide +kernel)) (by decide +kernel) ⟨Nat.le_of_ble_eq_true rfl, Nat.le_of_ble_eq_true rfl⟩, hts (.static yX6_roomOf) (by decide +kernel), trivial⟩ hK hP [] rfl rfl hl.1 rfl (catLe (Nat.le_of_ble_eq_true rfl)) dX4_goesOn_201 ⟨Nat.zero_le _, Nat.zero_le _⟩ (fun r_11 hr_11 => ?_)
            subst hr_11
            refine lv_icmp_gt (tgt := 211) hx hb dX4_goesOn_204 (by decide) (fun c_12 => ?_) (fun c_12 => ?_)
            ·
              have c_12b := Int32.not_le.mpr c_12
              refine lv_iconst (v := 0) hx hb dX4_goesOn_211 (by decide) ?_
              exact hret _ _ _ _ _ () dX4_goesOn_212 rfl hS (by simp only [gCt, gKd, gMn, gPu, hph]; exact hP) (b0_of (gP_3 (by omega) (by omega) h4) (by simp [c_9, c_10, c_12]))
            ·
              have c_12b := Int32.not_lt.mp c_12
              refine lv_iconst (v := 1) hx hb dX4_goesOn_207 (by decide) ?_
              refine lv_goto (tgt := 212) hx hb dX4_goesOn_208 (by decide) ?_
              exact hret _ _ _ _ _ () dX4_goesOn_212 rfl hS (by simp only [gCt, gKd, gMn, gPu, hph]; exact hP) (b1_of (gP_3 (by omega) (by omega) h4) (by simp [c_9, c_10, c_12]))
    ·
      have hph : gPh pl n = 4 := gPh_4 (by omega)
      refine lv_iconst (v := 0) hx hb dX4_goesOn_35 (by decide) ?_
      exact hret _ _ _ _ _ () dX4_goesOn_36 rfl hS (by simp only [gCt, gKd, gMn, gPu, hph]; exact hP) (if_neg (gP_6 (by omega) (by omega))).symm
  ·
    have hph : gPh pl n = 4 := gPh_4 (by omega)
    refine lv_iload_n hx hb dX4_goesOn_5 rfl (lv_at hl 2 rfl) ?_
    refine lv_bipush (v := 97) hx hb dX4_goesOn_6 (by decide) ?_
    refine lv_icmp_ne (tgt := 15) hx hb dX4_goesOn_8 (by decide) (fun c_13 => ?_) (fun c_13 => ?_)
    ·
      refine lv_iconst (v := 0) hx hb dX4_goesOn_15 (by decide) ?_
      exact hret _ _ _ _ _ () dX4_goesOn_16 rfl hS (by simp only [gCt, gKd, gMn, gPu, hph]; exact hP) (b0_of (gP_z (by omega)) c_13)
    ·
      refine lv_iconst (v := 1) hx hb dX4_goesOn_11 (by decide) ?_
      refine lv_goto (tgt := 16) hx hb dX4_goesOn_12 (by decide) ?_
      exact hret _ _ _ _ _ () dX4_goesOn_16 rfl hS (by simp only [gCt, gKd, gMn, gPu, hph]; exact hP) (b1_of (gP_z (by omega)) c_13)
set_option maxHeartbeats 4000000 in
set_option maxRecDepth 100000 in
theorem c_X4_firstFault (l : Launch) (E : gE) (sz : Nat) (ht : Nat) (h0 : Nat) (a0 : Nat) (a1 : Nat) (a2 : Nat) (a3 : Nat) (a4 : Nat) (n : Nat) (mo : Int32) (kd : Nat → Int32) (mn : Nat → Int32) (pu : Nat → Int32) (hs : Nat) (qs : Nat) (th : Int32) (la : Int32) (ln : Nat) (ce : Nat → Int32) (i : Nat) (nn : Nat) (h60 : ln ≤ 60) (hin : i + nn ≤ ln) : Met l yX4_firstFault wsX4_firstFault ({ frames := 2, cells := 0, slots := 0, locals := 44 }) (PW E [.ref ht, .ref hs, .int (nI i), .int (nI nn)] [ob ht 4 [.ref h0], ob h0 5 [.ref a0, .ref a1, .ref a2, .ref a3, .ref a4, .int (nI n), .int mo], ar E a0 6 kd, ar E a1 6 mn, ar E a2 6 pu, ob hs 3 [.ref qs, .int th, .int la, .int (nI ln)], ar E qs 60 ce] sz) (QWi E (fun r _ => r = tRes (fun q => ce (i + q)) kd mn pu nn) (fun (_ : Unit) => [ob ht 4 [.ref h0], ob h0 5 [.ref a0, .ref a1, .ref a2, .ref a3, .ref a4, .int (nI ((tS (fun q => ce (i + q)) kd mn pu (tN (fun q => ce (i + q)) kd mn pu nn)).1)), .int mo], ar E a0 6 ((tS (fun q => ce (i + q)) kd mn pu (tN (fun q => ce (i + q)) kd mn pu nn)).2.1), ar E a1 6 ((tS (fun q => ce (i + q)) kd mn pu (tN (fun q => ce (i + q)) kd mn pu nn)).2.2.1), ar E a2 6 ((tS (fun q => ce (i + q)) kd mn pu (tN (fun q => ce (i + q)) kd mn pu nn)).2.2.2), ob hs 3 [.ref qs, .int th, .int la, .int (nI ln)], ar E qs 60 ce]) (va_A [ob ht 4 [.ref h0], ob h0 5 [.ref a0, .ref a1, .ref a2, .ref a3, .ref a4, .int (nI n), .int mo], ar E a0 6 kd, ar E a1 6 mn, ar E a2 6 pu, ob hs 3 [.ref qs, .int th, .int la, .int (nI ln)], ar E qs 60 ce] sz)) 0 0 (va_A [ob ht 4 [.ref h0], ob h0 5 [.ref a0, .ref a1, .ref a2, .ref a3, .ref a4, .int (nI n), .int mo], ar E a0 6 kd, ar E a1 6 mn, ar E a2 6 pu, ob hs 3 [.ref qs, .int th, .int la, .int (nI ln)], ar E qs 60 ce] sz) := by
  refine mkWi (cc := cX4_firstFault) (maxL := 5) (by decide) rfl (Nat.le_of_ble_eq_true rfl) ?_
  intro p e s m args below meth c QQ A hx hb hml hown hmn hts hK hA hP hD hS hret ls hl
  have hown : s.vm.findClass RX4 = some m.cls := hown
  have hl : lv_has ls 5 [(0, .ref ht), (1, .ref hs), (2, .int (nI i)), (3, .int (nI nn))] := hl
  have hinX4 : ∀ w ∈ wsX40, w ∈ wsX4_firstFault := by decide +kernel
  have hinX5 : ∀ w ∈ wsX50, w ∈ wsX4_firstFault := by decide +kernel
  have fl_12 := hts (.fieldLink RX4 12 "GuardAbacus$Text" "made" "LGuardAbacus$Wires;") (by decide +kernel)
  have fl_18 := hts (.fieldLink RX4 18 "GuardAbacus$Wires" "count" "I") (by decide +kernel)
  refine lv_aload_n hx hb dX4_firstFault_0 rfl (lv_at hl 0 rfl) ?_
  refine va_get (D := E.1) (ci := 4) (v := .ref h0) (C := RX4) (T := TX4) (N := 1) hx hb hts hinX4 hown hK.1 hP 0 rfl rfl 0 (by decide) fl_12 (fun _ h9 => h9) rfl dX4_firstFault_1 ?_
  refine lv_iconst (v := 0) hx hb dX4_firstFault_4 (by decide) ?_
  refine va_put (D := E.1) (ci := 5) (v := .int 0) (ty := .int) (C := RX5) (T := TX5) (N := 7) hx hb hts hinX5 tyX5 tyX5_ok nmX5 hown hK.1 hP hD hS 1 rfl rfl 5 (by decide) fl_18 (fun _ h9 => h9) rfl (by decide +kernel) rfl rfl (Nat.le_of_ble_eq_true rfl) dX4_firstFault_5 (fun H locs hP hD hS => ?_)
  have hP : va_P E.1 vwCl [ob ht 4 [.ref h0], ob h0 5 [.ref a0, .ref a1, .ref a2, .ref a3, .ref a4, .int 0, .int mo], ar E a0 6 kd, ar E a1 6 mn, ar E a2 6 pu, ob hs 3 [.ref qs, .int th, .int la, .int (nI ln)], ar E qs 60 ce] H := hP
  have hD : va_D A [ob ht 4 [.ref h0], ob h0 5 [.ref a0, .ref a1, .ref a2, .ref a3, .ref a4, .int 0, .int mo], ar E a0 6 kd, ar E a1 6 mn, ar E a2 6 pu, ob hs 3 [.ref qs, .int th, .int la, .int (nI ln)], ar E qs 60 ce] := hD
  refine lv_iconst (v := 0) hx hb dX4_firstFault_8 (by decide) ?_
  refine lv_istore (lv' := [(4, .int 0), (0, .ref ht), (1, .ref hs), (2, .int (nI i)), (3, .int (nI nn))]) hx hb dX4_firstFault_9 hl (by decide) rfl (fun ls hl => ?_)
  have L11 : ∀ (fuel : Nat) (k : Nat), (k ≤ nn) → (∀ q, q < k → tOk (fun q => ce (i + q)) kd mn pu q = true) → (nn - k) < fuel → ∀ (H : Heap) (locs : List Loc), va_P E.1 vwCl [ob ht 4 [.ref h0], ob h0 5 [.ref a0, .ref a1, .ref a2, .ref a3, .ref a4, .int (nI ((tS (fun q => ce (i + q)) kd mn pu k).1)), .int mo], ar E a0 6 ((tS (fun q => ce (i + q)) kd mn pu k).2.1), ar E a1 6 ((tS (fun q => ce (i + q)) kd mn pu k).2.2.1), ar E a2 6 ((tS (fun q => ce (i + q)) kd mn pu k).2.2.2), ob hs 3 [.ref qs, .int th, .int la, .int (nI ln)], ar E qs 60 ce] H → va_D A [ob ht 4 [.ref h0], ob h0 5 [.ref a0, .ref a1, .ref a2, .ref a3, .ref a4, .int (nI ((tS (fun q => ce (i + q)) kd mn pu k).1)), .int mo], ar E a0 6 ((tS (fun q => ce (i + q)) kd mn pu k).2.1), ar E a1 6 ((tS (fun q => ce (i + q)) kd mn pu k).2.2.1), ar E a2 6 ((tS (fun q => ce (i + q)) kd mn pu k).2.2.2), ob hs 3 [.ref qs, .int th, .int la, .int (nI ln)], ar E qs 60 ce] → va_S A s.heap H locs → ∀ ls : Array Slot, lv_has ls 5 [(4, .int (nI k)), (0, .ref ht), (1, .ref hs), (2, .int (nI i)), (3, .int (nI nn))] → W p l e ({ frames := 2, cells := 0, slots := 0, locals := 44 }) s m args below meth c H locs 0 0 QQ (F0 m 11 ls []) := by
    intro fuel
    induction fuel with
    | zero => intro k hk hs_ hf; exact absurd hf (Nat.not_lt_zero _)
    | succ fuel ih11 =>
      intro k hk hs_ hf11 H locs hP hD hS ls hl
      refine lv_iload hx hb dX4_firstFault_11 (lv_at hl 0 rfl) ?_
      refine lv_iload_n hx hb dX4_firstFault_13 rfl (lv_at hl 4 rfl) ?_
      refine icmpN_ge (tgt := 43) (a := k) (b := nn) hx hb rfl rfl (by omega) (by omega) dX4_firstFault_14 (by decide) (fun c_1 => ?_) (fun c_1 => ?_)
      ·
        obtain rfl : nn = k := by omega
        refine lv_iload_n hx hb dX4_firstFault_43 rfl (lv_at hl 4 rfl) ?_
        refine lv_iconst (v := 1) hx hb dX4_firstFault_44 (by decide) ?_
        refine icmpN_lt (tgt := 71) (a := nn) (b := 1) hx hb rfl rfl (by omega) (by omega) dX4_firstFault_45 (by decide) (fun c_2 => ?_) (fun c_2 => ?_)
        ·
          refine lv_iconst (v := 0) hx hb dX4_firstFault_71 (by decide) ?_
          refine lv_istore (lv' := [(4, .int 0), (0, .ref ht), (1, .ref hs), (2, .int (nI i)), (3, .int (nI nn))]) hx hb dX4_firstFault_72 hl (by decide) rfl (fun ls hl => ?_)
          refine lv_iload hx hb dX4_firstFault_74 (lv_at hl 0 rfl) ?_
          refine ifN_eq (tgt := 84) (a := 0) hx hb rfl (by omega) dX4_firstFault_76 (by decide) (fun c_3 => ?_) (fun c_3 => ?_)
          ·
            refine lv_iload_n hx hb dX4_firstFault_84 rfl (lv_at hl 4 rfl) ?_
            have e2 := tRes_all hs_
            exact hret _ _ _ _ _ () dX4_firstFault_85 hS (by rw [e2.2]; exact hP) (by rw [e2.1, if_neg (fun h => by have h1 := h.1; have h2 := h.2.1; have h3 := h.2.2; omega)])
          ·
            exact absurd c_3 (by decide)
        ·
          refine lv_iload_n hx hb dX4_firstFault_48 rfl (lv_at hl 4 rfl) ?_
          refine lv_iconst (v := 1) hx hb dX4_firstFault_49 (by decide) ?_
          refine N_isub (a := nn) (b := 1) hx hb rfl rfl (by omega) dX4_firstFault_50 ?_
          refine lv_iconst (v := 4) hx hb dX4_firstFault_51 (by decide) ?_
          refine lv_irem hx hb dX4_firstFault_52 (by decide) ?_
          rw [show (nI (nn - 1) - nI (nn - 1) / 4 * 4 : Int32) = nI ((nn - 1) % 4) from pk_rem (d := 4) (by omega) (by decide) (by decide)]
          refine ifN_ne (tgt := 71) (a := (nn - 1) % 4) hx hb rfl (by omega) dX4_firstFault_53 (by decide) (fun c_4 => ?_) (fun c_4 => ?_)
          ·
            refine lv_iconst (v := 0) hx hb dX4_firstFault_71 (by decide) ?_
            refine lv_istore (lv' := [(4, .int 0), (0, .ref ht), (1, .ref hs), (2, .int (nI i)), (3, .int (nI nn))]) hx hb dX4_firstFault_72 hl (by decide) rfl (fun ls hl => ?_)
            refine lv_iload hx hb dX4_firstFault_74 (lv_at hl 0 rfl) ?_
            refine ifN_eq (tgt := 84) (a := 0) hx hb rfl (by omega) dX4_firstFault_76 (by decide) (fun c_5 => ?_) (fun c_5 => ?_)
            ·
              refine lv_iload_n hx hb dX4_firstFault_84 rfl (lv_at hl 4 rfl) ?_
              have e2 := tRes_all hs_
              exact hret _ _ _ _ _ () dX4_firstFault_85 hS (by rw [e2.2]; exact hP) (by rw [e2.1, if_neg (fun h => by have h1 := h.1; have h2 := h.2.1; have h3 := h.2.2; omega)])
            ·
              exact absurd c_5 (by decide)
          ·
            refine lv_aload_n hx hb dX4_firstFault_56 rfl (lv_at hl 1 rfl) ?_
            refine va_get (D := E.1) (ci := 4) (v := .ref h0) (C := RX4) (T := TX4) (N := 1) hx hb hts hinX4 hown hK.1 hP 0 rfl rfl 0 (by decide) fl_12 (fun _ h9 => h9) rfl dX4_firstFault_57 ?_
            refine va_get (D := E.1) (ci := 5) (v := .int (nI ((tS (fun q => ce (i + q)) kd mn pu nn).1))) (C := RX5) (T := TX5) (N := 7) hx hb hts hinX5 hown hK.1 hP 1 rfl rfl 5 (by decide) fl_18 (fun _ h9 => h9) rfl dX4_firstFault_60 ?_
            refine lv_iconst (v := 2) hx hb dX4_firstFault_63 (by decide) ?_
            have h6 := tS_le (fun q => ce (i + q)) kd mn pu nn
            refine icmpN_lt (tgt := 71) (a := (tS (fun q => ce (i + q)) kd mn pu nn).1) (b := 2) hx hb rfl rfl (by omega) (by omega) dX4_firstFault_64 (by decide) (fun c_6 => ?_) (fun c_6 => ?_)
            ·
              refine lv_iconst (v := 0) hx hb dX4_firstFault_71 (by decide) ?_
              refine lv_istore (lv' := [(4, .int 0), (0, .ref ht), (1, .ref hs), (2, .int (nI i)), (3, .int (nI nn))]) hx hb dX4_firstFault_72 hl (by decide) rfl (fun ls hl => ?_)
              refine lv_iload hx hb dX4_firstFault_74 (lv_at hl 0 rfl) ?_
              refine ifN_eq (tgt := 84) (a := 0) hx hb rfl (by omega) dX4_firstFault_76 (by decide) (fun c_7 => ?_) (fun c_7 => ?_)
              ·
                refine lv_iload_n hx hb dX4_firstFault_84 rfl (lv_at hl 4 rfl) ?_
                have e2 := tRes_all hs_
                exact hret _ _ _ _ _ () dX4_firstFault_85 hS (by rw [e2.2]; exact hP) (by rw [e2.1, if_neg (fun h => by have h1 := h.1; have h2 := h.2.1; have h3 := h.2.2; omega)])
              ·
                exact absurd c_7 (by decide)
            ·
              refine lv_iconst (v := 1) hx hb dX4_firstFault_67 (by decide) ?_
              refine lv_goto (tgt := 72) hx hb dX4_firstFault_68 (by decide) ?_
              refine lv_istore (lv' := [(4, .int 1), (0, .ref ht), (1, .ref hs), (2, .int (nI i)), (3, .int (nI nn))]) hx hb dX4_firstFault_72 hl (by decide) rfl (fun ls hl => ?_)
              refine lv_iload hx hb dX4_firstFault_74 (lv_at hl 0 rfl) ?_
              refine ifN_eq (tgt := 84) (a := 1) hx hb rfl (by omega) dX4_firstFault_76 (by decide) (fun c_8 => ?_) (fun c_8 => ?_)
              ·
                exact absurd c_8 (by decide)
              ·
                refine lv_bipush (v := (-9)) hx hb dX4_firstFault_79 (by decide) ?_
                refine lv_goto (tgt := 85) hx hb dX4_firstFault_81 (by decide) ?_
                have e2 := tRes_all hs_
                exact hret _ _ _ _ _ () dX4_firstFault_85 hS (by rw [e2.2]; exact hP) (by rw [e2.1, if_pos ⟨by omega, by omega, by omega⟩])
      ·
        refine lv_aload_n hx hb dX4_firstFault_17 rfl (lv_at hl 1 rfl) ?_
        refine lv_iload hx hb dX4_firstFault_18 (lv_at hl 0 rfl) ?_
        refine lv_aload_n hx hb dX4_firstFault_20 rfl (lv_at hl 2 rfl) ?_
        refine lv_iload_n hx hb dX4_firstFault_21 rfl (lv_at hl 3 rfl) ?_
        refine lv_iload hx hb dX4_firstFault_22 (lv_at hl 0 rfl) ?_
        refine N_iadd (a := i) (b := k) hx hb rfl rfl dX4_firstFault_24 ?_
        refine crV (As := [.int (nI (i + k))]) (rest := [.int (nI k), .ref ht]) ⟨hx, hb, hml, hown, hts⟩ (c_X3_at l E hs qs th la ln ce (nI (i + k)) (i + k) (by first | assumption | omega) (by first | assumption | omega) rfl) (cwV 1 hts gX4_firstFault_X3_at rfl rfl rfl (by decide +kernel) ⟨Nat.le_of_ble_eq_true rfl, Nat.le_of_ble_eq_true rfl⟩) hK hP [5, 6] rfl 0 rfl rfl rfl rfl hl.1 rfl (catLe (Nat.le_of_ble_eq_true rfl)) dX4_firstFault_25 ⟨Nat.zero_le _, Nat.zero_le _⟩ (fun r_9 hr_9 => ?_)
        subst hr_9
        have h6 := tS_le (fun q => ce (i + q)) kd mn pu k
        refine cwVi (As := [.int (nI k), .int (ce (i + k))]) (rest := []) ⟨hx, hb, hml, hown, hts⟩ (c_X4_goesOn l E _ ht h0 a0 a1 a2 a3 a4 ((tS (fun q => ce (i + q)) kd mn pu k).1) mo ((tS (fun q => ce (i + q)) kd mn pu k).2.1) ((tS (fun q => ce (i + q)) kd mn pu k).2.2.1) ((tS (fun q => ce (i + q)) kd mn pu k).2.2.2) k (ce (i + k)) (by first | assumption | omega) (by first | assumption | omega)) (cwV 2 hts gX4_firstFault_X4_goesOn rfl rfl rfl (by decide +kernel) ⟨Nat.le_of_ble_eq_true rfl, Nat.le_of_ble_eq_true rfl⟩) hK hP hD hS hA [0, 1, 2, 3, 4] (by decide) rfl [ht, h0, a0, a1, a2] (fun _ => rfl) rfl 0 rfl rfl rfl rfl hl.1 rfl (catLe (Nat.le_of_ble_eq_true rfl)) dX4_firstFault_28 ⟨Nat.zero_le _, Nat.zero_le _⟩ (fun r_10 u_11 H locs hwr_10 hP hD hS => ?_)
        have hP : va_P E.1 vwCl [ob ht 4 [.ref h0], ob h0 5 [.ref a0, .ref a1, .ref a2, .ref a3, .ref a4, .int (nI (gCt k ((tS (fun q => ce (i + q)) kd mn pu k).1))), .int mo], ar E a0 6 (gKd k ((tS (fun q => ce (i + q)) kd mn pu k).1) (ce (i + k)) ((tS (fun q => ce (i + q)) kd mn pu k).2.1)), ar E a1 6 (gMn k ((tS (fun q => ce (i + q)) kd mn pu k).1) (ce (i + k)) ((tS (fun q => ce (i + q)) kd mn pu k).2.2.1)), ar E a2 6 (gPu k ((tS (fun q => ce (i + q)) kd mn pu k).1) (ce (i + k)) ((tS (fun q => ce (i + q)) kd mn pu k).2.2.2)), ob hs 3 [.ref qs, .int th, .int la, .int (nI ln)], ar E qs 60 ce] H := hP
        have hD : va_D A [ob ht 4 [.ref h0], ob h0 5 [.ref a0, .ref a1, .ref a2, .ref a3, .ref a4, .int (nI (gCt k ((tS (fun q => ce (i + q)) kd mn pu k).1))), .int mo], ar E a0 6 (gKd k ((tS (fun q => ce (i + q)) kd mn pu k).1) (ce (i + k)) ((tS (fun q => ce (i + q)) kd mn pu k).2.1)), ar E a1 6 (gMn k ((tS (fun q => ce (i + q)) kd mn pu k).1) (ce (i + k)) ((tS (fun q => ce (i + q)) kd mn pu k).2.2.1)), ar E a2 6 (gPu k ((tS (fun q => ce (i + q)) kd mn pu k).1) (ce (i + k)) ((tS (fun q => ce (i + q)) kd mn pu k).2.2.2)), ob hs 3 [.ref qs, .int th, .int la, .int (nI ln)], ar E qs 60 ce] := hD
        subst hwr_10
        refine ifB_ne (P := gP k (ce (i + k)) ((tS (fun q => ce (i + q)) kd mn pu k).1) ((tS (fun q => ce (i + q)) kd mn pu k).2.1) ((tS (fun q => ce (i + q)) kd mn pu k).2.2.1)) (tgt := 37) hx hb dX4_firstFault_31 (by decide) (fun c_12 => ?_) (fun c_12 => ?_)
        ·
          refine lv_iinc (v := nI (k + 1)) (lv' := [(4, .int (nI (k + 1))), (0, .ref ht), (1, .ref hs), (2, .int (nI i)), (3, .int (nI nn))]) hx hb dX4_firstFault_37 hl (k := 0) rfl (nI_inc k) (by decide) rfl (fun ls hl => ?_)
          refine lv_goto (tgt := 11) hx hb dX4_firstFault_40 (by decide) ?_
          have hP : va_P E.1 vwCl [ob ht 4 [.ref h0], ob h0 5 [.ref a0, .ref a1, .ref a2, .ref a3, .ref a4, .int (nI ((tS (fun q => ce (i + q)) kd mn pu (k + 1)).1)), .int mo], ar E a0 6 ((tS (fun q => ce (i + q)) kd mn pu (k + 1)).2.1), ar E a1 6 ((tS (fun q => ce (i + q)) kd mn pu (k + 1)).2.2.1), ar E a2 6 ((tS (fun q => ce (i + q)) kd mn pu (k + 1)).2.2.2), ob hs 3 [.ref qs, .int th, .int la, .int (nI ln)], ar E qs 60 ce] H := by show va_P E.1 vwCl _ H; exact hP
          have hD : va_D A [ob ht 4 [.ref h0], ob h0 5 [.ref a0, .ref a1, .ref a2, .ref a3, .ref a4, .int (nI ((tS (fun q => ce (i + q)) kd mn pu (k + 1)).1)), .int mo], ar E a0 6 ((tS (fun q => ce (i + q)) kd mn pu (k + 1)).2.1), ar E a1 6 ((tS (fun q => ce (i + q)) kd mn pu (k + 1)).2.2.1), ar E a2 6 ((tS (fun q => ce (i + q)) kd mn pu (k + 1)).2.2.2), ob hs 3 [.ref qs, .int th, .int la, .int (nI ln)], ar E qs 60 ce] := va_D_addr hD [ht, h0, a0, a1, a2, hs, qs] rfl rfl
          exact ih11 (k + 1) (by omega) (lt_s hs_ (decide_eq_true c_12)) (by omega) _ _ hP hD hS ls (lv_sub hl [0, 1, 2, 3, 4] rfl)
        ·
          refine lv_iload hx hb dX4_firstFault_34 (lv_at hl 0 rfl) ?_
          have e2 := tRes_at hs_ (decide_eq_false c_12) (show k < nn by omega)
          exact hret _ _ _ _ _ () dX4_firstFault_36 hS (by rw [e2.2]; exact hP) (by rw [e2.1])
  exact L11 _ 0 (by omega) (fun w h => absurd h (Nat.not_lt_zero w)) (Nat.lt_succ_self _) _ _ hP hD hS ls (lv_sub hl [0, 1, 2, 3, 4] rfl)
