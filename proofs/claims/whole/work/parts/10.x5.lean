set_option maxHeartbeats 4000000 in
set_option maxRecDepth 100000 in
/-- roomOf(kind, men) -/
theorem c_X6_roomOf (l : Launch) (E : gE) (kk : Int32) (mm : Int32) : Met l yX6_roomOf wsX6_roomOf ({ frames := 0, cells := 0, slots := 0, locals := 0 }) (PR E [.int kk, .int mm] []) (vp_Si (fun r => r = roomF kk mm)) 0 0 (fun _ => False) := by
  refine mkRi (cc := cX6_roomOf) (maxL := 2) (by decide) rfl (Nat.le_of_ble_eq_true rfl) ?_
  intro p e s m args below meth c QQ hx hb hml hown hmn hts hK hP hret ls hl
  have hown : s.vm.findClass RX6 = some m.cls := hown
  have hl : lv_has ls 2 [(0, .int kk), (1, .int mm)] := hl
  refine lv_iload_n hx hb dX6_roomOf_0 rfl (lv_at hl 0 rfl) ?_
  refine lv_iconst (v := 2) hx hb dX6_roomOf_1 (by decide) ?_
  refine lv_icmp_ne (tgt := 9) hx hb dX6_roomOf_2 (by decide) (fun c_1 => ?_) (fun c_1 => ?_)
  ·
    refine lv_iload_n hx hb dX6_roomOf_9 rfl (lv_at hl 0 rfl) ?_
    refine lv_iconst (v := 1) hx hb dX6_roomOf_10 (by decide) ?_
    refine lv_icmp_ne (tgt := 20) hx hb dX6_roomOf_11 (by decide) (fun c_2 => ?_) (fun c_2 => ?_)
    ·
      refine lv_iload_n hx hb dX6_roomOf_20 rfl (lv_at hl 1 rfl) ?_
      exact hret _ _ _ dX6_roomOf_21 (by simp [roomF, c_1, c_2])
    ·
      refine lv_iload_n hx hb dX6_roomOf_14 rfl (lv_at hl 1 rfl) ?_
      refine lv_iconst (v := 1) hx hb dX6_roomOf_15 (by decide) ?_
      refine lv_iadd hx hb dX6_roomOf_16 ?_
      refine lv_goto (tgt := 21) hx hb dX6_roomOf_17 (by decide) ?_
      exact hret _ _ _ dX6_roomOf_21 (by simp [roomF, c_1, c_2])
  ·
    refine lv_iconst (v := 2) hx hb dX6_roomOf_5 (by decide) ?_
    refine lv_iload_n hx hb dX6_roomOf_6 rfl (lv_at hl 1 rfl) ?_
    refine lv_imul hx hb dX6_roomOf_7 ?_
    exact hret _ _ _ dX6_roomOf_8 (by simp [roomF, c_1])
set_option maxHeartbeats 4000000 in
set_option maxRecDepth 100000 in
/-- Wires.has(w) -/
theorem c_X5_has (l : Launch) (E : gE) (h0 : Nat) (a0 : Nat) (a1 : Nat) (a2 : Nat) (a3 : Nat) (a4 : Nat) (n : Nat) (mo : Int32) (w : Int32) (hn : n ≤ 6) : Met l yX5_has wsX5_has ({ frames := 0, cells := 0, slots := 0, locals := 0 }) (PR E [.ref h0, .int w] [ob h0 5 [.ref a0, .ref a1, .ref a2, .ref a3, .ref a4, .int (nI n), .int mo]]) (vp_Si (fun r => r = if hasP n w then 1 else 0)) 0 0 (fun _ => False) := by
  refine mkRz (cc := cX5_has) (maxL := 2) (by decide) rfl (Nat.le_of_ble_eq_true rfl) ?_
  intro p e s m args below meth c QQ hx hb hml hown hmn hts hK hP hret ls hl
  have hown : s.vm.findClass RX5 = some m.cls := hown
  have hl : lv_has ls 2 [(0, .ref h0), (1, .int w)] := hl
  have hinX5 : ∀ w ∈ wsX50, w ∈ wsX5_has := by decide +kernel
  have fl_27 := hts (.fieldLink RX5 27 "GuardAbacus$Wires" "count" "I") (by decide +kernel)
  refine lv_iload_n hx hb dX5_has_0 rfl (lv_at hl 1 rfl) ?_
  refine lv_if_lt (tgt := 22) hx hb dX5_has_1 (by decide) (fun c_1 => ?_) (fun c_1 => ?_)
  ·
    have c_1b := Int32.not_le.mpr c_1
    refine lv_iconst (v := 0) hx hb dX5_has_22 (by decide) ?_
    exact hret _ _ _ dX5_has_23 rfl (by simp [hasP, c_1, c_1b])
  ·
    have c_1b := Int32.not_lt.mp c_1
    refine lv_iload_n hx hb dX5_has_4 rfl (lv_at hl 1 rfl) ?_
    refine lv_aload_n hx hb dX5_has_5 rfl (lv_at hl 0 rfl) ?_
    refine va_get (D := E.1) (ci := 5) (v := .int (nI n)) (C := RX5) (T := TX5) (N := 7) hx hb hts hinX5 hown hK.1 hP 0 rfl rfl 5 (by decide) fl_27 (fun _ h9 => h9) rfl dX5_has_6 ?_
    refine lv_icmp_ge (tgt := 22) hx hb dX5_has_9 (by decide) (fun c_2 => ?_) (fun c_2 => ?_)
    ·
      have c_2b := Int32.not_lt.mpr c_2
      refine lv_iconst (v := 0) hx hb dX5_has_22 (by decide) ?_
      exact hret _ _ _ dX5_has_23 rfl (by simp [hasP, c_1, c_2, c_1b, c_2b])
    ·
      have c_2b := Int32.not_le.mp c_2
      refine lv_iload_n hx hb dX5_has_12 rfl (lv_at hl 1 rfl) ?_
      refine lv_bipush (v := 6) hx hb dX5_has_13 (by decide) ?_
      refine lv_icmp_ge (tgt := 22) hx hb dX5_has_15 (by decide) (fun c_3 => ?_) (fun c_3 => ?_)
      ·
        exact absurd c_3 (fun h6 => has6 (by assumption) hn h6)
      ·
        have c_3b := Int32.not_le.mp c_3
        refine lv_iconst (v := 1) hx hb dX5_has_18 (by decide) ?_
        refine lv_goto (tgt := 23) hx hb dX5_has_19 (by decide) ?_
        exact hret _ _ _ dX5_has_23 rfl (by simp [hasP, c_1, c_2, c_3, c_1b, c_2b, c_3b])
set_option maxHeartbeats 4000000 in
set_option maxRecDepth 100000 in
theorem c_X5_pushedTogether (l : Launch) (E : gE) (h0 : Nat) (a0 : Nat) (a1 : Nat) (a2 : Nat) (a3 : Nat) (a4 : Nat) (n : Nat) (mo : Int32) (pu : Nat → Int32) (hn : n ≤ 6) : Met l yX5_pushedTogether wsX5_pushedTogether ({ frames := 0, cells := 0, slots := 0, locals := 0 }) (PR E [.ref h0] [ob h0 5 [.ref a0, .ref a1, .ref a2, .ref a3, .ref a4, .int (nI n), .int mo], ar E a2 6 pu]) (vp_Si (fun r => r = sumF pu n)) 0 0 (fun _ => False) := by
  refine mkRi (cc := cX5_pushedTogether) (maxL := 3) (by decide) rfl (Nat.le_of_ble_eq_true rfl) ?_
  intro p e s m args below meth c QQ hx hb hml hown hmn hts hK hP hret ls hl
  have hown : s.vm.findClass RX5 = some m.cls := hown
  have hl : lv_has ls 3 [(0, .ref h0)] := hl
  have hinX5 : ∀ w ∈ wsX50, w ∈ wsX5_pushedTogether := by decide +kernel
  have fl_18 := hts (.fieldLink RX5 18 "GuardAbacus$Wires" "pushed" "[I") (by decide +kernel)
  have fl_27 := hts (.fieldLink RX5 27 "GuardAbacus$Wires" "count" "I") (by decide +kernel)
  refine lv_iconst (v := 0) hx hb dX5_pushedTogether_0 (by decide) ?_
  refine lv_istore_n (lv' := [(1, .int 0), (0, .ref h0)]) hx hb dX5_pushedTogether_1 rfl hl (by decide) rfl (fun ls hl => ?_)
  refine lv_iconst (v := 0) hx hb dX5_pushedTogether_2 (by decide) ?_
  refine lv_istore_n (lv' := [(2, .int 0), (1, .int 0), (0, .ref h0)]) hx hb dX5_pushedTogether_3 rfl hl (by decide) rfl (fun ls hl => ?_)
  have L4 : ∀ (fuel : Nat) (k : Nat), (k ≤ n) → (n - k) < fuel → ∀ ls : Array Slot, lv_has ls 3 [(2, .int (nI k)), (1, .int (sumF pu k)), (0, .ref h0)] → W p l e ({ frames := 0, cells := 0, slots := 0, locals := 0 }) s m args below meth c s.heap [] 0 0 QQ (F0 m 4 ls []) := by
    intro fuel
    induction fuel with
    | zero => intro k hk hf; exact absurd hf (Nat.not_lt_zero _)
    | succ fuel ih4 =>
      intro k hk hf4 ls hl
      refine lv_iload_n hx hb dX5_pushedTogether_4 rfl (lv_at hl 0 rfl) ?_
      refine lv_aload_n hx hb dX5_pushedTogether_5 rfl (lv_at hl 2 rfl) ?_
      refine va_get (D := E.1) (ci := 5) (v := .int (nI n)) (C := RX5) (T := TX5) (N := 7) hx hb hts hinX5 hown hK.1 hP 0 rfl rfl 5 (by decide) fl_27 (fun _ h9 => h9) rfl dX5_pushedTogether_6 ?_
      refine icmpN_ge (tgt := 27) (a := k) (b := n) hx hb rfl rfl (by omega) (by omega) dX5_pushedTogether_9 (by decide) (fun c_1 => ?_) (fun c_1 => ?_)
      ·
        obtain rfl : n = k := by omega
        refine lv_iload_n hx hb dX5_pushedTogether_27 rfl (lv_at hl 1 rfl) ?_
        exact hret _ _ _ dX5_pushedTogether_28 rfl
      ·
        refine lv_iload_n hx hb dX5_pushedTogether_12 rfl (lv_at hl 1 rfl) ?_
        refine lv_aload_n hx hb dX5_pushedTogether_13 rfl (lv_at hl 2 rfl) ?_
        refine va_get (D := E.1) (ci := 5) (v := .ref a2) (C := RX5) (T := TX5) (N := 7) hx hb hts hinX5 hown hK.1 hP 0 rfl rfl 2 (by decide) fl_18 (fun _ h9 => h9) rfl dX5_pushedTogether_14 ?_
        refine lv_iload_n hx hb dX5_pushedTogether_17 rfl (lv_at hl 0 rfl) ?_
        refine ild hx hb hK hP 1 rfl (j := k) rfl (by omega) (by decide) dX5_pushedTogether_18 ?_
        refine lv_iadd hx hb dX5_pushedTogether_19 ?_
        refine lv_istore_n (lv' := [(1, .int ((sumF pu k) + (pu k))), (2, .int (nI k)), (0, .ref h0)]) hx hb dX5_pushedTogether_20 rfl hl (by decide) rfl (fun ls hl => ?_)
        refine lv_iinc (v := nI (k + 1)) (lv' := [(2, .int (nI (k + 1))), (1, .int ((sumF pu k) + (pu k))), (0, .ref h0)]) hx hb dX5_pushedTogether_21 hl (k := 1) rfl (nI_inc k) (by decide) rfl (fun ls hl => ?_)
        refine lv_goto (tgt := 4) hx hb dX5_pushedTogether_24 (by decide) ?_
        exact ih4 (k + 1) (by omega) (by omega) ls (lv_sub hl [0, 1, 2] rfl)
  exact L4 _ 0 (by omega) (Nat.lt_succ_self _) ls (lv_sub hl [0, 1, 2] rfl)
set_option maxHeartbeats 4000000 in
set_option maxRecDepth 100000 in
theorem c_X5_menTogether (l : Launch) (E : gE) (h0 : Nat) (a0 : Nat) (a1 : Nat) (a2 : Nat) (a3 : Nat) (a4 : Nat) (n : Nat) (mo : Int32) (mn : Nat → Int32) (hn : n ≤ 6) : Met l yX5_menTogether wsX5_menTogether ({ frames := 0, cells := 0, slots := 0, locals := 0 }) (PR E [.ref h0] [ob h0 5 [.ref a0, .ref a1, .ref a2, .ref a3, .ref a4, .int (nI n), .int mo], ar E a1 6 mn]) (vp_Si (fun r => r = sumF mn n)) 0 0 (fun _ => False) := by
  refine mkRi (cc := cX5_menTogether) (maxL := 3) (by decide) rfl (Nat.le_of_ble_eq_true rfl) ?_
  intro p e s m args below meth c QQ hx hb hml hown hmn hts hK hP hret ls hl
  have hown : s.vm.findClass RX5 = some m.cls := hown
  have hl : lv_has ls 3 [(0, .ref h0)] := hl
  have hinX5 : ∀ w ∈ wsX50, w ∈ wsX5_menTogether := by decide +kernel
  have fl_15 := hts (.fieldLink RX5 15 "GuardAbacus$Wires" "men" "[I") (by decide +kernel)
  have fl_27 := hts (.fieldLink RX5 27 "GuardAbacus$Wires" "count" "I") (by decide +kernel)
  refine lv_iconst (v := 0) hx hb dX5_menTogether_0 (by decide) ?_
  refine lv_istore_n (lv' := [(1, .int 0), (0, .ref h0)]) hx hb dX5_menTogether_1 rfl hl (by decide) rfl (fun ls hl => ?_)
  refine lv_iconst (v := 0) hx hb dX5_menTogether_2 (by decide) ?_
  refine lv_istore_n (lv' := [(2, .int 0), (1, .int 0), (0, .ref h0)]) hx hb dX5_menTogether_3 rfl hl (by decide) rfl (fun ls hl => ?_)
  have L4 : ∀ (fuel : Nat) (k : Nat), (k ≤ n) → (n - k) < fuel → ∀ ls : Array Slot, lv_has ls 3 [(2, .int (nI k)), (1, .int (sumF mn k)), (0, .ref h0)] → W p l e ({ frames := 0, cells := 0, slots := 0, locals := 0 }) s m args below meth c s.heap [] 0 0 QQ (F0 m 4 ls []) := by
    intro fuel
    induction fuel with
    | zero => intro k hk hf; exact absurd hf (Nat.not_lt_zero _)
    | succ fuel ih4 =>
      intro k hk hf4 ls hl
      refine lv_iload_n hx hb dX5_menTogether_4 rfl (lv_at hl 0 rfl) ?_
      refine lv_aload_n hx hb dX5_menTogether_5 rfl (lv_at hl 2 rfl) ?_
      refine va_get (D := E.1) (ci := 5) (v := .int (nI n)) (C := RX5) (T := TX5) (N := 7) hx hb hts hinX5 hown hK.1 hP 0 rfl rfl 5 (by decide) fl_27 (fun _ h9 => h9) rfl dX5_menTogether_6 ?_
      refine icmpN_ge (tgt := 27) (a := k) (b := n) hx hb rfl rfl (by omega) (by omega) dX5_menTogether_9 (by decide) (fun c_1 => ?_) (fun c_1 => ?_)
      ·
        obtain rfl : n = k := by omega
        refine lv_iload_n hx hb dX5_menTogether_27 rfl (lv_at hl 1 rfl) ?_
        exact hret _ _ _ dX5_menTogether_28 rfl
      ·
        refine lv_iload_n hx hb dX5_menTogether_12 rfl (lv_at hl 1 rfl) ?_
        refine lv_aload_n hx hb dX5_menTogether_13 rfl (lv_at hl 2 rfl) ?_
        refine va_get (D := E.1) (ci := 5) (v := .ref a1) (C := RX5) (T := TX5) (N := 7) hx hb hts hinX5 hown hK.1 hP 0 rfl rfl 1 (by decide) fl_15 (fun _ h9 => h9) rfl dX5_menTogether_14 ?_
        refine lv_iload_n hx hb dX5_menTogether_17 rfl (lv_at hl 0 rfl) ?_
        refine ild hx hb hK hP 1 rfl (j := k) rfl (by omega) (by decide) dX5_menTogether_18 ?_
        refine lv_iadd hx hb dX5_menTogether_19 ?_
        refine lv_istore_n (lv' := [(1, .int ((sumF mn k) + (mn k))), (2, .int (nI k)), (0, .ref h0)]) hx hb dX5_menTogether_20 rfl hl (by decide) rfl (fun ls hl => ?_)
        refine lv_iinc (v := nI (k + 1)) (lv' := [(2, .int (nI (k + 1))), (1, .int ((sumF mn k) + (mn k))), (0, .ref h0)]) hx hb dX5_menTogether_21 hl (k := 1) rfl (nI_inc k) (by decide) rfl (fun ls hl => ?_)
        refine lv_goto (tgt := 4) hx hb dX5_menTogether_24 (by decide) ?_
        exact ih4 (k + 1) (by omega) (by omega) ls (lv_sub hl [0, 1, 2] rfl)
  exact L4 _ 0 (by omega) (Nat.lt_succ_self _) ls (lv_sub hl [0, 1, 2] rfl)
set_option maxHeartbeats 4000000 in
set_option maxRecDepth 100000 in
theorem c_X5_numberNow (l : Launch) (E : gE) (h0 : Nat) (a0 : Nat) (a1 : Nat) (a2 : Nat) (a3 : Nat) (a4 : Nat) (n : Nat) (mo : Int32) (pu : Nat → Int32) (wo : Nat → Int32) (hn : n ≤ 6) : Met l yX5_numberNow wsX5_numberNow ({ frames := 0, cells := 0, slots := 0, locals := 0 }) (PR E [.ref h0] [ob h0 5 [.ref a0, .ref a1, .ref a2, .ref a3, .ref a4, .int (nI n), .int mo], ar E a2 6 pu, ar E a4 6 wo]) (vp_Si (fun r => r = numF pu wo n)) 0 0 (fun _ => False) := by
  refine mkRi (cc := cX5_numberNow) (maxL := 3) (by decide) rfl (Nat.le_of_ble_eq_true rfl) ?_
  intro p e s m args below meth c QQ hx hb hml hown hmn hts hK hP hret ls hl
  have hown : s.vm.findClass RX5 = some m.cls := hown
  have hl : lv_has ls 3 [(0, .ref h0)] := hl
  have hinX5 : ∀ w ∈ wsX50, w ∈ wsX5_numberNow := by decide +kernel
  have fl_18 := hts (.fieldLink RX5 18 "GuardAbacus$Wires" "pushed" "[I") (by decide +kernel)
  have fl_24 := hts (.fieldLink RX5 24 "GuardAbacus$Wires" "worth" "[I") (by decide +kernel)
  have fl_27 := hts (.fieldLink RX5 27 "GuardAbacus$Wires" "count" "I") (by decide +kernel)
  refine lv_iconst (v := 0) hx hb dX5_numberNow_0 (by decide) ?_
  refine lv_istore_n (lv' := [(1, .int 0), (0, .ref h0)]) hx hb dX5_numberNow_1 rfl hl (by decide) rfl (fun ls hl => ?_)
  refine lv_iconst (v := 0) hx hb dX5_numberNow_2 (by decide) ?_
  refine lv_istore_n (lv' := [(2, .int 0), (1, .int 0), (0, .ref h0)]) hx hb dX5_numberNow_3 rfl hl (by decide) rfl (fun ls hl => ?_)
  have L4 : ∀ (fuel : Nat) (k : Nat), (k ≤ n) → (n - k) < fuel → ∀ ls : Array Slot, lv_has ls 3 [(2, .int (nI k)), (1, .int (numF pu wo k)), (0, .ref h0)] → W p l e ({ frames := 0, cells := 0, slots := 0, locals := 0 }) s m args below meth c s.heap [] 0 0 QQ (F0 m 4 ls []) := by
    intro fuel
    induction fuel with
    | zero => intro k hk hf; exact absurd hf (Nat.not_lt_zero _)
    | succ fuel ih4 =>
      intro k hk hf4 ls hl
      refine lv_iload_n hx hb dX5_numberNow_4 rfl (lv_at hl 0 rfl) ?_
      refine lv_aload_n hx hb dX5_numberNow_5 rfl (lv_at hl 2 rfl) ?_
      refine va_get (D := E.1) (ci := 5) (v := .int (nI n)) (C := RX5) (T := TX5) (N := 7) hx hb hts hinX5 hown hK.1 hP 0 rfl rfl 5 (by decide) fl_27 (fun _ h9 => h9) rfl dX5_numberNow_6 ?_
      refine icmpN_ge (tgt := 34) (a := k) (b := n) hx hb rfl rfl (by omega) (by omega) dX5_numberNow_9 (by decide) (fun c_1 => ?_) (fun c_1 => ?_)
      ·
        obtain rfl : n = k := by omega
        refine lv_iload_n hx hb dX5_numberNow_34 rfl (lv_at hl 1 rfl) ?_
        exact hret _ _ _ dX5_numberNow_35 rfl
      ·
        refine lv_iload_n hx hb dX5_numberNow_12 rfl (lv_at hl 1 rfl) ?_
        refine lv_aload_n hx hb dX5_numberNow_13 rfl (lv_at hl 2 rfl) ?_
        refine va_get (D := E.1) (ci := 5) (v := .ref a2) (C := RX5) (T := TX5) (N := 7) hx hb hts hinX5 hown hK.1 hP 0 rfl rfl 2 (by decide) fl_18 (fun _ h9 => h9) rfl dX5_numberNow_14 ?_
        refine lv_iload_n hx hb dX5_numberNow_17 rfl (lv_at hl 0 rfl) ?_
        refine ild hx hb hK hP 1 rfl (j := k) rfl (by omega) (by decide) dX5_numberNow_18 ?_
        refine lv_aload_n hx hb dX5_numberNow_19 rfl (lv_at hl 2 rfl) ?_
        refine va_get (D := E.1) (ci := 5) (v := .ref a4) (C := RX5) (T := TX5) (N := 7) hx hb hts hinX5 hown hK.1 hP 0 rfl rfl 4 (by decide) fl_24 (fun _ h9 => h9) rfl dX5_numberNow_20 ?_
        refine lv_iload_n hx hb dX5_numberNow_23 rfl (lv_at hl 0 rfl) ?_
        refine ild hx hb hK hP 2 rfl (j := k) rfl (by omega) (by decide) dX5_numberNow_24 ?_
        refine lv_imul hx hb dX5_numberNow_25 ?_
        refine lv_iadd hx hb dX5_numberNow_26 ?_
        refine lv_istore_n (lv' := [(1, .int ((numF pu wo k) + ((pu k) * (wo k)))), (2, .int (nI k)), (0, .ref h0)]) hx hb dX5_numberNow_27 rfl hl (by decide) rfl (fun ls hl => ?_)
        refine lv_iinc (v := nI (k + 1)) (lv' := [(2, .int (nI (k + 1))), (1, .int ((numF pu wo k) + ((pu k) * (wo k)))), (0, .ref h0)]) hx hb dX5_numberNow_28 hl (k := 1) rfl (nI_inc k) (by decide) rfl (fun ls hl => ?_)
        refine lv_goto (tgt := 4) hx hb dX5_numberNow_31 (by decide) ?_
        exact ih4 (k + 1) (by omega) (by omega) ls (lv_sub hl [0, 1, 2] rfl)
  exact L4 _ 0 (by omega) (Nat.lt_succ_self _) ls (lv_sub hl [0, 1, 2] rfl)
set_option maxHeartbeats 4000000 in
set_option maxRecDepth 100000 in
theorem c_X5_hasRoom (l : Launch) (E : gE) (h0 : Nat) (a0 : Nat) (a1 : Nat) (a2 : Nat) (a3 : Nat) (a4 : Nat) (n : Nat) (mo : Int32) (pu : Nat → Int32) (ro : Nat → Int32) (hn : n ≤ 6) : Met l yX5_hasRoom wsX5_hasRoom ({ frames := 0, cells := 0, slots := 0, locals := 0 }) (PR E [.ref h0] [ob h0 5 [.ref a0, .ref a1, .ref a2, .ref a3, .ref a4, .int (nI n), .int mo], ar E a2 6 pu, ar E a3 6 ro]) (vp_Si (fun r => r = if roomP pu ro n then 1 else 0)) 0 0 (fun _ => False) := by
  refine mkRz (cc := cX5_hasRoom) (maxL := 2) (by decide) rfl (Nat.le_of_ble_eq_true rfl) ?_
  intro p e s m args below meth c QQ hx hb hml hown hmn hts hK hP hret ls hl
  have hown : s.vm.findClass RX5 = some m.cls := hown
  have hl : lv_has ls 2 [(0, .ref h0)] := hl
  have hinX5 : ∀ w ∈ wsX50, w ∈ wsX5_hasRoom := by decide +kernel
  have fl_18 := hts (.fieldLink RX5 18 "GuardAbacus$Wires" "pushed" "[I") (by decide +kernel)
  have fl_21 := hts (.fieldLink RX5 21 "GuardAbacus$Wires" "room" "[I") (by decide +kernel)
  have fl_27 := hts (.fieldLink RX5 27 "GuardAbacus$Wires" "count" "I") (by decide +kernel)
  refine lv_iconst (v := 0) hx hb dX5_hasRoom_0 (by decide) ?_
  refine lv_istore_n (lv' := [(1, .int 0), (0, .ref h0)]) hx hb dX5_hasRoom_1 rfl hl (by decide) rfl (fun ls hl => ?_)
  have L2 : ∀ (fuel : Nat) (k : Nat), (k ≤ n) → (∀ w, w < k → pu w ≤ ro w) → (n - k) < fuel → ∀ ls : Array Slot, lv_has ls 2 [(1, .int (nI k)), (0, .ref h0)] → W p l e ({ frames := 0, cells := 0, slots := 0, locals := 0 }) s m args below meth c s.heap [] 0 0 QQ (F0 m 2 ls []) := by
    intro fuel
    induction fuel with
    | zero => intro k hk hs hf; exact absurd hf (Nat.not_lt_zero _)
    | succ fuel ih2 =>
      intro k hk hs hf2 ls hl
      refine lv_iload_n hx hb dX5_hasRoom_2 rfl (lv_at hl 0 rfl) ?_
      refine lv_aload_n hx hb dX5_hasRoom_3 rfl (lv_at hl 1 rfl) ?_
      refine va_get (D := E.1) (ci := 5) (v := .int (nI n)) (C := RX5) (T := TX5) (N := 7) hx hb hts hinX5 hown hK.1 hP 0 rfl rfl 5 (by decide) fl_27 (fun _ h9 => h9) rfl dX5_hasRoom_4 ?_
      refine icmpN_ge (tgt := 33) (a := k) (b := n) hx hb rfl rfl (by omega) (by omega) dX5_hasRoom_7 (by decide) (fun c_1 => ?_) (fun c_1 => ?_)
      ·
        obtain rfl : n = k := by omega
        refine lv_iconst (v := 1) hx hb dX5_hasRoom_33 (by decide) ?_
        exact hret _ _ _ dX5_hasRoom_34 rfl (by rw [if_pos hs])
      ·
        refine lv_aload_n hx hb dX5_hasRoom_10 rfl (lv_at hl 1 rfl) ?_
        refine va_get (D := E.1) (ci := 5) (v := .ref a2) (C := RX5) (T := TX5) (N := 7) hx hb hts hinX5 hown hK.1 hP 0 rfl rfl 2 (by decide) fl_18 (fun _ h9 => h9) rfl dX5_hasRoom_11 ?_
        refine lv_iload_n hx hb dX5_hasRoom_14 rfl (lv_at hl 0 rfl) ?_
        refine ild hx hb hK hP 1 rfl (j := k) rfl (by omega) (by decide) dX5_hasRoom_15 ?_
        refine lv_aload_n hx hb dX5_hasRoom_16 rfl (lv_at hl 1 rfl) ?_
        refine va_get (D := E.1) (ci := 5) (v := .ref a3) (C := RX5) (T := TX5) (N := 7) hx hb hts hinX5 hown hK.1 hP 0 rfl rfl 3 (by decide) fl_21 (fun _ h9 => h9) rfl dX5_hasRoom_17 ?_
        refine lv_iload_n hx hb dX5_hasRoom_20 rfl (lv_at hl 0 rfl) ?_
        refine ild hx hb hK hP 2 rfl (j := k) rfl (by omega) (by decide) dX5_hasRoom_21 ?_
        refine lv_icmp_le (tgt := 27) hx hb dX5_hasRoom_22 (by decide) (fun c_2 => ?_) (fun c_2 => ?_)
        ·
          have c_2b := Int32.not_lt.mpr c_2
          refine lv_iinc (v := nI (k + 1)) (lv' := [(1, .int (nI (k + 1))), (0, .ref h0)]) hx hb dX5_hasRoom_27 hl (k := 0) rfl (nI_inc k) (by decide) rfl (fun ls hl => ?_)
          refine lv_goto (tgt := 2) hx hb dX5_hasRoom_30 (by decide) ?_
          exact ih2 (k + 1) (by omega) (lt_s hs c_2) (by omega) ls (lv_sub hl [0, 1] rfl)
        ·
          have c_2b := Int32.not_le.mp c_2
          refine lv_iconst (v := 0) hx hb dX5_hasRoom_25 (by decide) ?_
          exact hret _ _ _ dX5_hasRoom_26 rfl (by rw [if_neg (fun h => c_2 (h k (by omega)))])
  exact L2 _ 0 (by omega) (fun w h => absurd h (Nat.not_lt_zero w)) (Nat.lt_succ_self _) ls (lv_sub hl [0, 1] rfl)
set_option maxHeartbeats 4000000 in
set_option maxRecDepth 100000 in
theorem c_X5_figureOf (l : Launch) (E : gE) (h0 : Nat) (a0 : Nat) (a1 : Nat) (a2 : Nat) (a3 : Nat) (a4 : Nat) (n : Nat) (mo : Int32) (ro : Nat → Int32) (wo : Nat → Int32) (w : Int32) (j : Nat) (v : Int32) (hg : WG n ro wo) (hj : j < n) (hwj : w = nI j) : Met l yX5_figureOf wsX5_figureOf ({ frames := 1, cells := 0, slots := 0, locals := 21 }) (PR E [.ref h0, .int w, .int v] [ob h0 5 [.ref a0, .ref a1, .ref a2, .ref a3, .ref a4, .int (nI n), .int mo], ar E a3 6 ro, ar E a4 6 wo]) (vp_Si (fun r => r = figF (wo j) (ro j) v)) 0 0 (fun _ => False) := by
  refine mkRi (cc := cX5_figureOf) (maxL := 3) (by decide) rfl (Nat.le_of_ble_eq_true rfl) ?_
  intro p e s m args below meth c QQ hx hb hml hown hmn hts hK hP hret ls hl
  have hown : s.vm.findClass RX5 = some m.cls := hown
  have hl : lv_has ls 3 [(0, .ref h0), (1, .int w), (2, .int v)] := hl
  have hinX5 : ∀ w ∈ wsX50, w ∈ wsX5_figureOf := by decide +kernel
  have fl_21 := hts (.fieldLink RX5 21 "GuardAbacus$Wires" "room" "[I") (by decide +kernel)
  have fl_24 := hts (.fieldLink RX5 24 "GuardAbacus$Wires" "worth" "[I") (by decide +kernel)
  subst hwj
  have hn := hg.le
  have hgj := hg.2 j hj
  refine lv_aload_n hx hb dX5_figureOf_0 rfl (lv_at hl 0 rfl) ?_
  refine lv_iload_n hx hb dX5_figureOf_1 rfl (lv_at hl 1 rfl) ?_
  refine crV (As := [.int (nI j)]) (rest := []) ⟨hx, hb, hml, hown, hts⟩ (c_X5_has l E h0 a0 a1 a2 a3 a4 n mo (nI j) (by first | assumption | omega)) (cwV 1 hts gX5_figureOf_X5_has rfl rfl rfl (by decide +kernel) ⟨Nat.le_of_ble_eq_true rfl, Nat.le_of_ble_eq_true rfl⟩) hK hP [0] rfl 0 rfl rfl rfl rfl hl.1 rfl (catLe (Nat.le_of_ble_eq_true rfl)) dX5_figureOf_2 ⟨Nat.zero_le _, Nat.zero_le _⟩ (fun r_1 hr_1 => ?_)
  subst hr_1
  refine ifB_eq (P := hasP n (nI j)) (tgt := 26) hx hb dX5_figureOf_5 (by decide) (fun c_2 => ?_) (fun c_2 => ?_)
  ·
    exact absurd (hasP_nI hj hn) c_2
  ·
    refine lv_aload_n hx hb dX5_figureOf_8 rfl (lv_at hl 0 rfl) ?_
    refine va_get (D := E.1) (ci := 5) (v := .ref a4) (C := RX5) (T := TX5) (N := 7) hx hb hts hinX5 hown hK.1 hP 0 rfl rfl 4 (by decide) fl_24 (fun _ h9 => h9) rfl dX5_figureOf_9 ?_
    refine lv_iload_n hx hb dX5_figureOf_12 rfl (lv_at hl 1 rfl) ?_
    refine ild hx hb hK hP 2 rfl (j := j) rfl (by omega) (by decide) dX5_figureOf_13 ?_
    refine lv_if_le (tgt := 26) hx hb dX5_figureOf_14 (by decide) (fun c_3 => ?_) (fun c_3 => ?_)
    ·
      exact absurd c_3 (pos_nle hgj.1)
    ·
      have c_3b := Int32.not_le.mp c_3
      refine lv_aload_n hx hb dX5_figureOf_17 rfl (lv_at hl 0 rfl) ?_
      refine va_get (D := E.1) (ci := 5) (v := .ref a3) (C := RX5) (T := TX5) (N := 7) hx hb hts hinX5 hown hK.1 hP 0 rfl rfl 3 (by decide) fl_21 (fun _ h9 => h9) rfl dX5_figureOf_18 ?_
      refine lv_iload_n hx hb dX5_figureOf_21 rfl (lv_at hl 1 rfl) ?_
      refine ild hx hb hK hP 1 rfl (j := j) rfl (by omega) (by decide) dX5_figureOf_22 ?_
      refine lv_if_ge (tgt := 28) hx hb dX5_figureOf_23 (by decide) (fun c_4 => ?_) (fun c_4 => ?_)
      ·
        have c_4b := Int32.not_lt.mpr c_4
        refine lv_iload_n hx hb dX5_figureOf_28 rfl (lv_at hl 2 rfl) ?_
        refine lv_aload_n hx hb dX5_figureOf_29 rfl (lv_at hl 0 rfl) ?_
        refine va_get (D := E.1) (ci := 5) (v := .ref a4) (C := RX5) (T := TX5) (N := 7) hx hb hts hinX5 hown hK.1 hP 0 rfl rfl 4 (by decide) fl_24 (fun _ h9 => h9) rfl dX5_figureOf_30 ?_
        refine lv_iload_n hx hb dX5_figureOf_33 rfl (lv_at hl 1 rfl) ?_
        refine ild hx hb hK hP 2 rfl (j := j) rfl (by omega) (by decide) dX5_figureOf_34 ?_
        refine lv_idiv hx hb dX5_figureOf_35 (pos_ne hgj.1) ?_
        refine lv_aload_n hx hb dX5_figureOf_36 rfl (lv_at hl 0 rfl) ?_
        refine va_get (D := E.1) (ci := 5) (v := .ref a3) (C := RX5) (T := TX5) (N := 7) hx hb hts hinX5 hown hK.1 hP 0 rfl rfl 3 (by decide) fl_21 (fun _ h9 => h9) rfl dX5_figureOf_37 ?_
        refine lv_iload_n hx hb dX5_figureOf_40 rfl (lv_at hl 1 rfl) ?_
        refine ild hx hb hK hP 1 rfl (j := j) rfl (by omega) (by decide) dX5_figureOf_41 ?_
        refine lv_iconst (v := 1) hx hb dX5_figureOf_42 (by decide) ?_
        refine lv_iadd hx hb dX5_figureOf_43 ?_
        refine lv_irem hx hb dX5_figureOf_44 hgj.2.2 ?_
        exact hret _ _ _ dX5_figureOf_45 rfl
      ·
        exact absurd hgj.2.1 c_4
set_option maxHeartbeats 4000000 in
set_option maxRecDepth 100000 in
theorem c_X5_canSum (l : Launch) (E : gE) (h0 : Nat) (a0 : Nat) (a1 : Nat) (a2 : Nat) (a3 : Nat) (a4 : Nat) (n : Nat) (mo : Int32) (pu : Nat → Int32) (wo : Nat → Int32) (v : Int32) (hn : n ≤ 6) : Met l yX5_canSum wsX5_canSum ({ frames := 1, cells := 0, slots := 0, locals := 22 }) (PR E [.ref h0, .int v] [ob h0 5 [.ref a0, .ref a1, .ref a2, .ref a3, .ref a4, .int (nI n), .int mo], ar E a2 6 pu, ar E a4 6 wo]) (vp_Si (fun r => r = if canP n mo (numF pu wo n) v then 1 else 0)) 0 0 (fun _ => False) := by
  refine mkRz (cc := cX5_canSum) (maxL := 2) (by decide) rfl (Nat.le_of_ble_eq_true rfl) ?_
  intro p e s m args below meth c QQ hx hb hml hown hmn hts hK hP hret ls hl
  have hown : s.vm.findClass RX5 = some m.cls := hown
  have hl : lv_has ls 2 [(0, .ref h0), (1, .int v)] := hl
  have hinX5 : ∀ w ∈ wsX50, w ∈ wsX5_canSum := by decide +kernel
  have fl_27 := hts (.fieldLink RX5 27 "GuardAbacus$Wires" "count" "I") (by decide +kernel)
  have fl_31 := hts (.fieldLink RX5 31 "GuardAbacus$Wires" "most" "I") (by decide +kernel)
  refine lv_aload_n hx hb dX5_canSum_0 rfl (lv_at hl 0 rfl) ?_
  refine va_get (D := E.1) (ci := 5) (v := .int (nI n)) (C := RX5) (T := TX5) (N := 7) hx hb hts hinX5 hown hK.1 hP 0 rfl rfl 5 (by decide) fl_27 (fun _ h9 => h9) rfl dX5_canSum_1 ?_
  refine ifN_le (tgt := 24) (a := n) hx hb rfl (by omega) dX5_canSum_4 (by decide) (fun c_1 => ?_) (fun c_1 => ?_)
  ·
    refine lv_iconst (v := 0) hx hb dX5_canSum_24 (by decide) ?_
    exact hret _ _ _ dX5_canSum_25 rfl (by simp [canP, c_1])
  ·
    refine lv_iload_n hx hb dX5_canSum_7 rfl (lv_at hl 1 rfl) ?_
    refine lv_aload_n hx hb dX5_canSum_8 rfl (lv_at hl 0 rfl) ?_
    refine va_get (D := E.1) (ci := 5) (v := .int mo) (C := RX5) (T := TX5) (N := 7) hx hb hts hinX5 hown hK.1 hP 0 rfl rfl 6 (by decide) fl_31 (fun _ h9 => h9) rfl dX5_canSum_9 ?_
    refine lv_aload_n hx hb dX5_canSum_12 rfl (lv_at hl 0 rfl) ?_
    refine crV (As := []) (rest := [.int mo, .int v]) ⟨hx, hb, hml, hown, hts⟩ (c_X5_numberNow l E h0 a0 a1 a2 a3 a4 n mo pu wo (by first | assumption | omega)) (cwV 0 hts gX5_canSum_X5_numberNow rfl rfl rfl (by decide +kernel) ⟨Nat.le_of_ble_eq_true rfl, Nat.le_of_ble_eq_true rfl⟩) hK hP [0, 1, 2] rfl 0 rfl rfl rfl rfl hl.1 rfl (catLe (Nat.le_of_ble_eq_true rfl)) dX5_canSum_13 ⟨Nat.zero_le _, Nat.zero_le _⟩ (fun r_2 hr_2 => ?_)
    subst hr_2
    refine lv_isub hx hb dX5_canSum_16 ?_
    refine lv_icmp_gt (tgt := 24) hx hb dX5_canSum_17 (by decide) (fun c_3 => ?_) (fun c_3 => ?_)
    ·
      have c_3b := Int32.not_le.mpr c_3
      refine lv_iconst (v := 0) hx hb dX5_canSum_24 (by decide) ?_
      exact hret _ _ _ dX5_canSum_25 rfl (by simp [canP, c_1, c_3, c_3b])
    ·
      have c_3b := Int32.not_lt.mp c_3
      refine lv_iconst (v := 1) hx hb dX5_canSum_20 (by decide) ?_
      refine lv_goto (tgt := 25) hx hb dX5_canSum_21 (by decide) ?_
      exact hret _ _ _ dX5_canSum_25 rfl (by simp [canP, c_1, c_3, c_3b])
set_option maxHeartbeats 4000000 in
set_option maxRecDepth 100000 in
theorem c_X5_canTake (l : Launch) (E : gE) (h0 : Nat) (a0 : Nat) (a1 : Nat) (a2 : Nat) (a3 : Nat) (a4 : Nat) (n : Nat) (mo : Int32) (pu : Nat → Int32) (wo : Nat → Int32) (v : Int32) (hn : n ≤ 6) : Met l yX5_canTake wsX5_canTake ({ frames := 1, cells := 0, slots := 0, locals := 22 }) (PR E [.ref h0, .int v] [ob h0 5 [.ref a0, .ref a1, .ref a2, .ref a3, .ref a4, .int (nI n), .int mo], ar E a2 6 pu, ar E a4 6 wo]) (vp_Si (fun r => r = if takP n (numF pu wo n) v then 1 else 0)) 0 0 (fun _ => False) := by
  refine mkRz (cc := cX5_canTake) (maxL := 2) (by decide) rfl (Nat.le_of_ble_eq_true rfl) ?_
  intro p e s m args below meth c QQ hx hb hml hown hmn hts hK hP hret ls hl
  have hown : s.vm.findClass RX5 = some m.cls := hown
  have hl : lv_has ls 2 [(0, .ref h0), (1, .int v)] := hl
  have hinX5 : ∀ w ∈ wsX50, w ∈ wsX5_canTake := by decide +kernel
  have fl_27 := hts (.fieldLink RX5 27 "GuardAbacus$Wires" "count" "I") (by decide +kernel)
  refine lv_aload_n hx hb dX5_canTake_0 rfl (lv_at hl 0 rfl) ?_
  refine va_get (D := E.1) (ci := 5) (v := .int (nI n)) (C := RX5) (T := TX5) (N := 7) hx hb hts hinX5 hown hK.1 hP 0 rfl rfl 5 (by decide) fl_27 (fun _ h9 => h9) rfl dX5_canTake_1 ?_
  refine ifN_le (tgt := 19) (a := n) hx hb rfl (by omega) dX5_canTake_4 (by decide) (fun c_1 => ?_) (fun c_1 => ?_)
  ·
    refine lv_iconst (v := 0) hx hb dX5_canTake_19 (by decide) ?_
    exact hret _ _ _ dX5_canTake_20 rfl (by simp [takP, c_1])
  ·
    refine lv_iload_n hx hb dX5_canTake_7 rfl (lv_at hl 1 rfl) ?_
    refine lv_aload_n hx hb dX5_canTake_8 rfl (lv_at hl 0 rfl) ?_
    refine crV (As := []) (rest := [.int v]) ⟨hx, hb, hml, hown, hts⟩ (c_X5_numberNow l E h0 a0 a1 a2 a3 a4 n mo pu wo (by first | assumption | omega)) (cwV 0 hts gX5_canTake_X5_numberNow rfl rfl rfl (by decide +kernel) ⟨Nat.le_of_ble_eq_true rfl, Nat.le_of_ble_eq_true rfl⟩) hK hP [0, 1, 2] rfl 0 rfl rfl rfl rfl hl.1 rfl (catLe (Nat.le_of_ble_eq_true rfl)) dX5_canTake_9 ⟨Nat.zero_le _, Nat.zero_le _⟩ (fun r_2 hr_2 => ?_)
    subst hr_2
    refine lv_icmp_gt (tgt := 19) hx hb dX5_canTake_12 (by decide) (fun c_3 => ?_) (fun c_3 => ?_)
    ·
      have c_3b := Int32.not_le.mpr c_3
      refine lv_iconst (v := 0) hx hb dX5_canTake_19 (by decide) ?_
      exact hret _ _ _ dX5_canTake_20 rfl (by simp [takP, c_1, c_3, c_3b])
    ·
      have c_3b := Int32.not_lt.mp c_3
      refine lv_iconst (v := 1) hx hb dX5_canTake_15 (by decide) ?_
      refine lv_goto (tgt := 20) hx hb dX5_canTake_16 (by decide) ?_
      exact hret _ _ _ dX5_canTake_20 rfl (by simp [takP, c_1, c_3, c_3b])
set_option maxHeartbeats 4000000 in
set_option maxRecDepth 100000 in
theorem c_X5_slidBetween (l : Launch) (E : gE) (h0 : Nat) (a0 : Nat) (a1 : Nat) (a2 : Nat) (a3 : Nat) (a4 : Nat) (n : Nat) (mo : Int32) (ro : Nat → Int32) (wo : Nat → Int32) (va : Int32) (vb : Int32) (hg : WG n ro wo) : Met l yX5_slidBetween wsX5_slidBetween ({ frames := 2, cells := 0, slots := 0, locals := 43 }) (PR E [.ref h0, .int va, .int vb] [ob h0 5 [.ref a0, .ref a1, .ref a2, .ref a3, .ref a4, .int (nI n), .int mo], ar E a3 6 ro, ar E a4 6 wo]) (vp_Si (fun r => r = slF ro wo va vb n)) 0 0 (fun _ => False) := by
  refine mkRi (cc := cX5_slidBetween) (maxL := 5) (by decide) rfl (Nat.le_of_ble_eq_true rfl) ?_
  intro p e s m args below meth c QQ hx hb hml hown hmn hts hK hP hret ls hl
  have hown : s.vm.findClass RX5 = some m.cls := hown
  have hl : lv_has ls 5 [(0, .ref h0), (1, .int va), (2, .int vb)] := hl
  have hinX5 : ∀ w ∈ wsX50, w ∈ wsX5_slidBetween := by decide +kernel
  have fl_27 := hts (.fieldLink RX5 27 "GuardAbacus$Wires" "count" "I") (by decide +kernel)
  have hn := hg.le
  refine lv_iconst (v := 0) hx hb dX5_slidBetween_0 (by decide) ?_
  refine lv_istore_n (lv' := [(3, .int 0), (0, .ref h0), (1, .int va), (2, .int vb)]) hx hb dX5_slidBetween_1 rfl hl (by decide) rfl (fun ls hl => ?_)
  refine lv_iconst (v := 0) hx hb dX5_slidBetween_2 (by decide) ?_
  refine lv_istore (lv' := [(4, .int 0), (3, .int 0), (0, .ref h0), (1, .int va), (2, .int vb)]) hx hb dX5_slidBetween_3 hl (by decide) rfl (fun ls hl => ?_)
  have L5 : ∀ (fuel : Nat) (k : Nat), (k ≤ n) → (n - k) < fuel → ∀ ls : Array Slot, lv_has ls 5 [(4, .int (nI k)), (3, .int (slF ro wo va vb k)), (0, .ref h0), (1, .int va), (2, .int vb)] → W p l e ({ frames := 2, cells := 0, slots := 0, locals := 43 }) s m args below meth c s.heap [] 0 0 QQ (F0 m 5 ls []) := by
    intro fuel
    induction fuel with
    | zero => intro k hk hf; exact absurd hf (Nat.not_lt_zero _)
    | succ fuel ih5 =>
      intro k hk hf5 ls hl
      refine lv_iload hx hb dX5_slidBetween_5 (lv_at hl 0 rfl) ?_
      refine lv_aload_n hx hb dX5_slidBetween_7 rfl (lv_at hl 2 rfl) ?_
      refine va_get (D := E.1) (ci := 5) (v := .int (nI n)) (C := RX5) (T := TX5) (N := 7) hx hb hts hinX5 hown hK.1 hP 0 rfl rfl 5 (by decide) fl_27 (fun _ h9 => h9) rfl dX5_slidBetween_8 ?_
      refine icmpN_ge (tgt := 41) (a := k) (b := n) hx hb rfl rfl (by omega) (by omega) dX5_slidBetween_11 (by decide) (fun c_1 => ?_) (fun c_1 => ?_)
      ·
        obtain rfl : n = k := by omega
        refine lv_iload_n hx hb dX5_slidBetween_41 rfl (lv_at hl 1 rfl) ?_
        exact hret _ _ _ dX5_slidBetween_42 rfl
      ·
        refine lv_iload_n hx hb dX5_slidBetween_14 rfl (lv_at hl 1 rfl) ?_
        refine lv_aload_n hx hb dX5_slidBetween_15 rfl (lv_at hl 2 rfl) ?_
        refine lv_iload hx hb dX5_slidBetween_16 (lv_at hl 0 rfl) ?_
        refine lv_iload_n hx hb dX5_slidBetween_18 rfl (lv_at hl 4 rfl) ?_
        refine crV (As := [.int (nI k), .int vb]) (rest := [.int (slF ro wo va vb k)]) ⟨hx, hb, hml, hown, hts⟩ (c_X5_figureOf l E h0 a0 a1 a2 a3 a4 n mo ro wo (nI k) k vb (by first | assumption | omega) (by first | assumption | omega) rfl) (cwV 2 hts gX5_slidBetween_X5_figureOf rfl rfl rfl (by decide +kernel) ⟨Nat.le_of_ble_eq_true rfl, Nat.le_of_ble_eq_true rfl⟩) hK hP [0, 1, 2] rfl 0 rfl rfl rfl rfl hl.1 rfl (catLe (Nat.le_of_ble_eq_true rfl)) dX5_slidBetween_19 ⟨Nat.zero_le _, Nat.zero_le _⟩ (fun r_2 hr_2 => ?_)
        subst hr_2
        refine lv_aload_n hx hb dX5_slidBetween_22 rfl (lv_at hl 2 rfl) ?_
        refine lv_iload hx hb dX5_slidBetween_23 (lv_at hl 0 rfl) ?_
        refine lv_iload_n hx hb dX5_slidBetween_25 rfl (lv_at hl 3 rfl) ?_
        refine crV (As := [.int (nI k), .int va]) (rest := [.int (figF (wo k) (ro k) vb), .int (slF ro wo va vb k)]) ⟨hx, hb, hml, hown, hts⟩ (c_X5_figureOf l E h0 a0 a1 a2 a3 a4 n mo ro wo (nI k) k va (by first | assumption | omega) (by first | assumption | omega) rfl) (cwV 2 hts gX5_slidBetween_X5_figureOf rfl rfl rfl (by decide +kernel) ⟨Nat.le_of_ble_eq_true rfl, Nat.le_of_ble_eq_true rfl⟩) hK hP [0, 1, 2] rfl 0 rfl rfl rfl rfl hl.1 rfl (catLe (Nat.le_of_ble_eq_true rfl)) dX5_slidBetween_26 ⟨Nat.zero_le _, Nat.zero_le _⟩ (fun r_3 hr_3 => ?_)
        subst hr_3
        refine lv_isub hx hb dX5_slidBetween_29 ?_
        refine va_mabs hx hb (hml.trans hl.1.symm) hown (hts (.methodLink RX5 52 Lib.Math.abs.name) (by decide +kernel)) (hts (.static Lib.Math.abs.name) (by decide +kernel)) (hts (.initialized "java/lang/Math") (by decide +kernel)) (hts (.code Lib.Math.abs.name Lib.Math.abs.code 1 (some .int)) (by decide +kernel)) (Nat.le_of_ble_eq_true rfl) (Nat.le_of_ble_eq_true rfl) (Nat.zero_le _) (Nat.zero_le _) dX5_slidBetween_30 ?_
        refine lv_iadd hx hb dX5_slidBetween_33 ?_
        refine lv_istore_n (lv' := [(3, .int ((slF ro wo va vb k) + (if 0 ≤ (figF (wo k) (ro k) vb) - (figF (wo k) (ro k) va) then ((figF (wo k) (ro k) vb) - (figF (wo k) (ro k) va)) else 0 - ((figF (wo k) (ro k) vb) - (figF (wo k) (ro k) va))))), (4, .int (nI k)), (0, .ref h0), (1, .int va), (2, .int vb)]) hx hb dX5_slidBetween_34 rfl hl (by decide) rfl (fun ls hl => ?_)
        refine lv_iinc (v := nI (k + 1)) (lv' := [(4, .int (nI (k + 1))), (3, .int ((slF ro wo va vb k) + (if 0 ≤ (figF (wo k) (ro k) vb) - (figF (wo k) (ro k) va) then ((figF (wo k) (ro k) vb) - (figF (wo k) (ro k) va)) else 0 - ((figF (wo k) (ro k) vb) - (figF (wo k) (ro k) va))))), (0, .ref h0), (1, .int va), (2, .int vb)]) hx hb dX5_slidBetween_35 hl (k := 1) rfl (nI_inc k) (by decide) rfl (fun ls hl => ?_)
        refine lv_goto (tgt := 5) hx hb dX5_slidBetween_38 (by decide) ?_
        exact ih5 (k + 1) (by omega) (by omega) ls (lv_sub hl [0, 1, 2, 3, 4] rfl)
  exact L5 _ 0 (by omega) (Nat.lt_succ_self _) ls (lv_sub hl [0, 1, 2, 3, 4] rfl)
set_option maxHeartbeats 4000000 in
set_option maxRecDepth 100000 in
theorem c_X5_carriedBy (l : Launch) (E : gE) (h0 : Nat) (a0 : Nat) (a1 : Nat) (a2 : Nat) (a3 : Nat) (a4 : Nat) (n : Nat) (mo : Int32) (ro : Nat → Int32) (wo : Nat → Int32) (va : Int32) (vb : Int32) (hg : WG n ro wo) : Met l yX5_carriedBy wsX5_carriedBy ({ frames := 2, cells := 0, slots := 0, locals := 43 }) (PR E [.ref h0, .int va, .int vb] [ob h0 5 [.ref a0, .ref a1, .ref a2, .ref a3, .ref a4, .int (nI n), .int mo], ar E a3 6 ro, ar E a4 6 wo]) (vp_Si (fun r => r = cyF ro wo va vb n)) 0 0 (fun _ => False) := by
  refine mkRi (cc := cX5_carriedBy) (maxL := 6) (by decide) rfl (Nat.le_of_ble_eq_true rfl) ?_
  intro p e s m args below meth c QQ hx hb hml hown hmn hts hK hP hret ls hl
  have hown : s.vm.findClass RX5 = some m.cls := hown
  have hl : lv_has ls 6 [(0, .ref h0), (1, .int va), (2, .int vb)] := hl
  have hinX5 : ∀ w ∈ wsX50, w ∈ wsX5_carriedBy := by decide +kernel
  have fl_21 := hts (.fieldLink RX5 21 "GuardAbacus$Wires" "room" "[I") (by decide +kernel)
  have fl_27 := hts (.fieldLink RX5 27 "GuardAbacus$Wires" "count" "I") (by decide +kernel)
  have hn := hg.le
  refine lv_iconst (v := 0) hx hb dX5_carriedBy_0 (by decide) ?_
  refine lv_istore_n (lv' := [(3, .int 0), (0, .ref h0), (1, .int va), (2, .int vb)]) hx hb dX5_carriedBy_1 rfl hl (by decide) rfl (fun ls hl => ?_)
  refine lv_iconst (v := 0) hx hb dX5_carriedBy_2 (by decide) ?_
  refine lv_istore (lv' := [(4, .int 0), (3, .int 0), (0, .ref h0), (1, .int va), (2, .int vb)]) hx hb dX5_carriedBy_3 hl (by decide) rfl (fun ls hl => ?_)
  refine lv_iconst (v := 0) hx hb dX5_carriedBy_5 (by decide) ?_
  refine lv_istore (lv' := [(5, .int 0), (4, .int 0), (3, .int 0), (0, .ref h0), (1, .int va), (2, .int vb)]) hx hb dX5_carriedBy_6 hl (by decide) rfl (fun ls hl => ?_)
  have L8 : ∀ (fuel : Nat) (k : Nat), (k ≤ n) → (n - k) < fuel → ∀ ls : Array Slot, lv_has ls 6 [(5, .int (nI k)), (4, .int (ovF ro wo va vb k)), (3, .int (cyF ro wo va vb k)), (0, .ref h0), (1, .int va), (2, .int vb)] → W p l e ({ frames := 2, cells := 0, slots := 0, locals := 43 }) s m args below meth c s.heap [] 0 0 QQ (F0 m 8 ls []) := by
    intro fuel
    induction fuel with
    | zero => intro k hk hf; exact absurd hf (Nat.not_lt_zero _)
    | succ fuel ih8 =>
      intro k hk hf8 ls hl
      refine lv_iload hx hb dX5_carriedBy_8 (lv_at hl 0 rfl) ?_
      refine lv_aload_n hx hb dX5_carriedBy_10 rfl (lv_at hl 3 rfl) ?_
      refine va_get (D := E.1) (ci := 5) (v := .int (nI n)) (C := RX5) (T := TX5) (N := 7) hx hb hts hinX5 hown hK.1 hP 0 rfl rfl 5 (by decide) fl_27 (fun _ h9 => h9) rfl dX5_carriedBy_11 ?_
      refine icmpN_ge (tgt := 63) (a := k) (b := n) hx hb rfl rfl (by omega) (by omega) dX5_carriedBy_14 (by decide) (fun c_1 => ?_) (fun c_1 => ?_)
      ·
        obtain rfl : n = k := by omega
        refine lv_iload_n hx hb dX5_carriedBy_63 rfl (lv_at hl 2 rfl) ?_
        exact hret _ _ _ dX5_carriedBy_64 rfl
      ·
        refine lv_aload_n hx hb dX5_carriedBy_17 rfl (lv_at hl 3 rfl) ?_
        refine lv_iload hx hb dX5_carriedBy_18 (lv_at hl 0 rfl) ?_
        refine lv_iload_n hx hb dX5_carriedBy_20 rfl (lv_at hl 4 rfl) ?_
        refine crV (As := [.int (nI k), .int va]) (rest := []) ⟨hx, hb, hml, hown, hts⟩ (c_X5_figureOf l E h0 a0 a1 a2 a3 a4 n mo ro wo (nI k) k va (by first | assumption | omega) (by first | assumption | omega) rfl) (cwV 2 hts gX5_carriedBy_X5_figureOf rfl rfl rfl (by decide +kernel) ⟨Nat.le_of_ble_eq_true rfl, Nat.le_of_ble_eq_true rfl⟩) hK hP [0, 1, 2] rfl 0 rfl rfl rfl rfl hl.1 rfl (catLe (Nat.le_of_ble_eq_true rfl)) dX5_carriedBy_21 ⟨Nat.zero_le _, Nat.zero_le _⟩ (fun r_2 hr_2 => ?_)
        subst hr_2
        refine lv_aload_n hx hb dX5_carriedBy_24 rfl (lv_at hl 3 rfl) ?_
        refine lv_iload hx hb dX5_carriedBy_25 (lv_at hl 0 rfl) ?_
        refine lv_iload_n hx hb dX5_carriedBy_27 rfl (lv_at hl 5 rfl) ?_
        refine crV (As := [.int (nI k), .int vb]) (rest := [.int (figF (wo k) (ro k) va)]) ⟨hx, hb, hml, hown, hts⟩ (c_X5_figureOf l E h0 a0 a1 a2 a3 a4 n mo ro wo (nI k) k vb (by first | assumption | omega) (by first | assumption | omega) rfl) (cwV 2 hts gX5_carriedBy_X5_figureOf rfl rfl rfl (by decide +kernel) ⟨Nat.le_of_ble_eq_true rfl, Nat.le_of_ble_eq_true rfl⟩) hK hP [0, 1, 2] rfl 0 rfl rfl rfl rfl hl.1 rfl (catLe (Nat.le_of_ble_eq_true rfl)) dX5_carriedBy_28 ⟨Nat.zero_le _, Nat.zero_le _⟩ (fun r_3 hr_3 => ?_)
        subst hr_3
        refine lv_iadd hx hb dX5_carriedBy_31 ?_
        refine lv_iload hx hb dX5_carriedBy_32 (lv_at hl 1 rfl) ?_
        refine lv_iadd hx hb dX5_carriedBy_34 ?_
        refine lv_aload_n hx hb dX5_carriedBy_35 rfl (lv_at hl 3 rfl) ?_
        refine va_get (D := E.1) (ci := 5) (v := .ref a3) (C := RX5) (T := TX5) (N := 7) hx hb hts hinX5 hown hK.1 hP 0 rfl rfl 3 (by decide) fl_21 (fun _ h9 => h9) rfl dX5_carriedBy_36 ?_
        refine lv_iload hx hb dX5_carriedBy_39 (lv_at hl 0 rfl) ?_
        refine ild hx hb hK hP 1 rfl (j := k) rfl (by omega) (by decide) dX5_carriedBy_41 ?_
        refine lv_icmp_le (tgt := 49) hx hb dX5_carriedBy_42 (by decide) (fun c_4 => ?_) (fun c_4 => ?_)
        ·
          have c_4b := Int32.not_lt.mpr c_4
          refine lv_iconst (v := 0) hx hb dX5_carriedBy_49 (by decide) ?_
          rw [show (0 : Int32) = ovF ro wo va vb (k + 1) from by simp [ovF, c_4]]
          refine lv_istore (lv' := [(4, .int (ovF ro wo va vb (k + 1))), (5, .int (nI k)), (3, .int (cyF ro wo va vb k)), (0, .ref h0), (1, .int va), (2, .int vb)]) hx hb dX5_carriedBy_50 hl (by decide) rfl (fun ls hl => ?_)
          refine lv_iload_n hx hb dX5_carriedBy_52 rfl (lv_at hl 2 rfl) ?_
          refine lv_iload hx hb dX5_carriedBy_53 (lv_at hl 0 rfl) ?_
          refine lv_iadd hx hb dX5_carriedBy_55 ?_
          refine lv_istore_n (lv' := [(3, .int ((cyF ro wo va vb k) + (ovF ro wo va vb (k + 1)))), (4, .int (ovF ro wo va vb (k + 1))), (5, .int (nI k)), (0, .ref h0), (1, .int va), (2, .int vb)]) hx hb dX5_carriedBy_56 rfl hl (by decide) rfl (fun ls hl => ?_)
          refine lv_iinc (v := nI (k + 1)) (lv' := [(5, .int (nI (k + 1))), (3, .int ((cyF ro wo va vb k) + (ovF ro wo va vb (k + 1)))), (4, .int (ovF ro wo va vb (k + 1))), (0, .ref h0), (1, .int va), (2, .int vb)]) hx hb dX5_carriedBy_57 hl (k := 2) rfl (nI_inc k) (by decide) rfl (fun ls hl => ?_)
          refine lv_goto (tgt := 8) hx hb dX5_carriedBy_60 (by decide) ?_
          exact ih8 (k + 1) (by omega) (by omega) ls (lv_sub hl [0, 2, 1, 3, 4, 5] rfl)
        ·
          have c_4b := Int32.not_le.mp c_4
          refine lv_iconst (v := 1) hx hb dX5_carriedBy_45 (by decide) ?_
          refine lv_goto (tgt := 50) hx hb dX5_carriedBy_46 (by decide) ?_
          rw [show (1 : Int32) = ovF ro wo va vb (k + 1) from by simp [ovF, c_4]]
          refine lv_istore (lv' := [(4, .int (ovF ro wo va vb (k + 1))), (5, .int (nI k)), (3, .int (cyF ro wo va vb k)), (0, .ref h0), (1, .int va), (2, .int vb)]) hx hb dX5_carriedBy_50 hl (by decide) rfl (fun ls hl => ?_)
          refine lv_iload_n hx hb dX5_carriedBy_52 rfl (lv_at hl 2 rfl) ?_
          refine lv_iload hx hb dX5_carriedBy_53 (lv_at hl 0 rfl) ?_
          refine lv_iadd hx hb dX5_carriedBy_55 ?_
          refine lv_istore_n (lv' := [(3, .int ((cyF ro wo va vb k) + (ovF ro wo va vb (k + 1)))), (4, .int (ovF ro wo va vb (k + 1))), (5, .int (nI k)), (0, .ref h0), (1, .int va), (2, .int vb)]) hx hb dX5_carriedBy_56 rfl hl (by decide) rfl (fun ls hl => ?_)
          refine lv_iinc (v := nI (k + 1)) (lv' := [(5, .int (nI (k + 1))), (3, .int ((cyF ro wo va vb k) + (ovF ro wo va vb (k + 1)))), (4, .int (ovF ro wo va vb (k + 1))), (0, .ref h0), (1, .int va), (2, .int vb)]) hx hb dX5_carriedBy_57 hl (k := 2) rfl (nI_inc k) (by decide) rfl (fun ls hl => ?_)
          refine lv_goto (tgt := 8) hx hb dX5_carriedBy_60 (by decide) ?_
          exact ih8 (k + 1) (by omega) (by omega) ls (lv_sub hl [0, 2, 1, 3, 4, 5] rfl)
  exact L8 _ 0 (by omega) (Nat.lt_succ_self _) ls (lv_sub hl [0, 1, 2, 3, 4, 5] rfl)
set_option maxHeartbeats 4000000 in
set_option maxRecDepth 100000 in
theorem c_X5_moveTo (l : Launch) (E : gE) (sz : Nat) (h0 : Nat) (a0 : Nat) (a1 : Nat) (a2 : Nat) (a3 : Nat) (a4 : Nat) (n : Nat) (mo : Int32) (pu : Nat → Int32) (ro : Nat → Int32) (wo : Nat → Int32) (v : Int32) (hg : WG n ro wo) : Met l yX5_moveTo wsX5_moveTo ({ frames := 3, cells := 0, slots := 0, locals := 67 }) (PW E [.ref h0, .int v] [ob h0 5 [.ref a0, .ref a1, .ref a2, .ref a3, .ref a4, .int (nI n), .int mo], ar E a2 6 pu, ar E a3 6 ro, ar E a4 6 wo] sz) (QWi E (fun r _ => r = slF ro wo (numF pu wo n) v n) (fun (_ : Unit) => [ob h0 5 [.ref a0, .ref a1, .ref a2, .ref a3, .ref a4, .int (nI n), .int mo], ar E a2 6 (fil (fun w => figF (wo w) (ro w) v) pu n), ar E a3 6 ro, ar E a4 6 wo]) (va_A [ob h0 5 [.ref a0, .ref a1, .ref a2, .ref a3, .ref a4, .int (nI n), .int mo], ar E a2 6 pu, ar E a3 6 ro, ar E a4 6 wo] sz)) 0 0 (va_A [ob h0 5 [.ref a0, .ref a1, .ref a2, .ref a3, .ref a4, .int (nI n), .int mo], ar E a2 6 pu, ar E a3 6 ro, ar E a4 6 wo] sz) := by
  refine mkWi (cc := cX5_moveTo) (maxL := 4) (by decide) rfl (Nat.le_of_ble_eq_true rfl) ?_
  intro p e s m args below meth c QQ A hx hb hml hown hmn hts hK hA hP hD hS hret ls hl
  have hown : s.vm.findClass RX5 = some m.cls := hown
  have hl : lv_has ls 4 [(0, .ref h0), (1, .int v)] := hl
  have hinX5 : ∀ w ∈ wsX50, w ∈ wsX5_moveTo := by decide +kernel
  have fl_18 := hts (.fieldLink RX5 18 "GuardAbacus$Wires" "pushed" "[I") (by decide +kernel)
  have fl_27 := hts (.fieldLink RX5 27 "GuardAbacus$Wires" "count" "I") (by decide +kernel)
  have hn := hg.le
  refine lv_aload_n hx hb dX5_moveTo_0 rfl (lv_at hl 0 rfl) ?_
  refine lv_aload_n hx hb dX5_moveTo_1 rfl (lv_at hl 0 rfl) ?_
  refine crV (As := []) (rest := [.ref h0]) ⟨hx, hb, hml, hown, hts⟩ (c_X5_numberNow l E h0 a0 a1 a2 a3 a4 n mo pu wo (by first | assumption | omega)) (cwV 0 hts gX5_moveTo_X5_numberNow rfl rfl rfl (by decide +kernel) ⟨Nat.le_of_ble_eq_true rfl, Nat.le_of_ble_eq_true rfl⟩) hK hP [0, 1, 3] rfl 0 rfl rfl rfl rfl hl.1 rfl (catLe (Nat.le_of_ble_eq_true rfl)) dX5_moveTo_2 ⟨Nat.zero_le _, Nat.zero_le _⟩ (fun r_1 hr_1 => ?_)
  subst hr_1
  refine lv_iload_n hx hb dX5_moveTo_5 rfl (lv_at hl 1 rfl) ?_
  refine crV (As := [.int (numF pu wo n), .int v]) (rest := []) ⟨hx, hb, hml, hown, hts⟩ (c_X5_slidBetween l E h0 a0 a1 a2 a3 a4 n mo ro wo (numF pu wo n) v (by first | assumption | omega)) (cwV 2 hts gX5_moveTo_X5_slidBetween rfl rfl rfl (by decide +kernel) ⟨Nat.le_of_ble_eq_true rfl, Nat.le_of_ble_eq_true rfl⟩) hK hP [0, 2, 3] rfl 0 rfl rfl rfl rfl hl.1 rfl (catLe (Nat.le_of_ble_eq_true rfl)) dX5_moveTo_6 ⟨Nat.zero_le _, Nat.zero_le _⟩ (fun r_2 hr_2 => ?_)
  subst hr_2
  refine lv_istore_n (lv' := [(2, .int (slF ro wo (numF pu wo n) v n)), (0, .ref h0), (1, .int v)]) hx hb dX5_moveTo_9 rfl hl (by decide) rfl (fun ls hl => ?_)
  refine lv_iconst (v := 0) hx hb dX5_moveTo_10 (by decide) ?_
  refine lv_istore_n (lv' := [(3, .int 0), (2, .int (slF ro wo (numF pu wo n) v n)), (0, .ref h0), (1, .int v)]) hx hb dX5_moveTo_11 rfl hl (by decide) rfl (fun ls hl => ?_)
  rw [← fil_0 (fun w => figF (wo w) (ro w) v) pu] at hP hD
  have L12 : ∀ (fuel : Nat) (k : Nat), (k ≤ n) → (n - k) < fuel → ∀ (H : Heap) (locs : List Loc), va_P E.1 vwCl [ob h0 5 [.ref a0, .ref a1, .ref a2, .ref a3, .ref a4, .int (nI n), .int mo], ar E a2 6 (fil (fun w => figF (wo w) (ro w) v) pu k), ar E a3 6 ro, ar E a4 6 wo] H → va_D A [ob h0 5 [.ref a0, .ref a1, .ref a2, .ref a3, .ref a4, .int (nI n), .int mo], ar E a2 6 (fil (fun w => figF (wo w) (ro w) v) pu k), ar E a3 6 ro, ar E a4 6 wo] → va_S A s.heap H locs → ∀ ls : Array Slot, lv_has ls 4 [(3, .int (nI k)), (2, .int (slF ro wo (numF pu wo n) v n)), (0, .ref h0), (1, .int v)] → W p l e ({ frames := 3, cells := 0, slots := 0, locals := 67 }) s m args below meth c H locs 0 0 QQ (F0 m 12 ls []) := by
    intro fuel
    induction fuel with
    | zero => intro k hk hf; exact absurd hf (Nat.not_lt_zero _)
    | succ fuel ih12 =>
      intro k hk hf12 H locs hP hD hS ls hl
      refine lv_iload_n hx hb dX5_moveTo_12 rfl (lv_at hl 0 rfl) ?_
      refine lv_aload_n hx hb dX5_moveTo_13 rfl (lv_at hl 2 rfl) ?_
      refine va_get (D := E.1) (ci := 5) (v := .int (nI n)) (C := RX5) (T := TX5) (N := 7) hx hb hts hinX5 hown hK.1 hP 0 rfl rfl 5 (by decide) fl_27 (fun _ h9 => h9) rfl dX5_moveTo_14 ?_
      refine icmpN_ge (tgt := 38) (a := k) (b := n) hx hb rfl rfl (by omega) (by omega) dX5_moveTo_17 (by decide) (fun c_3 => ?_) (fun c_3 => ?_)
      ·
        obtain rfl : n = k := by omega
        refine lv_iload_n hx hb dX5_moveTo_38 rfl (lv_at hl 1 rfl) ?_
        exact hret _ _ _ _ _ () dX5_moveTo_39 hS hP rfl
      ·
        refine lv_aload_n hx hb dX5_moveTo_20 rfl (lv_at hl 2 rfl) ?_
        refine va_get (D := E.1) (ci := 5) (v := .ref a2) (C := RX5) (T := TX5) (N := 7) hx hb hts hinX5 hown hK.1 hP 0 rfl rfl 2 (by decide) fl_18 (fun _ h9 => h9) rfl dX5_moveTo_21 ?_
        refine lv_iload_n hx hb dX5_moveTo_24 rfl (lv_at hl 0 rfl) ?_
        refine lv_aload_n hx hb dX5_moveTo_25 rfl (lv_at hl 2 rfl) ?_
        refine lv_iload_n hx hb dX5_moveTo_26 rfl (lv_at hl 0 rfl) ?_
        refine lv_iload_n hx hb dX5_moveTo_27 rfl (lv_at hl 3 rfl) ?_
        refine crV (As := [.int (nI k), .int v]) (rest := [.int (nI k), .ref a2]) ⟨hx, hb, hml, hown, hts⟩ (c_X5_figureOf l E h0 a0 a1 a2 a3 a4 n mo ro wo (nI k) k v (by first | assumption | omega) (by first | assumption | omega) rfl) (cwV 2 hts gX5_moveTo_X5_figureOf rfl rfl rfl (by decide +kernel) ⟨Nat.le_of_ble_eq_true rfl, Nat.le_of_ble_eq_true rfl⟩) hK hP [0, 2, 3] rfl 0 rfl rfl rfl rfl hl.1 rfl (catLe (Nat.le_of_ble_eq_true rfl)) dX5_moveTo_28 ⟨Nat.zero_le _, Nat.zero_le _⟩ (fun r_4 hr_4 => ?_)
        subst hr_4
        refine ist hx hb hK hP hD hS 1 rfl (j := k) rfl (by omega) (by decide) dX5_moveTo_31 (fun H locs hP hD hS => ?_)
        have hP : va_P E.1 vwCl [ob h0 5 [.ref a0, .ref a1, .ref a2, .ref a3, .ref a4, .int (nI n), .int mo], ar E a2 6 (upd (fil (fun w => figF (wo w) (ro w) v) pu k) k (figF (wo k) (ro k) v)), ar E a3 6 ro, ar E a4 6 wo] H := hP
        have hD : va_D A [ob h0 5 [.ref a0, .ref a1, .ref a2, .ref a3, .ref a4, .int (nI n), .int mo], ar E a2 6 (upd (fil (fun w => figF (wo w) (ro w) v) pu k) k (figF (wo k) (ro k) v)), ar E a3 6 ro, ar E a4 6 wo] := hD
        rw [show upd (fil (fun w => figF (wo w) (ro w) v) pu k) k (figF (wo k) (ro k) v) = fil (fun w => figF (wo w) (ro w) v) pu (k + 1) from fil_s _ _ _] at hP hD
        refine lv_iinc (v := nI (k + 1)) (lv' := [(3, .int (nI (k + 1))), (2, .int (slF ro wo (numF pu wo n) v n)), (0, .ref h0), (1, .int v)]) hx hb dX5_moveTo_32 hl (k := 0) rfl (nI_inc k) (by decide) rfl (fun ls hl => ?_)
        refine lv_goto (tgt := 12) hx hb dX5_moveTo_35 (by decide) ?_
        exact ih12 (k + 1) (by omega) (by omega) _ _ hP hD hS ls (lv_sub hl [0, 1, 2, 3] rfl)
  exact L12 _ 0 (by omega) (Nat.lt_succ_self _) _ _ hP hD hS ls (lv_sub hl [0, 1, 2, 3] rfl)
set_option maxHeartbeats 4000000 in
set_option maxRecDepth 100000 in
theorem c_X5_measure (l : Launch) (E : gE) (sz : Nat) (h0 : Nat) (a0 : Nat) (a1 : Nat) (a2 : Nat) (a3 : Nat) (a4 : Nat) (n : Nat) (mo : Int32) (kd : Nat → Int32) (mn : Nat → Int32) (ro : Nat → Int32) (wo : Nat → Int32) (hn : n ≤ 6) : Met l yX5_measure wsX5_measure ({ frames := 1, cells := 0, slots := 0, locals := 21 }) (PW E [.ref h0] [ob h0 5 [.ref a0, .ref a1, .ref a2, .ref a3, .ref a4, .int (nI n), .int mo], ar E a0 6 kd, ar E a1 6 mn, ar E a3 6 ro, ar E a4 6 wo] sz) (QWv E (fun _ => True) (fun (_ : Unit) => [ob h0 5 [.ref a0, .ref a1, .ref a2, .ref a3, .ref a4, .int (nI n), .int (woF kd mn n - 1)], ar E a0 6 kd, ar E a1 6 mn, ar E a3 6 (fil (rmF kd mn) ro n), ar E a4 6 (fil (woF kd mn) wo n)]) (va_A [ob h0 5 [.ref a0, .ref a1, .ref a2, .ref a3, .ref a4, .int (nI n), .int mo], ar E a0 6 kd, ar E a1 6 mn, ar E a3 6 ro, ar E a4 6 wo] sz)) 0 0 (va_A [ob h0 5 [.ref a0, .ref a1, .ref a2, .ref a3, .ref a4, .int (nI n), .int mo], ar E a0 6 kd, ar E a1 6 mn, ar E a3 6 ro, ar E a4 6 wo] sz) := by
  refine mkWv (cc := cX5_measure) (maxL := 3) (by decide) rfl (Nat.le_of_ble_eq_true rfl) ?_
  intro p e s m args below meth c QQ A hx hb hml hown hmn hts hK hA hP hD hS hret ls hl
  have hown : s.vm.findClass RX5 = some m.cls := hown
  have hl : lv_has ls 3 [(0, .ref h0)] := hl
  have hinX5 : ∀ w ∈ wsX50, w ∈ wsX5_measure := by decide +kernel
  have fl_9 := hts (.fieldLink RX5 9 "GuardAbacus$Wires" "kind" "[I") (by decide +kernel)
  have fl_15 := hts (.fieldLink RX5 15 "GuardAbacus$Wires" "men" "[I") (by decide +kernel)
  have fl_21 := hts (.fieldLink RX5 21 "GuardAbacus$Wires" "room" "[I") (by decide +kernel)
  have fl_24 := hts (.fieldLink RX5 24 "GuardAbacus$Wires" "worth" "[I") (by decide +kernel)
  have fl_27 := hts (.fieldLink RX5 27 "GuardAbacus$Wires" "count" "I") (by decide +kernel)
  have fl_31 := hts (.fieldLink RX5 31 "GuardAbacus$Wires" "most" "I") (by decide +kernel)
  refine lv_iconst (v := 1) hx hb dX5_measure_0 (by decide) ?_
  refine lv_istore_n (lv' := [(1, .int 1), (0, .ref h0)]) hx hb dX5_measure_1 rfl hl (by decide) rfl (fun ls hl => ?_)
  refine lv_iconst (v := 0) hx hb dX5_measure_2 (by decide) ?_
  refine lv_istore_n (lv' := [(2, .int 0), (1, .int 1), (0, .ref h0)]) hx hb dX5_measure_3 rfl hl (by decide) rfl (fun ls hl => ?_)
  rw [← fil_0 (rmF kd mn) ro, ← fil_0 (woF kd mn) wo] at hP hD
  have L4 : ∀ (fuel : Nat) (k : Nat), (k ≤ n) → (n - k) < fuel → ∀ (H : Heap) (locs : List Loc), va_P E.1 vwCl [ob h0 5 [.ref a0, .ref a1, .ref a2, .ref a3, .ref a4, .int (nI n), .int mo], ar E a0 6 kd, ar E a1 6 mn, ar E a3 6 (fil (rmF kd mn) ro k), ar E a4 6 (fil (woF kd mn) wo k)] H → va_D A [ob h0 5 [.ref a0, .ref a1, .ref a2, .ref a3, .ref a4, .int (nI n), .int mo], ar E a0 6 kd, ar E a1 6 mn, ar E a3 6 (fil (rmF kd mn) ro k), ar E a4 6 (fil (woF kd mn) wo k)] → va_S A s.heap H locs → ∀ ls : Array Slot, lv_has ls 3 [(2, .int (nI k)), (1, .int (woF kd mn k)), (0, .ref h0)] → W p l e ({ frames := 1, cells := 0, slots := 0, locals := 21 }) s m args below meth c H locs 0 0 QQ (F0 m 4 ls []) := by
    intro fuel
    induction fuel with
    | zero => intro k hk hf; exact absurd hf (Nat.not_lt_zero _)
    | succ fuel ih4 =>
      intro k hk hf4 H locs hP hD hS ls hl
      refine lv_iload_n hx hb dX5_measure_4 rfl (lv_at hl 0 rfl) ?_
      refine lv_aload_n hx hb dX5_measure_5 rfl (lv_at hl 2 rfl) ?_
      refine va_get (D := E.1) (ci := 5) (v := .int (nI n)) (C := RX5) (T := TX5) (N := 7) hx hb hts hinX5 hown hK.1 hP 0 rfl rfl 5 (by decide) fl_27 (fun _ h9 => h9) rfl dX5_measure_6 ?_
      refine icmpN_ge (tgt := 57) (a := k) (b := n) hx hb rfl rfl (by omega) (by omega) dX5_measure_9 (by decide) (fun c_1 => ?_) (fun c_1 => ?_)
      ·
        obtain rfl : n = k := by omega
        refine lv_aload_n hx hb dX5_measure_57 rfl (lv_at hl 2 rfl) ?_
        refine lv_iload_n hx hb dX5_measure_58 rfl (lv_at hl 1 rfl) ?_
        refine lv_iconst (v := 1) hx hb dX5_measure_59 (by decide) ?_
        refine lv_isub hx hb dX5_measure_60 ?_
        refine va_put (D := E.1) (ci := 5) (v := .int ((woF kd mn n) - 1)) (ty := .int) (C := RX5) (T := TX5) (N := 7) hx hb hts hinX5 tyX5 tyX5_ok nmX5 hown hK.1 hP hD hS 0 rfl rfl 6 (by decide) fl_31 (fun _ h9 => h9) rfl (by decide +kernel) rfl rfl (Nat.le_of_ble_eq_true rfl) dX5_measure_61 (fun H locs hP hD hS => ?_)
        have hP : va_P E.1 vwCl [ob h0 5 [.ref a0, .ref a1, .ref a2, .ref a3, .ref a4, .int (nI n), .int ((woF kd mn n) - 1)], ar E a0 6 kd, ar E a1 6 mn, ar E a3 6 (fil (rmF kd mn) ro n), ar E a4 6 (fil (woF kd mn) wo n)] H := hP
        have hD : va_D A [ob h0 5 [.ref a0, .ref a1, .ref a2, .ref a3, .ref a4, .int (nI n), .int ((woF kd mn n) - 1)], ar E a0 6 kd, ar E a1 6 mn, ar E a3 6 (fil (rmF kd mn) ro n), ar E a4 6 (fil (woF kd mn) wo n)] := hD
        exact hret _ _ _ _ () dX5_measure_64 hS hP trivial
      ·
        refine lv_aload_n hx hb dX5_measure_12 rfl (lv_at hl 2 rfl) ?_
        refine va_get (D := E.1) (ci := 5) (v := .ref a3) (C := RX5) (T := TX5) (N := 7) hx hb hts hinX5 hown hK.1 hP 0 rfl rfl 3 (by decide) fl_21 (fun _ h9 => h9) rfl dX5_measure_13 ?_
        refine lv_iload_n hx hb dX5_measure_16 rfl (lv_at hl 0 rfl) ?_
        refine lv_aload_n hx hb dX5_measure_17 rfl (lv_at hl 2 rfl) ?_
        refine va_get (D := E.1) (ci := 5) (v := .ref a0) (C := RX5) (T := TX5) (N := 7) hx hb hts hinX5 hown hK.1 hP 0 rfl rfl 0 (by decide) fl_9 (fun _ h9 => h9) rfl dX5_measure_18 ?_
        refine lv_iload_n hx hb dX5_measure_21 rfl (lv_at hl 0 rfl) ?_
        refine ild hx hb hK hP 1 rfl (j := k) rfl (by omega) (by decide) dX5_measure_22 ?_
        refine lv_aload_n hx hb dX5_measure_23 rfl (lv_at hl 2 rfl) ?_
        refine va_get (D := E.1) (ci := 5) (v := .ref a1) (C := RX5) (T := TX5) (N := 7) hx hb hts hinX5 hown hK.1 hP 0 rfl rfl 1 (by decide) fl_15 (fun _ h9 => h9) rfl dX5_measure_24 ?_
        refine lv_iload_n hx hb dX5_measure_27 rfl (lv_at hl 0 rfl) ?_
        refine ild hx hb hK hP 2 rfl (j := k) rfl (by omega) (by decide) dX5_measure_28 ?_
        refine crSN (As := [.int (kd k), .int (mn k)]) (rest := [.int (nI k), .ref a3]) ⟨hx, hb, hml, hown, hts⟩ (c_X6_roomOf l E (kd k) (mn k)) ⟨va_cnB 2 hts gX5_measure_X6_roomOf_n37 rfl rfl rfl hK.2.1 (hts (.initialized RX6) (by decide +kernel)) (by decide +kernel) ⟨Nat.le_of_ble_eq_true rfl, Nat.le_of_ble_eq_true rfl⟩, hts (.static yX6_roomOf) (by decide +kernel), trivial⟩ hK hP [] rfl rfl hl.1 rfl (catLe (Nat.le_of_ble_eq_true rfl)) dX5_measure_29 ⟨Nat.zero_le _, Nat.zero_le _⟩ (fun r_2 hr_2 => ?_)
        subst hr_2
        refine ist hx hb hK hP hD hS 3 rfl (j := k) rfl (by omega) (by decide) dX5_measure_32 (fun H locs hP hD hS => ?_)
        have hP : va_P E.1 vwCl [ob h0 5 [.ref a0, .ref a1, .ref a2, .ref a3, .ref a4, .int (nI n), .int mo], ar E a0 6 kd, ar E a1 6 mn, ar E a3 6 (upd (fil (rmF kd mn) ro k) k (roomF (kd k) (mn k))), ar E a4 6 (fil (woF kd mn) wo k)] H := hP
        have hD : va_D A [ob h0 5 [.ref a0, .ref a1, .ref a2, .ref a3, .ref a4, .int (nI n), .int mo], ar E a0 6 kd, ar E a1 6 mn, ar E a3 6 (upd (fil (rmF kd mn) ro k) k (roomF (kd k) (mn k))), ar E a4 6 (fil (woF kd mn) wo k)] := hD
        rw [show upd (fil (rmF kd mn) ro k) k (roomF (kd k) (mn k)) = fil (rmF kd mn) ro (k + 1) from fil_s (rmF kd mn) ro k] at hP hD
        refine lv_aload_n hx hb dX5_measure_33 rfl (lv_at hl 2 rfl) ?_
        refine va_get (D := E.1) (ci := 5) (v := .ref a4) (C := RX5) (T := TX5) (N := 7) hx hb hts hinX5 hown hK.1 hP 0 rfl rfl 4 (by decide) fl_24 (fun _ h9 => h9) rfl dX5_measure_34 ?_
        refine lv_iload_n hx hb dX5_measure_37 rfl (lv_at hl 0 rfl) ?_
        refine lv_iload_n hx hb dX5_measure_38 rfl (lv_at hl 1 rfl) ?_
        refine ist hx hb hK hP hD hS 4 rfl (j := k) rfl (by omega) (by decide) dX5_measure_39 (fun H locs hP hD hS => ?_)
        have hP : va_P E.1 vwCl [ob h0 5 [.ref a0, .ref a1, .ref a2, .ref a3, .ref a4, .int (nI n), .int mo], ar E a0 6 kd, ar E a1 6 mn, ar E a3 6 (fil (rmF kd mn) ro (k + 1)), ar E a4 6 (upd (fil (woF kd mn) wo k) k (woF kd mn k))] H := hP
        have hD : va_D A [ob h0 5 [.ref a0, .ref a1, .ref a2, .ref a3, .ref a4, .int (nI n), .int mo], ar E a0 6 kd, ar E a1 6 mn, ar E a3 6 (fil (rmF kd mn) ro (k + 1)), ar E a4 6 (upd (fil (woF kd mn) wo k) k (woF kd mn k))] := hD
        rw [show upd (fil (woF kd mn) wo k) k (woF kd mn k) = fil (woF kd mn) wo (k + 1) from fil_s (woF kd mn) wo k] at hP hD
        refine lv_iload_n hx hb dX5_measure_40 rfl (lv_at hl 1 rfl) ?_
        refine lv_aload_n hx hb dX5_measure_41 rfl (lv_at hl 2 rfl) ?_
        refine va_get (D := E.1) (ci := 5) (v := .ref a3) (C := RX5) (T := TX5) (N := 7) hx hb hts hinX5 hown hK.1 hP 0 rfl rfl 3 (by decide) fl_21 (fun _ h9 => h9) rfl dX5_measure_42 ?_
        refine lv_iload_n hx hb dX5_measure_45 rfl (lv_at hl 0 rfl) ?_
        refine ild hx hb hK hP 3 rfl (j := k) rfl (by omega) (by decide) dX5_measure_46 ?_
        rw [show fil (rmF kd mn) ro (k + 1) k = roomF (kd k) (mn k) from fil_in (Nat.lt_succ_self k)]
        refine lv_iconst (v := 1) hx hb dX5_measure_47 (by decide) ?_
        refine lv_iadd hx hb dX5_measure_48 ?_
        refine lv_imul hx hb dX5_measure_49 ?_
        refine lv_istore_n (lv' := [(1, .int ((woF kd mn k) * ((roomF (kd k) (mn k)) + 1))), (2, .int (nI k)), (0, .ref h0)]) hx hb dX5_measure_50 rfl hl (by decide) rfl (fun ls hl => ?_)
        refine lv_iinc (v := nI (k + 1)) (lv' := [(2, .int (nI (k + 1))), (1, .int ((woF kd mn k) * ((roomF (kd k) (mn k)) + 1))), (0, .ref h0)]) hx hb dX5_measure_51 hl (k := 1) rfl (nI_inc k) (by decide) rfl (fun ls hl => ?_)
        refine lv_goto (tgt := 4) hx hb dX5_measure_54 (by decide) ?_
        exact ih4 (k + 1) (by omega) (by omega) _ _ hP hD hS ls (lv_sub hl [0, 1, 2] rfl)
  exact L4 _ 0 (by omega) (Nat.lt_succ_self _) _ _ hP hD hS ls (lv_sub hl [0, 1, 2] rfl)
set_option maxHeartbeats 4000000 in
set_option maxRecDepth 100000 in
theorem c_X5_become (l : Launch) (E : gE) (sz : Nat) (h0 : Nat) (a0 : Nat) (a1 : Nat) (a2 : Nat) (a3 : Nat) (a4 : Nat) (n : Nat) (mo : Int32) (kd : Nat → Int32) (mn : Nat → Int32) (pu : Nat → Int32) (ro : Nat → Int32) (wo : Nat → Int32) (h2 : Nat) (b0 : Nat) (b1 : Nat) (b2 : Nat) (b3 : Nat) (b4 : Nat) (n2 : Nat) (mo2 : Int32) (kd2 : Nat → Int32) (mn2 : Nat → Int32) (pu2 : Nat → Int32) (hn2 : n2 ≤ 6) : Met l yX5_become wsX5_become ({ frames := 2, cells := 0, slots := 0, locals := 43 }) (PW E [.ref h0, .ref h2] [ob h0 5 [.ref a0, .ref a1, .ref a2, .ref a3, .ref a4, .int (nI n), .int mo], ar E a0 6 kd, ar E a1 6 mn, ar E a2 6 pu, ar E a3 6 ro, ar E a4 6 wo, ob h2 5 [.ref b0, .ref b1, .ref b2, .ref b3, .ref b4, .int (nI n2), .int mo2], ar E b0 6 kd2, ar E b1 6 mn2, ar E b2 6 pu2] sz) (QWv E (fun _ => True) (fun (_ : Unit) => [ob h0 5 [.ref a0, .ref a1, .ref a2, .ref a3, .ref a4, .int (nI n2), .int (woF kd2 mn2 n2 - 1)], ar E a0 6 kd2, ar E a1 6 mn2, ar E a2 6 pu2, ar E a3 6 (fil (rmF kd2 mn2) ro n2), ar E a4 6 (fil (woF kd2 mn2) wo n2), ob h2 5 [.ref b0, .ref b1, .ref b2, .ref b3, .ref b4, .int (nI n2), .int mo2], ar E b0 6 kd2, ar E b1 6 mn2, ar E b2 6 pu2]) (va_A [ob h0 5 [.ref a0, .ref a1, .ref a2, .ref a3, .ref a4, .int (nI n), .int mo], ar E a0 6 kd, ar E a1 6 mn, ar E a2 6 pu, ar E a3 6 ro, ar E a4 6 wo, ob h2 5 [.ref b0, .ref b1, .ref b2, .ref b3, .ref b4, .int (nI n2), .int mo2], ar E b0 6 kd2, ar E b1 6 mn2, ar E b2 6 pu2] sz)) 0 0 (va_A [ob h0 5 [.ref a0, .ref a1, .ref a2, .ref a3, .ref a4, .int (nI n), .int mo], ar E a0 6 kd, ar E a1 6 mn, ar E a2 6 pu, ar E a3 6 ro, ar E a4 6 wo, ob h2 5 [.ref b0, .ref b1, .ref b2, .ref b3, .ref b4, .int (nI n2), .int mo2], ar E b0 6 kd2, ar E b1 6 mn2, ar E b2 6 pu2] sz) := by
  refine mkWv (cc := cX5_become) (maxL := 3) (by decide) rfl (Nat.le_of_ble_eq_true rfl) ?_
  intro p e s m args below meth c QQ A hx hb hml hown hmn hts hK hA hP hD hS hret ls hl
  have hown : s.vm.findClass RX5 = some m.cls := hown
  have hl : lv_has ls 3 [(0, .ref h0), (1, .ref h2)] := hl
  have hinX5 : ∀ w ∈ wsX50, w ∈ wsX5_become := by decide +kernel
  have fl_9 := hts (.fieldLink RX5 9 "GuardAbacus$Wires" "kind" "[I") (by decide +kernel)
  have fl_15 := hts (.fieldLink RX5 15 "GuardAbacus$Wires" "men" "[I") (by decide +kernel)
  have fl_18 := hts (.fieldLink RX5 18 "GuardAbacus$Wires" "pushed" "[I") (by decide +kernel)
  have fl_27 := hts (.fieldLink RX5 27 "GuardAbacus$Wires" "count" "I") (by decide +kernel)
  refine lv_iconst (v := 0) hx hb dX5_become_0 (by decide) ?_
  refine lv_istore_n (lv' := [(2, .int 0), (0, .ref h0), (1, .ref h2)]) hx hb dX5_become_1 rfl hl (by decide) rfl (fun ls hl => ?_)
  rw [← fil_0 kd2 kd, ← fil_0 mn2 mn, ← fil_0 pu2 pu] at hP hD
  have L2 : ∀ (fuel : Nat) (k : Nat), (k ≤ 6) → (6 - k) < fuel → ∀ (H : Heap) (locs : List Loc), va_P E.1 vwCl [ob h0 5 [.ref a0, .ref a1, .ref a2, .ref a3, .ref a4, .int (nI n), .int mo], ar E a0 6 (fil kd2 kd k), ar E a1 6 (fil mn2 mn k), ar E a2 6 (fil pu2 pu k), ar E a3 6 ro, ar E a4 6 wo, ob h2 5 [.ref b0, .ref b1, .ref b2, .ref b3, .ref b4, .int (nI n2), .int mo2], ar E b0 6 kd2, ar E b1 6 mn2, ar E b2 6 pu2] H → va_D A [ob h0 5 [.ref a0, .ref a1, .ref a2, .ref a3, .ref a4, .int (nI n), .int mo], ar E a0 6 (fil kd2 kd k), ar E a1 6 (fil mn2 mn k), ar E a2 6 (fil pu2 pu k), ar E a3 6 ro, ar E a4 6 wo, ob h2 5 [.ref b0, .ref b1, .ref b2, .ref b3, .ref b4, .int (nI n2), .int mo2], ar E b0 6 kd2, ar E b1 6 mn2, ar E b2 6 pu2] → va_S A s.heap H locs → ∀ ls : Array Slot, lv_has ls 3 [(2, .int (nI k)), (0, .ref h0), (1, .ref h2)] → W p l e ({ frames := 2, cells := 0, slots := 0, locals := 43 }) s m args below meth c H locs 0 0 QQ (F0 m 2 ls []) := by
    intro fuel
    induction fuel with
    | zero => intro k hk hf; exact absurd hf (Nat.not_lt_zero _)
    | succ fuel ih2 =>
      intro k hk hf2 H locs hP hD hS ls hl
      refine lv_iload_n hx hb dX5_become_2 rfl (lv_at hl 0 rfl) ?_
      refine lv_bipush (v := 6) hx hb dX5_become_3 (by decide) ?_
      refine icmpN_ge (tgt := 50) (a := k) (b := 6) hx hb rfl rfl (by omega) (by omega) dX5_become_5 (by decide) (fun c_1 => ?_) (fun c_1 => ?_)
      ·
        obtain rfl : k = 6 := by omega
        have hP := va_P_ar hP 1 a0 6 (g := kd2) rfl (fun j hj => fil_in hj)
        have hP := va_P_ar hP 2 a1 6 (g := mn2) rfl (fun j hj => fil_in hj)
        have hP := va_P_ar hP 3 a2 6 (g := pu2) rfl (fun j hj => fil_in hj)
        have hP : va_P E.1 vwCl [ob h0 5 [.ref a0, .ref a1, .ref a2, .ref a3, .ref a4, .int (nI n), .int mo], ar E a0 6 kd2, ar E a1 6 mn2, ar E a2 6 pu2, ar E a3 6 ro, ar E a4 6 wo, ob h2 5 [.ref b0, .ref b1, .ref b2, .ref b3, .ref b4, .int (nI n2), .int mo2], ar E b0 6 kd2, ar E b1 6 mn2, ar E b2 6 pu2] H := hP
        have hD : va_D A [ob h0 5 [.ref a0, .ref a1, .ref a2, .ref a3, .ref a4, .int (nI n), .int mo], ar E a0 6 kd2, ar E a1 6 mn2, ar E a2 6 pu2, ar E a3 6 ro, ar E a4 6 wo, ob h2 5 [.ref b0, .ref b1, .ref b2, .ref b3, .ref b4, .int (nI n2), .int mo2], ar E b0 6 kd2, ar E b1 6 mn2, ar E b2 6 pu2] := va_D_addr hD [h0, a0, a1, a2, a3, a4, h2, b0, b1, b2] rfl rfl
        refine lv_aload_n hx hb dX5_become_50 rfl (lv_at hl 1 rfl) ?_
        refine lv_aload_n hx hb dX5_become_51 rfl (lv_at hl 2 rfl) ?_
        refine va_get (D := E.1) (ci := 5) (v := .int (nI n2)) (C := RX5) (T := TX5) (N := 7) hx hb hts hinX5 hown hK.1 hP 6 rfl rfl 5 (by decide) fl_27 (fun _ h9 => h9) rfl dX5_become_52 ?_
        refine va_put (D := E.1) (ci := 5) (v := .int (nI n2)) (ty := .int) (C := RX5) (T := TX5) (N := 7) hx hb hts hinX5 tyX5 tyX5_ok nmX5 hown hK.1 hP hD hS 0 rfl rfl 5 (by decide) fl_27 (fun _ h9 => h9) rfl (by decide +kernel) rfl rfl (Nat.le_of_ble_eq_true rfl) dX5_become_55 (fun H locs hP hD hS => ?_)
        have hP : va_P E.1 vwCl [ob h0 5 [.ref a0, .ref a1, .ref a2, .ref a3, .ref a4, .int (nI n2), .int mo], ar E a0 6 kd2, ar E a1 6 mn2, ar E a2 6 pu2, ar E a3 6 ro, ar E a4 6 wo, ob h2 5 [.ref b0, .ref b1, .ref b2, .ref b3, .ref b4, .int (nI n2), .int mo2], ar E b0 6 kd2, ar E b1 6 mn2, ar E b2 6 pu2] H := hP
        have hD : va_D A [ob h0 5 [.ref a0, .ref a1, .ref a2, .ref a3, .ref a4, .int (nI n2), .int mo], ar E a0 6 kd2, ar E a1 6 mn2, ar E a2 6 pu2, ar E a3 6 ro, ar E a4 6 wo, ob h2 5 [.ref b0, .ref b1, .ref b2, .ref b3, .ref b4, .int (nI n2), .int mo2], ar E b0 6 kd2, ar E b1 6 mn2, ar E b2 6 pu2] := hD
        refine lv_aload_n hx hb dX5_become_58 rfl (lv_at hl 1 rfl) ?_
        refine cwVv (As := []) (rest := []) ⟨hx, hb, hml, hown, hts⟩ (c_X5_measure l E _ h0 a0 a1 a2 a3 a4 n2 mo kd2 mn2 ro wo (by first | assumption | omega)) (cwV 0 hts gX5_become_X5_measure rfl rfl rfl (by decide +kernel) ⟨Nat.le_of_ble_eq_true rfl, Nat.le_of_ble_eq_true rfl⟩) hK hP hD hS hA [0, 1, 2, 4, 5] (by decide) rfl [h0, a0, a1, a3, a4] (fun _ => rfl) rfl 0 rfl rfl rfl rfl hl.1 rfl (catLe (Nat.le_of_ble_eq_true rfl)) dX5_become_59 ⟨Nat.zero_le _, Nat.zero_le _⟩ (fun u_3 H locs hwr_2 hP hD hS => ?_)
        have hP : va_P E.1 vwCl [ob h0 5 [.ref a0, .ref a1, .ref a2, .ref a3, .ref a4, .int (nI n2), .int (woF kd2 mn2 n2 - 1)], ar E a0 6 kd2, ar E a1 6 mn2, ar E a2 6 pu2, ar E a3 6 (fil (rmF kd2 mn2) ro n2), ar E a4 6 (fil (woF kd2 mn2) wo n2), ob h2 5 [.ref b0, .ref b1, .ref b2, .ref b3, .ref b4, .int (nI n2), .int mo2], ar E b0 6 kd2, ar E b1 6 mn2, ar E b2 6 pu2] H := hP
        have hD : va_D A [ob h0 5 [.ref a0, .ref a1, .ref a2, .ref a3, .ref a4, .int (nI n2), .int (woF kd2 mn2 n2 - 1)], ar E a0 6 kd2, ar E a1 6 mn2, ar E a2 6 pu2, ar E a3 6 (fil (rmF kd2 mn2) ro n2), ar E a4 6 (fil (woF kd2 mn2) wo n2), ob h2 5 [.ref b0, .ref b1, .ref b2, .ref b3, .ref b4, .int (nI n2), .int mo2], ar E b0 6 kd2, ar E b1 6 mn2, ar E b2 6 pu2] := hD
        exact hret _ _ _ _ () dX5_become_62 hS hP trivial
      ·
        refine lv_aload_n hx hb dX5_become_8 rfl (lv_at hl 1 rfl) ?_
        refine va_get (D := E.1) (ci := 5) (v := .ref a0) (C := RX5) (T := TX5) (N := 7) hx hb hts hinX5 hown hK.1 hP 0 rfl rfl 0 (by decide) fl_9 (fun _ h9 => h9) rfl dX5_become_9 ?_
        refine lv_iload_n hx hb dX5_become_12 rfl (lv_at hl 0 rfl) ?_
        refine lv_aload_n hx hb dX5_become_13 rfl (lv_at hl 2 rfl) ?_
        refine va_get (D := E.1) (ci := 5) (v := .ref b0) (C := RX5) (T := TX5) (N := 7) hx hb hts hinX5 hown hK.1 hP 6 rfl rfl 0 (by decide) fl_9 (fun _ h9 => h9) rfl dX5_become_14 ?_
        refine lv_iload_n hx hb dX5_become_17 rfl (lv_at hl 0 rfl) ?_
        refine ild hx hb hK hP 7 rfl (j := k) rfl (by omega) (by decide) dX5_become_18 ?_
        refine ist hx hb hK hP hD hS 1 rfl (j := k) rfl (by omega) (by decide) dX5_become_19 (fun H locs hP hD hS => ?_)
        have hP : va_P E.1 vwCl [ob h0 5 [.ref a0, .ref a1, .ref a2, .ref a3, .ref a4, .int (nI n), .int mo], ar E a0 6 (upd (fil kd2 kd k) k (kd2 k)), ar E a1 6 (fil mn2 mn k), ar E a2 6 (fil pu2 pu k), ar E a3 6 ro, ar E a4 6 wo, ob h2 5 [.ref b0, .ref b1, .ref b2, .ref b3, .ref b4, .int (nI n2), .int mo2], ar E b0 6 kd2, ar E b1 6 mn2, ar E b2 6 pu2] H := hP
        have hD : va_D A [ob h0 5 [.ref a0, .ref a1, .ref a2, .ref a3, .ref a4, .int (nI n), .int mo], ar E a0 6 (upd (fil kd2 kd k) k (kd2 k)), ar E a1 6 (fil mn2 mn k), ar E a2 6 (fil pu2 pu k), ar E a3 6 ro, ar E a4 6 wo, ob h2 5 [.ref b0, .ref b1, .ref b2, .ref b3, .ref b4, .int (nI n2), .int mo2], ar E b0 6 kd2, ar E b1 6 mn2, ar E b2 6 pu2] := hD
        rw [show upd (fil kd2 kd k) k (kd2 k) = fil kd2 kd (k + 1) from fil_s _ _ _] at hP hD
        refine lv_aload_n hx hb dX5_become_20 rfl (lv_at hl 1 rfl) ?_
        refine va_get (D := E.1) (ci := 5) (v := .ref a1) (C := RX5) (T := TX5) (N := 7) hx hb hts hinX5 hown hK.1 hP 0 rfl rfl 1 (by decide) fl_15 (fun _ h9 => h9) rfl dX5_become_21 ?_
        refine lv_iload_n hx hb dX5_become_24 rfl (lv_at hl 0 rfl) ?_
        refine lv_aload_n hx hb dX5_become_25 rfl (lv_at hl 2 rfl) ?_
        refine va_get (D := E.1) (ci := 5) (v := .ref b1) (C := RX5) (T := TX5) (N := 7) hx hb hts hinX5 hown hK.1 hP 6 rfl rfl 1 (by decide) fl_15 (fun _ h9 => h9) rfl dX5_become_26 ?_
        refine lv_iload_n hx hb dX5_become_29 rfl (lv_at hl 0 rfl) ?_
        refine ild hx hb hK hP 8 rfl (j := k) rfl (by omega) (by decide) dX5_become_30 ?_
        refine ist hx hb hK hP hD hS 2 rfl (j := k) rfl (by omega) (by decide) dX5_become_31 (fun H locs hP hD hS => ?_)
        have hP : va_P E.1 vwCl [ob h0 5 [.ref a0, .ref a1, .ref a2, .ref a3, .ref a4, .int (nI n), .int mo], ar E a0 6 (fil kd2 kd (k + 1)), ar E a1 6 (upd (fil mn2 mn k) k (mn2 k)), ar E a2 6 (fil pu2 pu k), ar E a3 6 ro, ar E a4 6 wo, ob h2 5 [.ref b0, .ref b1, .ref b2, .ref b3, .ref b4, .int (nI n2), .int mo2], ar E b0 6 kd2, ar E b1 6 mn2, ar E b2 6 pu2] H := hP
        have hD : va_D A [ob h0 5 [.ref a0, .ref a1, .ref a2, .ref a3, .ref a4, .int (nI n), .int mo], ar E a0 6 (fil kd2 kd (k + 1)), ar E a1 6 (upd (fil mn2 mn k) k (mn2 k)), ar E a2 6 (fil pu2 pu k), ar E a3 6 ro, ar E a4 6 wo, ob h2 5 [.ref b0, .ref b1, .ref b2, .ref b3, .ref b4, .int (nI n2), .int mo2], ar E b0 6 kd2, ar E b1 6 mn2, ar E b2 6 pu2] := hD
        rw [show upd (fil mn2 mn k) k (mn2 k) = fil mn2 mn (k + 1) from fil_s _ _ _] at hP hD
        refine lv_aload_n hx hb dX5_become_32 rfl (lv_at hl 1 rfl) ?_
        refine va_get (D := E.1) (ci := 5) (v := .ref a2) (C := RX5) (T := TX5) (N := 7) hx hb hts hinX5 hown hK.1 hP 0 rfl rfl 2 (by decide) fl_18 (fun _ h9 => h9) rfl dX5_become_33 ?_
        refine lv_iload_n hx hb dX5_become_36 rfl (lv_at hl 0 rfl) ?_
        refine lv_aload_n hx hb dX5_become_37 rfl (lv_at hl 2 rfl) ?_
        refine va_get (D := E.1) (ci := 5) (v := .ref b2) (C := RX5) (T := TX5) (N := 7) hx hb hts hinX5 hown hK.1 hP 6 rfl rfl 2 (by decide) fl_18 (fun _ h9 => h9) rfl dX5_become_38 ?_
        refine lv_iload_n hx hb dX5_become_41 rfl (lv_at hl 0 rfl) ?_
        refine ild hx hb hK hP 9 rfl (j := k) rfl (by omega) (by decide) dX5_become_42 ?_
        refine ist hx hb hK hP hD hS 3 rfl (j := k) rfl (by omega) (by decide) dX5_become_43 (fun H locs hP hD hS => ?_)
        have hP : va_P E.1 vwCl [ob h0 5 [.ref a0, .ref a1, .ref a2, .ref a3, .ref a4, .int (nI n), .int mo], ar E a0 6 (fil kd2 kd (k + 1)), ar E a1 6 (fil mn2 mn (k + 1)), ar E a2 6 (upd (fil pu2 pu k) k (pu2 k)), ar E a3 6 ro, ar E a4 6 wo, ob h2 5 [.ref b0, .ref b1, .ref b2, .ref b3, .ref b4, .int (nI n2), .int mo2], ar E b0 6 kd2, ar E b1 6 mn2, ar E b2 6 pu2] H := hP
        have hD : va_D A [ob h0 5 [.ref a0, .ref a1, .ref a2, .ref a3, .ref a4, .int (nI n), .int mo], ar E a0 6 (fil kd2 kd (k + 1)), ar E a1 6 (fil mn2 mn (k + 1)), ar E a2 6 (upd (fil pu2 pu k) k (pu2 k)), ar E a3 6 ro, ar E a4 6 wo, ob h2 5 [.ref b0, .ref b1, .ref b2, .ref b3, .ref b4, .int (nI n2), .int mo2], ar E b0 6 kd2, ar E b1 6 mn2, ar E b2 6 pu2] := hD
        rw [show upd (fil pu2 pu k) k (pu2 k) = fil pu2 pu (k + 1) from fil_s _ _ _] at hP hD
        refine lv_iinc (v := nI (k + 1)) (lv' := [(2, .int (nI (k + 1))), (0, .ref h0), (1, .ref h2)]) hx hb dX5_become_44 hl (k := 0) rfl (nI_inc k) (by decide) rfl (fun ls hl => ?_)
        refine lv_goto (tgt := 2) hx hb dX5_become_47 (by decide) ?_
        exact ih2 (k + 1) (by omega) (by omega) _ _ hP hD hS ls (lv_sub hl [0, 1, 2] rfl)
  exact L2 _ 0 (by omega) (Nat.lt_succ_self _) _ _ hP hD hS ls (lv_sub hl [0, 1, 2] rfl)
