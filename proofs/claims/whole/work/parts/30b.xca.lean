set_option maxHeartbeats 8000000 in
set_option maxRecDepth 100000 in
theorem c_X5_init (l : Launch) (E : gE) (sz : Nat) (h0 : Nat) : Met l yX5_init wsX5_init ({ frames := 1, cells := 5, slots := 30, locals := 12 }) (PN E [.ref h0] [ob h0 5 [.null, .null, .null, .null, .null, .int 0, .int 0]] sz) (QN E (fun (u : Nat → Nat) => [ob h0 5 [.ref (u 0), .ref (u 1), .ref (u 2), .ref (u 3), .ref (u 4), .int 0, .int 0], ar E (u 0) 6 (fun _ => 0), ar E (u 1) 6 (fun _ => 0), ar E (u 2) 6 (fun _ => 0), ar E (u 3) 6 (fun _ => 0), ar E (u 4) 6 (fun _ => 0)]) (va_A [ob h0 5 [.null, .null, .null, .null, .null, .int 0, .int 0]] sz)) 5 30 (va_A [ob h0 5 [.null, .null, .null, .null, .null, .int 0, .int 0]] sz) := by
  refine mkN (cc := cX5_init) (maxL := 1) (mc := 5) (ms := 30) (by decide) rfl (Nat.le_of_ble_eq_true rfl) ?_
  intro p e s m args below meth c QQ A hx hb hml hown hmn hts hK hO hA hP hD hS hret ls hl
  have hown : s.vm.findClass RX5 = some m.cls := hown
  have hmn : meth.name = "<init>" := hmn
  have hl : lv_has ls 1 [(0, .ref h0)] := hl
  have hinX5 : ∀ w ∈ wsX50, w ∈ wsX5_init := by decide +kernel
  have fl_9 := hts (.fieldLink RX5 9 "GuardAbacus$Wires" "kind" "[I") (by decide +kernel)
  have fl_15 := hts (.fieldLink RX5 15 "GuardAbacus$Wires" "men" "[I") (by decide +kernel)
  have fl_18 := hts (.fieldLink RX5 18 "GuardAbacus$Wires" "pushed" "[I") (by decide +kernel)
  have fl_21 := hts (.fieldLink RX5 21 "GuardAbacus$Wires" "room" "[I") (by decide +kernel)
  have fl_24 := hts (.fieldLink RX5 24 "GuardAbacus$Wires" "worth" "[I") (by decide +kernel)
  have fl_27 := hts (.fieldLink RX5 27 "GuardAbacus$Wires" "count" "I") (by decide +kernel)
  have fl_31 := hts (.fieldLink RX5 31 "GuardAbacus$Wires" "most" "I") (by decide +kernel)
  refine lv_aload_n hx hb dX5_init_0 rfl (lv_at hl 0 rfl) ?_
  refine W.objInit hx hb hown (hts (.methodLink RX5 3 objectInit) (by decide +kernel)) (hts (.instanceMethod objectInit) (by decide +kernel)) (hts (.code objectInit ⟨#[0xb1]⟩ 1 none) (List.mem_of_getElem? (i := 3) rfl)) rfl (by rw [hml]; exact hl.1) rfl dX5_init_1 (Nat.le_of_ble_eq_true rfl) (Nat.le_of_ble_eq_true rfl) ?_
  refine W.eq (g2 := F0 m 4 ls []) rfl ?_
  refine lv_aload_n hx hb dX5_init_4 rfl (lv_at hl 0 rfl) ?_
  refine lv_bipush (v := 6) hx hb dX5_init_5 (by decide) ?_
  refine nai hx hb (hts (.arrayClass .int) (by decide +kernel)) hK hP hD hS hA 6 rfl (Nat.le_of_ble_eq_true rfl) (Nat.le_of_ble_eq_true rfl) (Nat.le_of_ble_eq_true rfl) dX5_init_7 (fun q_1 H hP hD hS => ?_)
  have hP : va_P E.1 vwCl [ob h0 5 [.null, .null, .null, .null, .null, .int 0, .int 0], ar E q_1 6 (fun _ => 0)] H := hP
  have hD : va_D A [ob h0 5 [.null, .null, .null, .null, .null, .int 0, .int 0], ar E q_1 6 (fun _ => 0)] := hD
  refine W.widen (k := 1) (n := 6) (Nat.le_of_ble_eq_true rfl) (Nat.le_of_ble_eq_true rfl) ?_
  refine va_putF (D := E.1) (ci := 5) (v := .ref q_1) (ty := .array .int) (C := RX5) (T := TX5) (N := 7) hx hb hts hinX5 tyX5 tyX5_ok nmX5 hown hK.1 hP hD hS 0 rfl rfl 0 (by decide) fl_9 (fun _ h9 => h9) rfl hmn rfl (by decide +kernel) rfl rfl (Nat.le_of_ble_eq_true rfl) dX5_init_9 (fun H locs hP hD hS => ?_)
  have hP : va_P E.1 vwCl [ob h0 5 [.ref q_1, .null, .null, .null, .null, .int 0, .int 0], ar E q_1 6 (fun _ => 0)] H := hP
  have hD : va_D A [ob h0 5 [.ref q_1, .null, .null, .null, .null, .int 0, .int 0], ar E q_1 6 (fun _ => 0)] := hD
  refine lv_aload_n hx hb dX5_init_12 rfl (lv_at hl 0 rfl) ?_
  refine lv_bipush (v := 6) hx hb dX5_init_13 (by decide) ?_
  refine nai hx hb (hts (.arrayClass .int) (by decide +kernel)) hK hP hD hS hA 6 rfl (Nat.le_of_ble_eq_true rfl) (Nat.le_of_ble_eq_true rfl) (Nat.le_of_ble_eq_true rfl) dX5_init_15 (fun q_2 H hP hD hS => ?_)
  have hP : va_P E.1 vwCl [ob h0 5 [.ref q_1, .null, .null, .null, .null, .int 0, .int 0], ar E q_1 6 (fun _ => 0), ar E q_2 6 (fun _ => 0)] H := hP
  have hD : va_D A [ob h0 5 [.ref q_1, .null, .null, .null, .null, .int 0, .int 0], ar E q_1 6 (fun _ => 0), ar E q_2 6 (fun _ => 0)] := hD
  refine W.widen (k := 2) (n := 12) (Nat.le_of_ble_eq_true rfl) (Nat.le_of_ble_eq_true rfl) ?_
  refine va_putF (D := E.1) (ci := 5) (v := .ref q_2) (ty := .array .int) (C := RX5) (T := TX5) (N := 7) hx hb hts hinX5 tyX5 tyX5_ok nmX5 hown hK.1 hP hD hS 0 rfl rfl 1 (by decide) fl_15 (fun _ h9 => h9) rfl hmn rfl (by decide +kernel) rfl rfl (Nat.le_of_ble_eq_true rfl) dX5_init_17 (fun H locs hP hD hS => ?_)
  have hP : va_P E.1 vwCl [ob h0 5 [.ref q_1, .ref q_2, .null, .null, .null, .int 0, .int 0], ar E q_1 6 (fun _ => 0), ar E q_2 6 (fun _ => 0)] H := hP
  have hD : va_D A [ob h0 5 [.ref q_1, .ref q_2, .null, .null, .null, .int 0, .int 0], ar E q_1 6 (fun _ => 0), ar E q_2 6 (fun _ => 0)] := hD
  refine lv_aload_n hx hb dX5_init_20 rfl (lv_at hl 0 rfl) ?_
  refine lv_bipush (v := 6) hx hb dX5_init_21 (by decide) ?_
  refine nai hx hb (hts (.arrayClass .int) (by decide +kernel)) hK hP hD hS hA 6 rfl (Nat.le_of_ble_eq_true rfl) (Nat.le_of_ble_eq_true rfl) (Nat.le_of_ble_eq_true rfl) dX5_init_23 (fun q_3 H hP hD hS => ?_)
  have hP : va_P E.1 vwCl [ob h0 5 [.ref q_1, .ref q_2, .null, .null, .null, .int 0, .int 0], ar E q_1 6 (fun _ => 0), ar E q_2 6 (fun _ => 0), ar E q_3 6 (fun _ => 0)] H := hP
  have hD : va_D A [ob h0 5 [.ref q_1, .ref q_2, .null, .null, .null, .int 0, .int 0], ar E q_1 6 (fun _ => 0), ar E q_2 6 (fun _ => 0), ar E q_3 6 (fun _ => 0)] := hD
  refine W.widen (k := 3) (n := 18) (Nat.le_of_ble_eq_true rfl) (Nat.le_of_ble_eq_true rfl) ?_
  refine va_putF (D := E.1) (ci := 5) (v := .ref q_3) (ty := .array .int) (C := RX5) (T := TX5) (N := 7) hx hb hts hinX5 tyX5 tyX5_ok nmX5 hown hK.1 hP hD hS 0 rfl rfl 2 (by decide) fl_18 (fun _ h9 => h9) rfl hmn rfl (by decide +kernel) rfl rfl (Nat.le_of_ble_eq_true rfl) dX5_init_25 (fun H locs hP hD hS => ?_)
  have hP : va_P E.1 vwCl [ob h0 5 [.ref q_1, .ref q_2, .ref q_3, .null, .null, .int 0, .int 0], ar E q_1 6 (fun _ => 0), ar E q_2 6 (fun _ => 0), ar E q_3 6 (fun _ => 0)] H := hP
  have hD : va_D A [ob h0 5 [.ref q_1, .ref q_2, .ref q_3, .null, .null, .int 0, .int 0], ar E q_1 6 (fun _ => 0), ar E q_2 6 (fun _ => 0), ar E q_3 6 (fun _ => 0)] := hD
  refine lv_aload_n hx hb dX5_init_28 rfl (lv_at hl 0 rfl) ?_
  refine lv_bipush (v := 6) hx hb dX5_init_29 (by decide) ?_
  refine nai hx hb (hts (.arrayClass .int) (by decide +kernel)) hK hP hD hS hA 6 rfl (Nat.le_of_ble_eq_true rfl) (Nat.le_of_ble_eq_true rfl) (Nat.le_of_ble_eq_true rfl) dX5_init_31 (fun q_4 H hP hD hS => ?_)
  have hP : va_P E.1 vwCl [ob h0 5 [.ref q_1, .ref q_2, .ref q_3, .null, .null, .int 0, .int 0], ar E q_1 6 (fun _ => 0), ar E q_2 6 (fun _ => 0), ar E q_3 6 (fun _ => 0), ar E q_4 6 (fun _ => 0)] H := hP
  have hD : va_D A [ob h0 5 [.ref q_1, .ref q_2, .ref q_3, .null, .null, .int 0, .int 0], ar E q_1 6 (fun _ => 0), ar E q_2 6 (fun _ => 0), ar E q_3 6 (fun _ => 0), ar E q_4 6 (fun _ => 0)] := hD
  refine W.widen (k := 4) (n := 24) (Nat.le_of_ble_eq_true rfl) (Nat.le_of_ble_eq_true rfl) ?_
  refine va_putF (D := E.1) (ci := 5) (v := .ref q_4) (ty := .array .int) (C := RX5) (T := TX5) (N := 7) hx hb hts hinX5 tyX5 tyX5_ok nmX5 hown hK.1 hP hD hS 0 rfl rfl 3 (by decide) fl_21 (fun _ h9 => h9) rfl hmn rfl (by decide +kernel) rfl rfl (Nat.le_of_ble_eq_true rfl) dX5_init_33 (fun H locs hP hD hS => ?_)
  have hP : va_P E.1 vwCl [ob h0 5 [.ref q_1, .ref q_2, .ref q_3, .ref q_4, .null, .int 0, .int 0], ar E q_1 6 (fun _ => 0), ar E q_2 6 (fun _ => 0), ar E q_3 6 (fun _ => 0), ar E q_4 6 (fun _ => 0)] H := hP
  have hD : va_D A [ob h0 5 [.ref q_1, .ref q_2, .ref q_3, .ref q_4, .null, .int 0, .int 0], ar E q_1 6 (fun _ => 0), ar E q_2 6 (fun _ => 0), ar E q_3 6 (fun _ => 0), ar E q_4 6 (fun _ => 0)] := hD
  refine lv_aload_n hx hb dX5_init_36 rfl (lv_at hl 0 rfl) ?_
  refine lv_bipush (v := 6) hx hb dX5_init_37 (by decide) ?_
  refine nai hx hb (hts (.arrayClass .int) (by decide +kernel)) hK hP hD hS hA 6 rfl (Nat.le_of_ble_eq_true rfl) (Nat.le_of_ble_eq_true rfl) (Nat.le_of_ble_eq_true rfl) dX5_init_39 (fun q_5 H hP hD hS => ?_)
  have hP : va_P E.1 vwCl [ob h0 5 [.ref q_1, .ref q_2, .ref q_3, .ref q_4, .null, .int 0, .int 0], ar E q_1 6 (fun _ => 0), ar E q_2 6 (fun _ => 0), ar E q_3 6 (fun _ => 0), ar E q_4 6 (fun _ => 0), ar E q_5 6 (fun _ => 0)] H := hP
  have hD : va_D A [ob h0 5 [.ref q_1, .ref q_2, .ref q_3, .ref q_4, .null, .int 0, .int 0], ar E q_1 6 (fun _ => 0), ar E q_2 6 (fun _ => 0), ar E q_3 6 (fun _ => 0), ar E q_4 6 (fun _ => 0), ar E q_5 6 (fun _ => 0)] := hD
  refine W.widen (k := 5) (n := 30) (Nat.le_of_ble_eq_true rfl) (Nat.le_of_ble_eq_true rfl) ?_
  refine va_putF (D := E.1) (ci := 5) (v := .ref q_5) (ty := .array .int) (C := RX5) (T := TX5) (N := 7) hx hb hts hinX5 tyX5 tyX5_ok nmX5 hown hK.1 hP hD hS 0 rfl rfl 4 (by decide) fl_24 (fun _ h9 => h9) rfl hmn rfl (by decide +kernel) rfl rfl (Nat.le_of_ble_eq_true rfl) dX5_init_41 (fun H locs hP hD hS => ?_)
  have hP : va_P E.1 vwCl [ob h0 5 [.ref q_1, .ref q_2, .ref q_3, .ref q_4, .ref q_5, .int 0, .int 0], ar E q_1 6 (fun _ => 0), ar E q_2 6 (fun _ => 0), ar E q_3 6 (fun _ => 0), ar E q_4 6 (fun _ => 0), ar E q_5 6 (fun _ => 0)] H := hP
  have hD : va_D A [ob h0 5 [.ref q_1, .ref q_2, .ref q_3, .ref q_4, .ref q_5, .int 0, .int 0], ar E q_1 6 (fun _ => 0), ar E q_2 6 (fun _ => 0), ar E q_3 6 (fun _ => 0), ar E q_4 6 (fun _ => 0), ar E q_5 6 (fun _ => 0)] := hD
  refine lv_aload_n hx hb dX5_init_44 rfl (lv_at hl 0 rfl) ?_
  refine lv_iconst (v := 0) hx hb dX5_init_45 (by decide) ?_
  refine va_put (D := E.1) (ci := 5) (v := .int 0) (ty := .int) (C := RX5) (T := TX5) (N := 7) hx hb hts hinX5 tyX5 tyX5_ok nmX5 hown hK.1 hP hD hS 0 rfl rfl 5 (by decide) fl_27 (fun _ h9 => h9) rfl (by decide +kernel) rfl rfl (Nat.le_of_ble_eq_true rfl) dX5_init_46 (fun H locs hP hD hS => ?_)
  have hP : va_P E.1 vwCl [ob h0 5 [.ref q_1, .ref q_2, .ref q_3, .ref q_4, .ref q_5, .int 0, .int 0], ar E q_1 6 (fun _ => 0), ar E q_2 6 (fun _ => 0), ar E q_3 6 (fun _ => 0), ar E q_4 6 (fun _ => 0), ar E q_5 6 (fun _ => 0)] H := hP
  have hD : va_D A [ob h0 5 [.ref q_1, .ref q_2, .ref q_3, .ref q_4, .ref q_5, .int 0, .int 0], ar E q_1 6 (fun _ => 0), ar E q_2 6 (fun _ => 0), ar E q_3 6 (fun _ => 0), ar E q_4 6 (fun _ => 0), ar E q_5 6 (fun _ => 0)] := hD
  refine lv_aload_n hx hb dX5_init_49 rfl (lv_at hl 0 rfl) ?_
  refine lv_iconst (v := 0) hx hb dX5_init_50 (by decide) ?_
  refine va_put (D := E.1) (ci := 5) (v := .int 0) (ty := .int) (C := RX5) (T := TX5) (N := 7) hx hb hts hinX5 tyX5 tyX5_ok nmX5 hown hK.1 hP hD hS 0 rfl rfl 6 (by decide) fl_31 (fun _ h9 => h9) rfl (by decide +kernel) rfl rfl (Nat.le_of_ble_eq_true rfl) dX5_init_51 (fun H locs hP hD hS => ?_)
  have hP : va_P E.1 vwCl [ob h0 5 [.ref q_1, .ref q_2, .ref q_3, .ref q_4, .ref q_5, .int 0, .int 0], ar E q_1 6 (fun _ => 0), ar E q_2 6 (fun _ => 0), ar E q_3 6 (fun _ => 0), ar E q_4 6 (fun _ => 0), ar E q_5 6 (fun _ => 0)] H := hP
  have hD : va_D A [ob h0 5 [.ref q_1, .ref q_2, .ref q_3, .ref q_4, .ref q_5, .int 0, .int 0], ar E q_1 6 (fun _ => 0), ar E q_2 6 (fun _ => 0), ar E q_3 6 (fun _ => 0), ar E q_4 6 (fun _ => 0), ar E q_5 6 (fun _ => 0)] := hD
  exact hret _ _ _ _ (fun k => [q_1, q_2, q_3, q_4, q_5].getD k 0) dX5_init_54 hS hP hD
set_option maxHeartbeats 8000000 in
set_option maxRecDepth 100000 in
theorem c_X3_init (l : Launch) (E : gE) (sz : Nat) (hs : Nat) : Met l yX3_init wsX3_init ({ frames := 1, cells := 1, slots := 60, locals := 12 }) (PN E [.ref hs] [ob hs 3 [.null, .int 0, .int 0, .int 0]] sz) (QN E (fun (u : Nat → Nat) => [ob hs 3 [.ref (u 0), .int 0, .int 0, .int 0], ar E (u 0) 60 (fun _ => 0)]) (va_A [ob hs 3 [.null, .int 0, .int 0, .int 0]] sz)) 1 60 (va_A [ob hs 3 [.null, .int 0, .int 0, .int 0]] sz) := by
  refine mkN (cc := cX3_init) (maxL := 1) (mc := 1) (ms := 60) (by decide) rfl (Nat.le_of_ble_eq_true rfl) ?_
  intro p e s m args below meth c QQ A hx hb hml hown hmn hts hK hO hA hP hD hS hret ls hl
  have hown : s.vm.findClass RX3 = some m.cls := hown
  have hmn : meth.name = "<init>" := hmn
  have hl : lv_has ls 1 [(0, .ref hs)] := hl
  have hinX3 : ∀ w ∈ wsX30, w ∈ wsX3_init := by decide +kernel
  have fl_9 := hts (.fieldLink RX3 9 "GuardAbacus$Sheet" "cells" "[I") (by decide +kernel)
  have fl_15 := hts (.fieldLink RX3 15 "GuardAbacus$Sheet" "isThere" "Z") (by decide +kernel)
  have fl_19 := hts (.fieldLink RX3 19 "GuardAbacus$Sheet" "lane" "I") (by decide +kernel)
  have fl_23 := hts (.fieldLink RX3 23 "GuardAbacus$Sheet" "length" "I") (by decide +kernel)
  refine lv_aload_n hx hb dX3_init_0 rfl (lv_at hl 0 rfl) ?_
  refine W.objInit hx hb hown (hts (.methodLink RX3 3 objectInit) (by decide +kernel)) (hts (.instanceMethod objectInit) (by decide +kernel)) (hts (.code objectInit ⟨#[0xb1]⟩ 1 none) (List.mem_of_getElem? (i := 3) rfl)) rfl (by rw [hml]; exact hl.1) rfl dX3_init_1 (Nat.le_of_ble_eq_true rfl) (Nat.le_of_ble_eq_true rfl) ?_
  refine W.eq (g2 := F0 m 4 ls []) rfl ?_
  refine lv_aload_n hx hb dX3_init_4 rfl (lv_at hl 0 rfl) ?_
  refine lv_bipush (v := 60) hx hb dX3_init_5 (by decide) ?_
  refine nai hx hb (hts (.arrayClass .int) (by decide +kernel)) hK hP hD hS hA 60 rfl (Nat.le_of_ble_eq_true rfl) (Nat.le_of_ble_eq_true rfl) (Nat.le_of_ble_eq_true rfl) dX3_init_7 (fun q_1 H hP hD hS => ?_)
  have hP : va_P E.1 vwCl [ob hs 3 [.null, .int 0, .int 0, .int 0], ar E q_1 60 (fun _ => 0)] H := hP
  have hD : va_D A [ob hs 3 [.null, .int 0, .int 0, .int 0], ar E q_1 60 (fun _ => 0)] := hD
  refine W.widen (k := 1) (n := 60) (Nat.le_of_ble_eq_true rfl) (Nat.le_of_ble_eq_true rfl) ?_
  refine va_putF (D := E.1) (ci := 3) (v := .ref q_1) (ty := .array .int) (C := RX3) (T := TX3) (N := 4) hx hb hts hinX3 tyX3 tyX3_ok nmX3 hown hK.1 hP hD hS 0 rfl rfl 0 (by decide) fl_9 (fun _ h9 => h9) rfl hmn rfl (by decide +kernel) rfl rfl (Nat.le_of_ble_eq_true rfl) dX3_init_9 (fun H locs hP hD hS => ?_)
  have hP : va_P E.1 vwCl [ob hs 3 [.ref q_1, .int 0, .int 0, .int 0], ar E q_1 60 (fun _ => 0)] H := hP
  have hD : va_D A [ob hs 3 [.ref q_1, .int 0, .int 0, .int 0], ar E q_1 60 (fun _ => 0)] := hD
  refine lv_aload_n hx hb dX3_init_12 rfl (lv_at hl 0 rfl) ?_
  refine lv_iconst (v := 0) hx hb dX3_init_13 (by decide) ?_
  refine va_put (D := E.1) (ci := 3) (v := .int 0) (ty := .boolean) (C := RX3) (T := TX3) (N := 4) hx hb hts hinX3 tyX3 tyX3_ok nmX3 hown hK.1 hP hD hS 0 rfl rfl 1 (by decide) fl_15 (fun _ h9 => h9) rfl (by decide +kernel) rfl rfl (Nat.le_of_ble_eq_true rfl) dX3_init_14 (fun H locs hP hD hS => ?_)
  have hP : va_P E.1 vwCl [ob hs 3 [.ref q_1, .int 0, .int 0, .int 0], ar E q_1 60 (fun _ => 0)] H := hP
  have hD : va_D A [ob hs 3 [.ref q_1, .int 0, .int 0, .int 0], ar E q_1 60 (fun _ => 0)] := hD
  refine lv_aload_n hx hb dX3_init_17 rfl (lv_at hl 0 rfl) ?_
  refine lv_iconst (v := 0) hx hb dX3_init_18 (by decide) ?_
  refine va_put (D := E.1) (ci := 3) (v := .int 0) (ty := .int) (C := RX3) (T := TX3) (N := 4) hx hb hts hinX3 tyX3 tyX3_ok nmX3 hown hK.1 hP hD hS 0 rfl rfl 2 (by decide) fl_19 (fun _ h9 => h9) rfl (by decide +kernel) rfl rfl (Nat.le_of_ble_eq_true rfl) dX3_init_19 (fun H locs hP hD hS => ?_)
  have hP : va_P E.1 vwCl [ob hs 3 [.ref q_1, .int 0, .int 0, .int 0], ar E q_1 60 (fun _ => 0)] H := hP
  have hD : va_D A [ob hs 3 [.ref q_1, .int 0, .int 0, .int 0], ar E q_1 60 (fun _ => 0)] := hD
  refine lv_aload_n hx hb dX3_init_22 rfl (lv_at hl 0 rfl) ?_
  refine lv_iconst (v := 0) hx hb dX3_init_23 (by decide) ?_
  refine va_put (D := E.1) (ci := 3) (v := .int 0) (ty := .int) (C := RX3) (T := TX3) (N := 4) hx hb hts hinX3 tyX3 tyX3_ok nmX3 hown hK.1 hP hD hS 0 rfl rfl 3 (by decide) fl_23 (fun _ h9 => h9) rfl (by decide +kernel) rfl rfl (Nat.le_of_ble_eq_true rfl) dX3_init_24 (fun H locs hP hD hS => ?_)
  have hP : va_P E.1 vwCl [ob hs 3 [.ref q_1, .int 0, .int 0, .int 0], ar E q_1 60 (fun _ => 0)] H := hP
  have hD : va_D A [ob hs 3 [.ref q_1, .int 0, .int 0, .int 0], ar E q_1 60 (fun _ => 0)] := hD
  exact hret _ _ _ _ (fun k => [q_1].getD k 0) dX3_init_27 hS hP hD
set_option maxHeartbeats 8000000 in
set_option maxRecDepth 100000 in
theorem c_X4_init (l : Launch) (E : gE) (sz : Nat) (ht : Nat) : Met l yX4_init wsX4_init ({ frames := 2, cells := 6, slots := 37, locals := 32 }) (PN E [.ref ht] [ob ht 4 [.null]] sz) (QN E (fun (u : Nat → Nat) => [ob ht 4 [.ref (u 0)], ob (u 0) 5 [.ref (u 1), .ref (u 2), .ref (u 3), .ref (u 4), .ref (u 5), .int 0, .int 0], ar E (u 1) 6 (fun _ => 0), ar E (u 2) 6 (fun _ => 0), ar E (u 3) 6 (fun _ => 0), ar E (u 4) 6 (fun _ => 0), ar E (u 5) 6 (fun _ => 0)]) (va_A [ob ht 4 [.null]] sz)) 6 37 (va_A [ob ht 4 [.null]] sz) := by
  refine mkN (cc := cX4_init) (maxL := 1) (mc := 6) (ms := 37) (by decide) rfl (Nat.le_of_ble_eq_true rfl) ?_
  intro p e s m args below meth c QQ A hx hb hml hown hmn hts hK hO hA hP hD hS hret ls hl
  have hown : s.vm.findClass RX4 = some m.cls := hown
  have hmn : meth.name = "<init>" := hmn
  have hl : lv_has ls 1 [(0, .ref ht)] := hl
  have hinX4 : ∀ w ∈ wsX40, w ∈ wsX4_init := by decide +kernel
  have hinX5 : ∀ w ∈ wsX50, w ∈ wsX4_init := by decide +kernel
  have fl_12 := hts (.fieldLink RX4 12 "GuardAbacus$Text" "made" "LGuardAbacus$Wires;") (by decide +kernel)
  refine lv_aload_n hx hb dX4_init_0 rfl (lv_at hl 0 rfl) ?_
  refine W.objInit hx hb hown (hts (.methodLink RX4 3 objectInit) (by decide +kernel)) (hts (.instanceMethod objectInit) (by decide +kernel)) (hts (.code objectInit ⟨#[0xb1]⟩ 1 none) (List.mem_of_getElem? (i := 3) rfl)) rfl (by rw [hml]; exact hl.1) rfl dX4_init_1 (Nat.le_of_ble_eq_true rfl) (Nat.le_of_ble_eq_true rfl) ?_
  refine W.eq (g2 := F0 m 4 ls []) rfl ?_
  refine lv_aload_n hx hb dX4_init_4 rfl (lv_at hl 0 rfl) ?_
  refine va_new (ci := 5) (fs := [.null, .null, .null, .null, .null, .int 0, .int 0]) (C := RX5) (T := TX5) (N := 7) hx hb hts hinX5 tyX5 tyX5_ok hown (hts (.classLink RX4 9 RX5) (by decide +kernel)) (hts (.instantiable RX5 7) (by decide +kernel)) (hts (.initialized RX5) (by decide +kernel)) hK.1 hP hD hS hA rfl (fun j hj => by rcases (show j = 0 ∨ j = 1 ∨ j = 2 ∨ j = 3 ∨ j = 4 ∨ j = 5 ∨ j = 6 by omega) with rfl | rfl | rfl | rfl | rfl | rfl | rfl <;> rfl) (Nat.le_of_ble_eq_true rfl) (Nat.le_of_ble_eq_true rfl) dX4_init_5 (fun q_1 H hP hD hS => ?_)
  have hP : va_P E.1 vwCl [ob ht 4 [.null], ob q_1 5 [.null, .null, .null, .null, .null, .int 0, .int 0]] H := hP
  have hD : va_D A [ob ht 4 [.null], ob q_1 5 [.null, .null, .null, .null, .null, .int 0, .int 0]] := hD
  refine W.widen (k := 1) (n := 7) (Nat.le_of_ble_eq_true rfl) (Nat.le_of_ble_eq_true rfl) ?_
  refine lv_dup hx hb dX4_init_8 rfl ?_
  refine cnI (rest := [.ref q_1, .ref ht]) (wr := [ob ht 4 [.null]]) ⟨hx, hb, hml, hown, hts⟩ (c_X5_init l E _ q_1) ⟨va_cnB 0 hts gX4_init_X5_init_n11 rfl rfl rfl hK.2.2.2.1 (hts (.initialized RX5) (by decide +kernel)) (by decide +kernel) ⟨(Nat.le_of_ble_eq_true rfl), (Nat.le_of_ble_eq_true rfl)⟩, rfl, hts (.instanceMethod yX5_init) (by decide +kernel)⟩ hK hO hP hD hS hA [1] [0] rfl rfl (by decide) (by decide) (by decide) hl.1 (catLe (Nat.le_of_ble_eq_true rfl)) dX4_init_9 ⟨(Nat.le_of_ble_eq_true rfl), (Nat.le_of_ble_eq_true rfl)⟩ (fun u_2 H locs hP hD hS => ?_)
  have hP : va_P E.1 vwCl [ob ht 4 [.null], ob q_1 5 [.ref (u_2 0), .ref (u_2 1), .ref (u_2 2), .ref (u_2 3), .ref (u_2 4), .int 0, .int 0], ar E (u_2 0) 6 (fun _ => 0), ar E (u_2 1) 6 (fun _ => 0), ar E (u_2 2) 6 (fun _ => 0), ar E (u_2 3) 6 (fun _ => 0), ar E (u_2 4) 6 (fun _ => 0)] H := hP
  have hD : va_D A [ob ht 4 [.null], ob q_1 5 [.ref (u_2 0), .ref (u_2 1), .ref (u_2 2), .ref (u_2 3), .ref (u_2 4), .int 0, .int 0], ar E (u_2 0) 6 (fun _ => 0), ar E (u_2 1) 6 (fun _ => 0), ar E (u_2 2) 6 (fun _ => 0), ar E (u_2 3) 6 (fun _ => 0), ar E (u_2 4) 6 (fun _ => 0)] := hD
  refine W.widen (k := 6) (n := 37) (Nat.le_of_ble_eq_true rfl) (Nat.le_of_ble_eq_true rfl) ?_
  refine va_putF (D := E.1) (ci := 4) (v := .ref q_1) (ty := .object "GuardAbacus$Wires") (C := RX4) (T := TX4) (N := 1) hx hb hts hinX4 tyX4 tyX4_ok nmX4 hown hK.1 hP hD hS 0 rfl rfl 0 (by decide) fl_12 (fun _ h9 => h9) rfl hmn rfl (by decide +kernel) rfl rfl (Nat.le_of_ble_eq_true rfl) dX4_init_12 (fun H locs hP hD hS => ?_)
  have hP : va_P E.1 vwCl [ob ht 4 [.ref q_1], ob q_1 5 [.ref (u_2 0), .ref (u_2 1), .ref (u_2 2), .ref (u_2 3), .ref (u_2 4), .int 0, .int 0], ar E (u_2 0) 6 (fun _ => 0), ar E (u_2 1) 6 (fun _ => 0), ar E (u_2 2) 6 (fun _ => 0), ar E (u_2 3) 6 (fun _ => 0), ar E (u_2 4) 6 (fun _ => 0)] H := hP
  have hD : va_D A [ob ht 4 [.ref q_1], ob q_1 5 [.ref (u_2 0), .ref (u_2 1), .ref (u_2 2), .ref (u_2 3), .ref (u_2 4), .int 0, .int 0], ar E (u_2 0) 6 (fun _ => 0), ar E (u_2 1) 6 (fun _ => 0), ar E (u_2 2) 6 (fun _ => 0), ar E (u_2 3) 6 (fun _ => 0), ar E (u_2 4) 6 (fun _ => 0)] := hD
  exact hret _ _ _ _ (fun k => [q_1, (u_2 0), (u_2 1), (u_2 2), (u_2 3), (u_2 4)].getD k 0) dX4_init_15 hS hP hD
set_option maxHeartbeats 8000000 in
set_option maxRecDepth 100000 in
theorem c_X0_init (l : Launch) (E : gE) (sz : Nat) (hd : Nat) : Met l yX0_init wsX0_init ({ frames := 1, cells := 0, slots := 0, locals := 12 }) (PN E [.ref hd] [ob hd 0 [.int 0, .int 0, .int 0, .int 0]] sz) (QN E (fun (u : Nat → Nat) => [ob hd 0 [.int (-9), .int 0, .int 0, .int 0]]) (va_A [ob hd 0 [.int 0, .int 0, .int 0, .int 0]] sz)) 0 0 (va_A [ob hd 0 [.int 0, .int 0, .int 0, .int 0]] sz) := by
  refine mkN (cc := cX0_init) (maxL := 1) (mc := 0) (ms := 0) (by decide) rfl (Nat.le_of_ble_eq_true rfl) ?_
  intro p e s m args below meth c QQ A hx hb hml hown hmn hts hK hO hA hP hD hS hret ls hl
  have hown : s.vm.findClass RX0 = some m.cls := hown
  have hmn : meth.name = "<init>" := hmn
  have hl : lv_has ls 1 [(0, .ref hd)] := hl
  have hinX0 : ∀ w ∈ wsX00, w ∈ wsX0_init := by decide +kernel
  have fl_9 := hts (.fieldLink RX0 9 "GuardAbacus$Day" "firstWrong" "I") (by decide +kernel)
  have fl_15 := hts (.fieldLink RX0 15 "GuardAbacus$Day" "slid" "I") (by decide +kernel)
  have fl_18 := hts (.fieldLink RX0 18 "GuardAbacus$Day" "carried" "I") (by decide +kernel)
  have fl_21 := hts (.fieldLink RX0 21 "GuardAbacus$Day" "greatest" "I") (by decide +kernel)
  refine lv_aload_n hx hb dX0_init_0 rfl (lv_at hl 0 rfl) ?_
  refine W.objInit hx hb hown (hts (.methodLink RX0 3 objectInit) (by decide +kernel)) (hts (.instanceMethod objectInit) (by decide +kernel)) (hts (.code objectInit ⟨#[0xb1]⟩ 1 none) (List.mem_of_getElem? (i := 3) rfl)) rfl (by rw [hml]; exact hl.1) rfl dX0_init_1 (Nat.le_of_ble_eq_true rfl) (Nat.le_of_ble_eq_true rfl) ?_
  refine W.eq (g2 := F0 m 4 ls []) rfl ?_
  refine lv_aload_n hx hb dX0_init_4 rfl (lv_at hl 0 rfl) ?_
  refine lv_bipush (v := (-9)) hx hb dX0_init_5 (by decide) ?_
  refine va_put (D := E.1) (ci := 0) (v := .int (-9)) (ty := .int) (C := RX0) (T := TX0) (N := 4) hx hb hts hinX0 tyX0 tyX0_ok nmX0 hown hK.1 hP hD hS 0 rfl rfl 0 (by decide) fl_9 (fun _ h9 => h9) rfl (by decide +kernel) rfl rfl (Nat.le_of_ble_eq_true rfl) dX0_init_7 (fun H locs hP hD hS => ?_)
  have hP : va_P E.1 vwCl [ob hd 0 [.int (-9), .int 0, .int 0, .int 0]] H := hP
  have hD : va_D A [ob hd 0 [.int (-9), .int 0, .int 0, .int 0]] := hD
  refine lv_aload_n hx hb dX0_init_10 rfl (lv_at hl 0 rfl) ?_
  refine lv_iconst (v := 0) hx hb dX0_init_11 (by decide) ?_
  refine va_put (D := E.1) (ci := 0) (v := .int 0) (ty := .int) (C := RX0) (T := TX0) (N := 4) hx hb hts hinX0 tyX0 tyX0_ok nmX0 hown hK.1 hP hD hS 0 rfl rfl 1 (by decide) fl_15 (fun _ h9 => h9) rfl (by decide +kernel) rfl rfl (Nat.le_of_ble_eq_true rfl) dX0_init_12 (fun H locs hP hD hS => ?_)
  have hP : va_P E.1 vwCl [ob hd 0 [.int (-9), .int 0, .int 0, .int 0]] H := hP
  have hD : va_D A [ob hd 0 [.int (-9), .int 0, .int 0, .int 0]] := hD
  refine lv_aload_n hx hb dX0_init_15 rfl (lv_at hl 0 rfl) ?_
  refine lv_iconst (v := 0) hx hb dX0_init_16 (by decide) ?_
  refine va_put (D := E.1) (ci := 0) (v := .int 0) (ty := .int) (C := RX0) (T := TX0) (N := 4) hx hb hts hinX0 tyX0 tyX0_ok nmX0 hown hK.1 hP hD hS 0 rfl rfl 2 (by decide) fl_18 (fun _ h9 => h9) rfl (by decide +kernel) rfl rfl (Nat.le_of_ble_eq_true rfl) dX0_init_17 (fun H locs hP hD hS => ?_)
  have hP : va_P E.1 vwCl [ob hd 0 [.int (-9), .int 0, .int 0, .int 0]] H := hP
  have hD : va_D A [ob hd 0 [.int (-9), .int 0, .int 0, .int 0]] := hD
  refine lv_aload_n hx hb dX0_init_20 rfl (lv_at hl 0 rfl) ?_
  refine lv_iconst (v := 0) hx hb dX0_init_21 (by decide) ?_
  refine va_put (D := E.1) (ci := 0) (v := .int 0) (ty := .int) (C := RX0) (T := TX0) (N := 4) hx hb hts hinX0 tyX0 tyX0_ok nmX0 hown hK.1 hP hD hS 0 rfl rfl 3 (by decide) fl_21 (fun _ h9 => h9) rfl (by decide +kernel) rfl rfl (Nat.le_of_ble_eq_true rfl) dX0_init_22 (fun H locs hP hD hS => ?_)
  have hP : va_P E.1 vwCl [ob hd 0 [.int (-9), .int 0, .int 0, .int 0]] H := hP
  have hD : va_D A [ob hd 0 [.int (-9), .int 0, .int 0, .int 0]] := hD
  exact hret _ _ _ _ (fun _ => 0) dX0_init_25 hS hP hD
set_option maxHeartbeats 8000000 in
set_option maxRecDepth 100000 in
theorem c_X1_init (l : Launch) (E : gE) (sz : Nat) (ho : Nat) : Met l yX1_init wsX1_init ({ frames := 1, cells := 3, slots := 192, locals := 12 }) (PN E [.ref ho] [ob ho 1 [.null, .null, .null]] sz) (QN E (fun (u : Nat → Nat) => [ob ho 1 [.ref (u 0), .ref (u 1), .ref (u 2)], ar E (u 0) 64 (fun _ => 0), ar E (u 1) 64 (fun _ => 0), ar E (u 2) 64 (fun _ => 0)]) (va_A [ob ho 1 [.null, .null, .null]] sz)) 3 192 (va_A [ob ho 1 [.null, .null, .null]] sz) := by
  refine mkN (cc := cX1_init) (maxL := 1) (mc := 3) (ms := 192) (by decide) rfl (Nat.le_of_ble_eq_true rfl) ?_
  intro p e s m args below meth c QQ A hx hb hml hown hmn hts hK hO hA hP hD hS hret ls hl
  have hown : s.vm.findClass RX1 = some m.cls := hown
  have hmn : meth.name = "<init>" := hmn
  have hl : lv_has ls 1 [(0, .ref ho)] := hl
  have hinX1 : ∀ w ∈ wsX10, w ∈ wsX1_init := by decide +kernel
  have fl_11 := hts (.fieldLink RX1 11 "GuardAbacus$Order" "sumOf" "[I") (by decide +kernel)
  have fl_15 := hts (.fieldLink RX1 15 "GuardAbacus$Order" "nextOf" "[I") (by decide +kernel)
  have fl_18 := hts (.fieldLink RX1 18 "GuardAbacus$Order" "slidBehind" "[I") (by decide +kernel)
  refine lv_aload_n hx hb dX1_init_0 rfl (lv_at hl 0 rfl) ?_
  refine W.objInit hx hb hown (hts (.methodLink RX1 3 objectInit) (by decide +kernel)) (hts (.instanceMethod objectInit) (by decide +kernel)) (hts (.code objectInit ⟨#[0xb1]⟩ 1 none) (List.mem_of_getElem? (i := 3) rfl)) rfl (by rw [hml]; exact hl.1) rfl dX1_init_1 (Nat.le_of_ble_eq_true rfl) (Nat.le_of_ble_eq_true rfl) ?_
  refine W.eq (g2 := F0 m 4 ls []) rfl ?_
  refine lv_aload_n hx hb dX1_init_4 rfl (lv_at hl 0 rfl) ?_
  refine lv_bipush (v := 64) hx hb dX1_init_5 (by decide) ?_
  refine nai hx hb (hts (.arrayClass .int) (by decide +kernel)) hK hP hD hS hA 64 rfl (Nat.le_of_ble_eq_true rfl) (Nat.le_of_ble_eq_true rfl) (Nat.le_of_ble_eq_true rfl) dX1_init_7 (fun q_1 H hP hD hS => ?_)
  have hP : va_P E.1 vwCl [ob ho 1 [.null, .null, .null], ar E q_1 64 (fun _ => 0)] H := hP
  have hD : va_D A [ob ho 1 [.null, .null, .null], ar E q_1 64 (fun _ => 0)] := hD
  refine W.widen (k := 1) (n := 64) (Nat.le_of_ble_eq_true rfl) (Nat.le_of_ble_eq_true rfl) ?_
  refine va_putF (D := E.1) (ci := 1) (v := .ref q_1) (ty := .array .int) (C := RX1) (T := TX1) (N := 3) hx hb hts hinX1 tyX1 tyX1_ok nmX1 hown hK.1 hP hD hS 0 rfl rfl 0 (by decide) fl_11 (fun _ h9 => h9) rfl hmn rfl (by decide +kernel) rfl rfl (Nat.le_of_ble_eq_true rfl) dX1_init_9 (fun H locs hP hD hS => ?_)
  have hP : va_P E.1 vwCl [ob ho 1 [.ref q_1, .null, .null], ar E q_1 64 (fun _ => 0)] H := hP
  have hD : va_D A [ob ho 1 [.ref q_1, .null, .null], ar E q_1 64 (fun _ => 0)] := hD
  refine lv_aload_n hx hb dX1_init_12 rfl (lv_at hl 0 rfl) ?_
  refine lv_bipush (v := 64) hx hb dX1_init_13 (by decide) ?_
  refine nai hx hb (hts (.arrayClass .int) (by decide +kernel)) hK hP hD hS hA 64 rfl (Nat.le_of_ble_eq_true rfl) (Nat.le_of_ble_eq_true rfl) (Nat.le_of_ble_eq_true rfl) dX1_init_15 (fun q_2 H hP hD hS => ?_)
  have hP : va_P E.1 vwCl [ob ho 1 [.ref q_1, .null, .null], ar E q_1 64 (fun _ => 0), ar E q_2 64 (fun _ => 0)] H := hP
  have hD : va_D A [ob ho 1 [.ref q_1, .null, .null], ar E q_1 64 (fun _ => 0), ar E q_2 64 (fun _ => 0)] := hD
  refine W.widen (k := 2) (n := 128) (Nat.le_of_ble_eq_true rfl) (Nat.le_of_ble_eq_true rfl) ?_
  refine va_putF (D := E.1) (ci := 1) (v := .ref q_2) (ty := .array .int) (C := RX1) (T := TX1) (N := 3) hx hb hts hinX1 tyX1 tyX1_ok nmX1 hown hK.1 hP hD hS 0 rfl rfl 1 (by decide) fl_15 (fun _ h9 => h9) rfl hmn rfl (by decide +kernel) rfl rfl (Nat.le_of_ble_eq_true rfl) dX1_init_17 (fun H locs hP hD hS => ?_)
  have hP : va_P E.1 vwCl [ob ho 1 [.ref q_1, .ref q_2, .null], ar E q_1 64 (fun _ => 0), ar E q_2 64 (fun _ => 0)] H := hP
  have hD : va_D A [ob ho 1 [.ref q_1, .ref q_2, .null], ar E q_1 64 (fun _ => 0), ar E q_2 64 (fun _ => 0)] := hD
  refine lv_aload_n hx hb dX1_init_20 rfl (lv_at hl 0 rfl) ?_
  refine lv_bipush (v := 64) hx hb dX1_init_21 (by decide) ?_
  refine nai hx hb (hts (.arrayClass .int) (by decide +kernel)) hK hP hD hS hA 64 rfl (Nat.le_of_ble_eq_true rfl) (Nat.le_of_ble_eq_true rfl) (Nat.le_of_ble_eq_true rfl) dX1_init_23 (fun q_3 H hP hD hS => ?_)
  have hP : va_P E.1 vwCl [ob ho 1 [.ref q_1, .ref q_2, .null], ar E q_1 64 (fun _ => 0), ar E q_2 64 (fun _ => 0), ar E q_3 64 (fun _ => 0)] H := hP
  have hD : va_D A [ob ho 1 [.ref q_1, .ref q_2, .null], ar E q_1 64 (fun _ => 0), ar E q_2 64 (fun _ => 0), ar E q_3 64 (fun _ => 0)] := hD
  refine W.widen (k := 3) (n := 192) (Nat.le_of_ble_eq_true rfl) (Nat.le_of_ble_eq_true rfl) ?_
  refine va_putF (D := E.1) (ci := 1) (v := .ref q_3) (ty := .array .int) (C := RX1) (T := TX1) (N := 3) hx hb hts hinX1 tyX1 tyX1_ok nmX1 hown hK.1 hP hD hS 0 rfl rfl 2 (by decide) fl_18 (fun _ h9 => h9) rfl hmn rfl (by decide +kernel) rfl rfl (Nat.le_of_ble_eq_true rfl) dX1_init_25 (fun H locs hP hD hS => ?_)
  have hP : va_P E.1 vwCl [ob ho 1 [.ref q_1, .ref q_2, .ref q_3], ar E q_1 64 (fun _ => 0), ar E q_2 64 (fun _ => 0), ar E q_3 64 (fun _ => 0)] H := hP
  have hD : va_D A [ob ho 1 [.ref q_1, .ref q_2, .ref q_3], ar E q_1 64 (fun _ => 0), ar E q_2 64 (fun _ => 0), ar E q_3 64 (fun _ => 0)] := hD
  exact hret _ _ _ _ (fun k => [q_1, q_2, q_3].getD k 0) dX1_init_28 hS hP hD
set_option maxHeartbeats 8000000 in
set_option maxRecDepth 100000 in
theorem c_X2_init (l : Launch) (E : gE) (sz : Nat) (hr : Nat) : Met l yX2_init wsX2_init ({ frames := 1, cells := 3, slots := 24, locals := 12 }) (PN E [.ref hr] [ob hr 2 [.null, .null, .null, .int 0]] sz) (QN E (fun (u : Nat → Nat) => [ob hr 2 [.ref (u 0), .ref (u 1), .ref (u 2), .int 0], ar E (u 0) 8 (fun _ => 0), ar E (u 1) 8 (fun _ => 0), ar E (u 2) 8 (fun _ => 0)]) (va_A [ob hr 2 [.null, .null, .null, .int 0]] sz)) 3 24 (va_A [ob hr 2 [.null, .null, .null, .int 0]] sz) := by
  refine mkN (cc := cX2_init) (maxL := 1) (mc := 3) (ms := 24) (by decide) rfl (Nat.le_of_ble_eq_true rfl) ?_
  intro p e s m args below meth c QQ A hx hb hml hown hmn hts hK hO hA hP hD hS hret ls hl
  have hown : s.vm.findClass RX2 = some m.cls := hown
  have hmn : meth.name = "<init>" := hmn
  have hl : lv_has ls 1 [(0, .ref hr)] := hl
  have hinX2 : ∀ w ∈ wsX20, w ∈ wsX2_init := by decide +kernel
  have fl_9 := hts (.fieldLink RX2 9 "GuardAbacus$Readings" "sum" "[I") (by decide +kernel)
  have fl_15 := hts (.fieldLink RX2 15 "GuardAbacus$Readings" "wire" "[I") (by decide +kernel)
  have fl_18 := hts (.fieldLink RX2 18 "GuardAbacus$Readings" "seen" "[I") (by decide +kernel)
  have fl_21 := hts (.fieldLink RX2 21 "GuardAbacus$Readings" "count" "I") (by decide +kernel)
  refine lv_aload_n hx hb dX2_init_0 rfl (lv_at hl 0 rfl) ?_
  refine W.objInit hx hb hown (hts (.methodLink RX2 3 objectInit) (by decide +kernel)) (hts (.instanceMethod objectInit) (by decide +kernel)) (hts (.code objectInit ⟨#[0xb1]⟩ 1 none) (List.mem_of_getElem? (i := 3) rfl)) rfl (by rw [hml]; exact hl.1) rfl dX2_init_1 (Nat.le_of_ble_eq_true rfl) (Nat.le_of_ble_eq_true rfl) ?_
  refine W.eq (g2 := F0 m 4 ls []) rfl ?_
  refine lv_aload_n hx hb dX2_init_4 rfl (lv_at hl 0 rfl) ?_
  refine lv_bipush (v := 8) hx hb dX2_init_5 (by decide) ?_
  refine nai hx hb (hts (.arrayClass .int) (by decide +kernel)) hK hP hD hS hA 8 rfl (Nat.le_of_ble_eq_true rfl) (Nat.le_of_ble_eq_true rfl) (Nat.le_of_ble_eq_true rfl) dX2_init_7 (fun q_1 H hP hD hS => ?_)
  have hP : va_P E.1 vwCl [ob hr 2 [.null, .null, .null, .int 0], ar E q_1 8 (fun _ => 0)] H := hP
  have hD : va_D A [ob hr 2 [.null, .null, .null, .int 0], ar E q_1 8 (fun _ => 0)] := hD
  refine W.widen (k := 1) (n := 8) (Nat.le_of_ble_eq_true rfl) (Nat.le_of_ble_eq_true rfl) ?_
  refine va_putF (D := E.1) (ci := 2) (v := .ref q_1) (ty := .array .int) (C := RX2) (T := TX2) (N := 4) hx hb hts hinX2 tyX2 tyX2_ok nmX2 hown hK.1 hP hD hS 0 rfl rfl 0 (by decide) fl_9 (fun _ h9 => h9) rfl hmn rfl (by decide +kernel) rfl rfl (Nat.le_of_ble_eq_true rfl) dX2_init_9 (fun H locs hP hD hS => ?_)
  have hP : va_P E.1 vwCl [ob hr 2 [.ref q_1, .null, .null, .int 0], ar E q_1 8 (fun _ => 0)] H := hP
  have hD : va_D A [ob hr 2 [.ref q_1, .null, .null, .int 0], ar E q_1 8 (fun _ => 0)] := hD
  refine lv_aload_n hx hb dX2_init_12 rfl (lv_at hl 0 rfl) ?_
  refine lv_bipush (v := 8) hx hb dX2_init_13 (by decide) ?_
  refine nai hx hb (hts (.arrayClass .int) (by decide +kernel)) hK hP hD hS hA 8 rfl (Nat.le_of_ble_eq_true rfl) (Nat.le_of_ble_eq_true rfl) (Nat.le_of_ble_eq_true rfl) dX2_init_15 (fun q_2 H hP hD hS => ?_)
  have hP : va_P E.1 vwCl [ob hr 2 [.ref q_1, .null, .null, .int 0], ar E q_1 8 (fun _ => 0), ar E q_2 8 (fun _ => 0)] H := hP
  have hD : va_D A [ob hr 2 [.ref q_1, .null, .null, .int 0], ar E q_1 8 (fun _ => 0), ar E q_2 8 (fun _ => 0)] := hD
  refine W.widen (k := 2) (n := 16) (Nat.le_of_ble_eq_true rfl) (Nat.le_of_ble_eq_true rfl) ?_
  refine va_putF (D := E.1) (ci := 2) (v := .ref q_2) (ty := .array .int) (C := RX2) (T := TX2) (N := 4) hx hb hts hinX2 tyX2 tyX2_ok nmX2 hown hK.1 hP hD hS 0 rfl rfl 1 (by decide) fl_15 (fun _ h9 => h9) rfl hmn rfl (by decide +kernel) rfl rfl (Nat.le_of_ble_eq_true rfl) dX2_init_17 (fun H locs hP hD hS => ?_)
  have hP : va_P E.1 vwCl [ob hr 2 [.ref q_1, .ref q_2, .null, .int 0], ar E q_1 8 (fun _ => 0), ar E q_2 8 (fun _ => 0)] H := hP
  have hD : va_D A [ob hr 2 [.ref q_1, .ref q_2, .null, .int 0], ar E q_1 8 (fun _ => 0), ar E q_2 8 (fun _ => 0)] := hD
  refine lv_aload_n hx hb dX2_init_20 rfl (lv_at hl 0 rfl) ?_
  refine lv_bipush (v := 8) hx hb dX2_init_21 (by decide) ?_
  refine nai hx hb (hts (.arrayClass .int) (by decide +kernel)) hK hP hD hS hA 8 rfl (Nat.le_of_ble_eq_true rfl) (Nat.le_of_ble_eq_true rfl) (Nat.le_of_ble_eq_true rfl) dX2_init_23 (fun q_3 H hP hD hS => ?_)
  have hP : va_P E.1 vwCl [ob hr 2 [.ref q_1, .ref q_2, .null, .int 0], ar E q_1 8 (fun _ => 0), ar E q_2 8 (fun _ => 0), ar E q_3 8 (fun _ => 0)] H := hP
  have hD : va_D A [ob hr 2 [.ref q_1, .ref q_2, .null, .int 0], ar E q_1 8 (fun _ => 0), ar E q_2 8 (fun _ => 0), ar E q_3 8 (fun _ => 0)] := hD
  refine W.widen (k := 3) (n := 24) (Nat.le_of_ble_eq_true rfl) (Nat.le_of_ble_eq_true rfl) ?_
  refine va_putF (D := E.1) (ci := 2) (v := .ref q_3) (ty := .array .int) (C := RX2) (T := TX2) (N := 4) hx hb hts hinX2 tyX2 tyX2_ok nmX2 hown hK.1 hP hD hS 0 rfl rfl 2 (by decide) fl_18 (fun _ h9 => h9) rfl hmn rfl (by decide +kernel) rfl rfl (Nat.le_of_ble_eq_true rfl) dX2_init_25 (fun H locs hP hD hS => ?_)
  have hP : va_P E.1 vwCl [ob hr 2 [.ref q_1, .ref q_2, .ref q_3, .int 0], ar E q_1 8 (fun _ => 0), ar E q_2 8 (fun _ => 0), ar E q_3 8 (fun _ => 0)] H := hP
  have hD : va_D A [ob hr 2 [.ref q_1, .ref q_2, .ref q_3, .int 0], ar E q_1 8 (fun _ => 0), ar E q_2 8 (fun _ => 0), ar E q_3 8 (fun _ => 0)] := hD
  refine lv_aload_n hx hb dX2_init_28 rfl (lv_at hl 0 rfl) ?_
  refine lv_iconst (v := 0) hx hb dX2_init_29 (by decide) ?_
  refine va_put (D := E.1) (ci := 2) (v := .int 0) (ty := .int) (C := RX2) (T := TX2) (N := 4) hx hb hts hinX2 tyX2 tyX2_ok nmX2 hown hK.1 hP hD hS 0 rfl rfl 3 (by decide) fl_21 (fun _ h9 => h9) rfl (by decide +kernel) rfl rfl (Nat.le_of_ble_eq_true rfl) dX2_init_30 (fun H locs hP hD hS => ?_)
  have hP : va_P E.1 vwCl [ob hr 2 [.ref q_1, .ref q_2, .ref q_3, .int 0], ar E q_1 8 (fun _ => 0), ar E q_2 8 (fun _ => 0), ar E q_3 8 (fun _ => 0)] H := hP
  have hD : va_D A [ob hr 2 [.ref q_1, .ref q_2, .ref q_3, .int 0], ar E q_1 8 (fun _ => 0), ar E q_2 8 (fun _ => 0), ar E q_3 8 (fun _ => 0)] := hD
  exact hret _ _ _ _ (fun k => [q_1, q_2, q_3].getD k 0) dX2_init_33 hS hP hD
set_option maxHeartbeats 8000000 in
set_option maxRecDepth 100000 in
theorem c_X7_init (l : Launch) (E : gE) (sz : Nat) (m0 : Nat) : Met l yX7_init wsX7_init ({ frames := 1, cells := 14, slots := 1429, locals := 12 }) (PN E [.ref m0] [ob m0 7 [.int 0, .int 0, .null, .null, .null, .int 0, .null, .null, .null, .int 0, .int 0, .null, .null, .int 0, .int 0, .int 0, .null, .null, .int 0, .null, .null, .null, .null]] sz) (QN E (fun (u : Nat → Nat) => [ob m0 7 [.int 0, .int 0, .ref (u 0), .ref (u 1), .ref (u 2), .int 0, .ref (u 3), .ref (u 4), .ref (u 5), .int 0, .int 0, .ref (u 6), .ref (u 7), .int 0, .int 0, .int 0, .ref (u 8), .ref (u 9), .int 0, .ref (u 10), .ref (u 11), .ref (u 12), .ref (u 13)], ar E (u 0) 4 (upd (upd (upd (upd (fun _ => 0) 0 (-9)) 1 (-9)) 2 (-9)) 3 (-9)), ar E (u 1) 4 (fun _ => 0), ar E (u 2) 240 (fun _ => 0), ar E (u 3) 6 (fun _ => 0), ar E (u 4) 6 (fun _ => 0), ar E (u 5) 6 (fun _ => 0), ar E (u 6) 18 (fun _ => 0), ar E (u 7) 6 (fun _ => 0), ar E (u 8) 6 (fun _ => 0), ar E (u 9) 1000 (fun _ => 0), ar E (u 10) 8 (fun _ => 0), ar E (u 11) 8 (fun _ => 0), ar E (u 12) 8 (fun _ => 0), ar E (u 13) 109 (fun _ => 0)]) (va_A [ob m0 7 [.int 0, .int 0, .null, .null, .null, .int 0, .null, .null, .null, .int 0, .int 0, .null, .null, .int 0, .int 0, .int 0, .null, .null, .int 0, .null, .null, .null, .null]] sz)) 14 1429 (va_A [ob m0 7 [.int 0, .int 0, .null, .null, .null, .int 0, .null, .null, .null, .int 0, .int 0, .null, .null, .int 0, .int 0, .int 0, .null, .null, .int 0, .null, .null, .null, .null]] sz) := by
  refine mkN (cc := cX7_init) (maxL := 1) (mc := 14) (ms := 1429) (by decide) rfl (Nat.le_of_ble_eq_true rfl) ?_
  intro p e s m args below meth c QQ A hx hb hml hown hmn hts hK hO hA hP hD hS hret ls hl
  have hown : s.vm.findClass RX7 = some m.cls := hown
  have hmn : meth.name = "<init>" := hmn
  have hl : lv_has ls 1 [(0, .ref m0)] := hl
  have hinX7 : ∀ w ∈ wsX70, w ∈ wsX7_init := by decide +kernel
  have fl_9 := hts (.fieldLink RX7 9 "GuardAbacusModel" "sorts" "[I") (by decide +kernel)
  have fl_13 := hts (.fieldLink RX7 13 "GuardAbacusModel" "sheetLong" "[I") (by decide +kernel)
  have fl_16 := hts (.fieldLink RX7 16 "GuardAbacusModel" "cells" "[I") (by decide +kernel)
  have fl_19 := hts (.fieldLink RX7 19 "GuardAbacusModel" "kind" "[I") (by decide +kernel)
  have fl_22 := hts (.fieldLink RX7 22 "GuardAbacusModel" "men" "[I") (by decide +kernel)
  have fl_25 := hts (.fieldLink RX7 25 "GuardAbacusModel" "pushed" "[I") (by decide +kernel)
  have fl_28 := hts (.fieldLink RX7 28 "GuardAbacusModel" "read" "[I") (by decide +kernel)
  have fl_31 := hts (.fieldLink RX7 31 "GuardAbacusModel" "keptPushed" "[I") (by decide +kernel)
  have fl_34 := hts (.fieldLink RX7 34 "GuardAbacusModel" "row" "[I") (by decide +kernel)
  have fl_37 := hts (.fieldLink RX7 37 "GuardAbacusModel" "coins" "[I") (by decide +kernel)
  have fl_40 := hts (.fieldLink RX7 40 "GuardAbacusModel" "readSum" "[I") (by decide +kernel)
  have fl_43 := hts (.fieldLink RX7 43 "GuardAbacusModel" "readOn" "[I") (by decide +kernel)
  have fl_46 := hts (.fieldLink RX7 46 "GuardAbacusModel" "readFigure" "[I") (by decide +kernel)
  have fl_49 := hts (.fieldLink RX7 49 "GuardAbacusModel" "ways" "[I") (by decide +kernel)
  refine lv_aload_n hx hb dX7_init_0 rfl (lv_at hl 0 rfl) ?_
  refine W.objInit hx hb hown (hts (.methodLink RX7 1 objectInit) (by decide +kernel)) (hts (.instanceMethod objectInit) (by decide +kernel)) (hts (.code objectInit ⟨#[0xb1]⟩ 1 none) (List.mem_of_getElem? (i := 3) rfl)) rfl (by rw [hml]; exact hl.1) rfl dX7_init_1 (Nat.le_of_ble_eq_true rfl) (Nat.le_of_ble_eq_true rfl) ?_
  refine W.eq (g2 := F0 m 4 ls []) rfl ?_
  refine lv_aload_n hx hb dX7_init_4 rfl (lv_at hl 0 rfl) ?_
  refine lv_iconst (v := 4) hx hb dX7_init_5 (by decide) ?_
  refine nai hx hb (hts (.arrayClass .int) (by decide +kernel)) hK hP hD hS hA 4 rfl (Nat.le_of_ble_eq_true rfl) (Nat.le_of_ble_eq_true rfl) (Nat.le_of_ble_eq_true rfl) dX7_init_6 (fun q_1 H hP hD hS => ?_)
  have hP : va_P E.1 vwCl [ob m0 7 [.int 0, .int 0, .null, .null, .null, .int 0, .null, .null, .null, .int 0, .int 0, .null, .null, .int 0, .int 0, .int 0, .null, .null, .int 0, .null, .null, .null, .null], ar E q_1 4 (fun _ => 0)] H := hP
  have hD : va_D A [ob m0 7 [.int 0, .int 0, .null, .null, .null, .int 0, .null, .null, .null, .int 0, .int 0, .null, .null, .int 0, .int 0, .int 0, .null, .null, .int 0, .null, .null, .null, .null], ar E q_1 4 (fun _ => 0)] := hD
  refine W.widen (k := 1) (n := 4) (Nat.le_of_ble_eq_true rfl) (Nat.le_of_ble_eq_true rfl) ?_
  refine lv_dup hx hb dX7_init_8 rfl ?_
  refine lv_iconst (v := 0) hx hb dX7_init_9 (by decide) ?_
  refine lv_bipush (v := (-9)) hx hb dX7_init_10 (by decide) ?_
  refine ist hx hb hK hP hD hS 1 rfl (j := 0) rfl (by omega) (by decide) dX7_init_12 (fun H locs hP hD hS => ?_)
  have hP : va_P E.1 vwCl [ob m0 7 [.int 0, .int 0, .null, .null, .null, .int 0, .null, .null, .null, .int 0, .int 0, .null, .null, .int 0, .int 0, .int 0, .null, .null, .int 0, .null, .null, .null, .null], ar E q_1 4 (upd (fun _ => 0) 0 (-9))] H := hP
  have hD : va_D A [ob m0 7 [.int 0, .int 0, .null, .null, .null, .int 0, .null, .null, .null, .int 0, .int 0, .null, .null, .int 0, .int 0, .int 0, .null, .null, .int 0, .null, .null, .null, .null], ar E q_1 4 (upd (fun _ => 0) 0 (-9))] := hD
  refine lv_dup hx hb dX7_init_13 rfl ?_
  refine lv_iconst (v := 1) hx hb dX7_init_14 (by decide) ?_
  refine lv_bipush (v := (-9)) hx hb dX7_init_15 (by decide) ?_
  refine ist hx hb hK hP hD hS 1 rfl (j := 1) rfl (by omega) (by decide) dX7_init_17 (fun H locs hP hD hS => ?_)
  have hP : va_P E.1 vwCl [ob m0 7 [.int 0, .int 0, .null, .null, .null, .int 0, .null, .null, .null, .int 0, .int 0, .null, .null, .int 0, .int 0, .int 0, .null, .null, .int 0, .null, .null, .null, .null], ar E q_1 4 (upd (upd (fun _ => 0) 0 (-9)) 1 (-9))] H := hP
  have hD : va_D A [ob m0 7 [.int 0, .int 0, .null, .null, .null, .int 0, .null, .null, .null, .int 0, .int 0, .null, .null, .int 0, .int 0, .int 0, .null, .null, .int 0, .null, .null, .null, .null], ar E q_1 4 (upd (upd (fun _ => 0) 0 (-9)) 1 (-9))] := hD
  refine lv_dup hx hb dX7_init_18 rfl ?_
  refine lv_iconst (v := 2) hx hb dX7_init_19 (by decide) ?_
  refine lv_bipush (v := (-9)) hx hb dX7_init_20 (by decide) ?_
  refine ist hx hb hK hP hD hS 1 rfl (j := 2) rfl (by omega) (by decide) dX7_init_22 (fun H locs hP hD hS => ?_)
  have hP : va_P E.1 vwCl [ob m0 7 [.int 0, .int 0, .null, .null, .null, .int 0, .null, .null, .null, .int 0, .int 0, .null, .null, .int 0, .int 0, .int 0, .null, .null, .int 0, .null, .null, .null, .null], ar E q_1 4 (upd (upd (upd (fun _ => 0) 0 (-9)) 1 (-9)) 2 (-9))] H := hP
  have hD : va_D A [ob m0 7 [.int 0, .int 0, .null, .null, .null, .int 0, .null, .null, .null, .int 0, .int 0, .null, .null, .int 0, .int 0, .int 0, .null, .null, .int 0, .null, .null, .null, .null], ar E q_1 4 (upd (upd (upd (fun _ => 0) 0 (-9)) 1 (-9)) 2 (-9))] := hD
  refine lv_dup hx hb dX7_init_23 rfl ?_
  refine lv_iconst (v := 3) hx hb dX7_init_24 (by decide) ?_
  refine lv_bipush (v := (-9)) hx hb dX7_init_25 (by decide) ?_
  refine ist hx hb hK hP hD hS 1 rfl (j := 3) rfl (by omega) (by decide) dX7_init_27 (fun H locs hP hD hS => ?_)
  have hP : va_P E.1 vwCl [ob m0 7 [.int 0, .int 0, .null, .null, .null, .int 0, .null, .null, .null, .int 0, .int 0, .null, .null, .int 0, .int 0, .int 0, .null, .null, .int 0, .null, .null, .null, .null], ar E q_1 4 (upd (upd (upd (upd (fun _ => 0) 0 (-9)) 1 (-9)) 2 (-9)) 3 (-9))] H := hP
  have hD : va_D A [ob m0 7 [.int 0, .int 0, .null, .null, .null, .int 0, .null, .null, .null, .int 0, .int 0, .null, .null, .int 0, .int 0, .int 0, .null, .null, .int 0, .null, .null, .null, .null], ar E q_1 4 (upd (upd (upd (upd (fun _ => 0) 0 (-9)) 1 (-9)) 2 (-9)) 3 (-9))] := hD
  refine va_putF (D := E.1) (ci := 7) (v := .ref q_1) (ty := .array .int) (C := RX7) (T := TX7) (N := 23) hx hb hts hinX7 tyX7 tyX7_ok nmX7 hown hK.1 hP hD hS 0 rfl rfl 2 (by decide) fl_9 (fun _ h9 => h9) rfl hmn rfl (by decide +kernel) rfl rfl (Nat.le_of_ble_eq_true rfl) dX7_init_28 (fun H locs hP hD hS => ?_)
  have hP : va_P E.1 vwCl [ob m0 7 [.int 0, .int 0, .ref q_1, .null, .null, .int 0, .null, .null, .null, .int 0, .int 0, .null, .null, .int 0, .int 0, .int 0, .null, .null, .int 0, .null, .null, .null, .null], ar E q_1 4 (upd (upd (upd (upd (fun _ => 0) 0 (-9)) 1 (-9)) 2 (-9)) 3 (-9))] H := hP
  have hD : va_D A [ob m0 7 [.int 0, .int 0, .ref q_1, .null, .null, .int 0, .null, .null, .null, .int 0, .int 0, .null, .null, .int 0, .int 0, .int 0, .null, .null, .int 0, .null, .null, .null, .null], ar E q_1 4 (upd (upd (upd (upd (fun _ => 0) 0 (-9)) 1 (-9)) 2 (-9)) 3 (-9))] := hD
  refine lv_aload_n hx hb dX7_init_31 rfl (lv_at hl 0 rfl) ?_
  refine lv_iconst (v := 4) hx hb dX7_init_32 (by decide) ?_
  refine nai hx hb (hts (.arrayClass .int) (by decide +kernel)) hK hP hD hS hA 4 rfl (Nat.le_of_ble_eq_true rfl) (Nat.le_of_ble_eq_true rfl) (Nat.le_of_ble_eq_true rfl) dX7_init_33 (fun q_2 H hP hD hS => ?_)
  have hP : va_P E.1 vwCl [ob m0 7 [.int 0, .int 0, .ref q_1, .null, .null, .int 0, .null, .null, .null, .int 0, .int 0, .null, .null, .int 0, .int 0, .int 0, .null, .null, .int 0, .null, .null, .null, .null], ar E q_1 4 (upd (upd (upd (upd (fun _ => 0) 0 (-9)) 1 (-9)) 2 (-9)) 3 (-9)), ar E q_2 4 (fun _ => 0)] H := hP
  have hD : va_D A [ob m0 7 [.int 0, .int 0, .ref q_1, .null, .null, .int 0, .null, .null, .null, .int 0, .int 0, .null, .null, .int 0, .int 0, .int 0, .null, .null, .int 0, .null, .null, .null, .null], ar E q_1 4 (upd (upd (upd (upd (fun _ => 0) 0 (-9)) 1 (-9)) 2 (-9)) 3 (-9)), ar E q_2 4 (fun _ => 0)] := hD
  refine W.widen (k := 2) (n := 8) (Nat.le_of_ble_eq_true rfl) (Nat.le_of_ble_eq_true rfl) ?_
  refine va_putF (D := E.1) (ci := 7) (v := .ref q_2) (ty := .array .int) (C := RX7) (T := TX7) (N := 23) hx hb hts hinX7 tyX7 tyX7_ok nmX7 hown hK.1 hP hD hS 0 rfl rfl 3 (by decide) fl_13 (fun _ h9 => h9) rfl hmn rfl (by decide +kernel) rfl rfl (Nat.le_of_ble_eq_true rfl) dX7_init_35 (fun H locs hP hD hS => ?_)
  have hP : va_P E.1 vwCl [ob m0 7 [.int 0, .int 0, .ref q_1, .ref q_2, .null, .int 0, .null, .null, .null, .int 0, .int 0, .null, .null, .int 0, .int 0, .int 0, .null, .null, .int 0, .null, .null, .null, .null], ar E q_1 4 (upd (upd (upd (upd (fun _ => 0) 0 (-9)) 1 (-9)) 2 (-9)) 3 (-9)), ar E q_2 4 (fun _ => 0)] H := hP
  have hD : va_D A [ob m0 7 [.int 0, .int 0, .ref q_1, .ref q_2, .null, .int 0, .null, .null, .null, .int 0, .int 0, .null, .null, .int 0, .int 0, .int 0, .null, .null, .int 0, .null, .null, .null, .null], ar E q_1 4 (upd (upd (upd (upd (fun _ => 0) 0 (-9)) 1 (-9)) 2 (-9)) 3 (-9)), ar E q_2 4 (fun _ => 0)] := hD
  refine lv_aload_n hx hb dX7_init_38 rfl (lv_at hl 0 rfl) ?_
  refine lv_sipush (v := 240) hx hb dX7_init_39 (by decide) ?_
  refine nai hx hb (hts (.arrayClass .int) (by decide +kernel)) hK hP hD hS hA 240 rfl (Nat.le_of_ble_eq_true rfl) (Nat.le_of_ble_eq_true rfl) (Nat.le_of_ble_eq_true rfl) dX7_init_42 (fun q_3 H hP hD hS => ?_)
  have hP : va_P E.1 vwCl [ob m0 7 [.int 0, .int 0, .ref q_1, .ref q_2, .null, .int 0, .null, .null, .null, .int 0, .int 0, .null, .null, .int 0, .int 0, .int 0, .null, .null, .int 0, .null, .null, .null, .null], ar E q_1 4 (upd (upd (upd (upd (fun _ => 0) 0 (-9)) 1 (-9)) 2 (-9)) 3 (-9)), ar E q_2 4 (fun _ => 0), ar E q_3 240 (fun _ => 0)] H := hP
  have hD : va_D A [ob m0 7 [.int 0, .int 0, .ref q_1, .ref q_2, .null, .int 0, .null, .null, .null, .int 0, .int 0, .null, .null, .int 0, .int 0, .int 0, .null, .null, .int 0, .null, .null, .null, .null], ar E q_1 4 (upd (upd (upd (upd (fun _ => 0) 0 (-9)) 1 (-9)) 2 (-9)) 3 (-9)), ar E q_2 4 (fun _ => 0), ar E q_3 240 (fun _ => 0)] := hD
  refine W.widen (k := 3) (n := 248) (Nat.le_of_ble_eq_true rfl) (Nat.le_of_ble_eq_true rfl) ?_
  refine va_putF (D := E.1) (ci := 7) (v := .ref q_3) (ty := .array .int) (C := RX7) (T := TX7) (N := 23) hx hb hts hinX7 tyX7 tyX7_ok nmX7 hown hK.1 hP hD hS 0 rfl rfl 4 (by decide) fl_16 (fun _ h9 => h9) rfl hmn rfl (by decide +kernel) rfl rfl (Nat.le_of_ble_eq_true rfl) dX7_init_44 (fun H locs hP hD hS => ?_)
  have hP : va_P E.1 vwCl [ob m0 7 [.int 0, .int 0, .ref q_1, .ref q_2, .ref q_3, .int 0, .null, .null, .null, .int 0, .int 0, .null, .null, .int 0, .int 0, .int 0, .null, .null, .int 0, .null, .null, .null, .null], ar E q_1 4 (upd (upd (upd (upd (fun _ => 0) 0 (-9)) 1 (-9)) 2 (-9)) 3 (-9)), ar E q_2 4 (fun _ => 0), ar E q_3 240 (fun _ => 0)] H := hP
  have hD : va_D A [ob m0 7 [.int 0, .int 0, .ref q_1, .ref q_2, .ref q_3, .int 0, .null, .null, .null, .int 0, .int 0, .null, .null, .int 0, .int 0, .int 0, .null, .null, .int 0, .null, .null, .null, .null], ar E q_1 4 (upd (upd (upd (upd (fun _ => 0) 0 (-9)) 1 (-9)) 2 (-9)) 3 (-9)), ar E q_2 4 (fun _ => 0), ar E q_3 240 (fun _ => 0)] := hD
  refine lv_aload_n hx hb dX7_init_47 rfl (lv_at hl 0 rfl) ?_
  refine lv_bipush (v := 6) hx hb dX7_init_48 (by decide) ?_
  refine nai hx hb (hts (.arrayClass .int) (by decide +kernel)) hK hP hD hS hA 6 rfl (Nat.le_of_ble_eq_true rfl) (Nat.le_of_ble_eq_true rfl) (Nat.le_of_ble_eq_true rfl) dX7_init_50 (fun q_4 H hP hD hS => ?_)
  have hP : va_P E.1 vwCl [ob m0 7 [.int 0, .int 0, .ref q_1, .ref q_2, .ref q_3, .int 0, .null, .null, .null, .int 0, .int 0, .null, .null, .int 0, .int 0, .int 0, .null, .null, .int 0, .null, .null, .null, .null], ar E q_1 4 (upd (upd (upd (upd (fun _ => 0) 0 (-9)) 1 (-9)) 2 (-9)) 3 (-9)), ar E q_2 4 (fun _ => 0), ar E q_3 240 (fun _ => 0), ar E q_4 6 (fun _ => 0)] H := hP
  have hD : va_D A [ob m0 7 [.int 0, .int 0, .ref q_1, .ref q_2, .ref q_3, .int 0, .null, .null, .null, .int 0, .int 0, .null, .null, .int 0, .int 0, .int 0, .null, .null, .int 0, .null, .null, .null, .null], ar E q_1 4 (upd (upd (upd (upd (fun _ => 0) 0 (-9)) 1 (-9)) 2 (-9)) 3 (-9)), ar E q_2 4 (fun _ => 0), ar E q_3 240 (fun _ => 0), ar E q_4 6 (fun _ => 0)] := hD
  refine W.widen (k := 4) (n := 254) (Nat.le_of_ble_eq_true rfl) (Nat.le_of_ble_eq_true rfl) ?_
  refine va_putF (D := E.1) (ci := 7) (v := .ref q_4) (ty := .array .int) (C := RX7) (T := TX7) (N := 23) hx hb hts hinX7 tyX7 tyX7_ok nmX7 hown hK.1 hP hD hS 0 rfl rfl 6 (by decide) fl_19 (fun _ h9 => h9) rfl hmn rfl (by decide +kernel) rfl rfl (Nat.le_of_ble_eq_true rfl) dX7_init_52 (fun H locs hP hD hS => ?_)
  have hP : va_P E.1 vwCl [ob m0 7 [.int 0, .int 0, .ref q_1, .ref q_2, .ref q_3, .int 0, .ref q_4, .null, .null, .int 0, .int 0, .null, .null, .int 0, .int 0, .int 0, .null, .null, .int 0, .null, .null, .null, .null], ar E q_1 4 (upd (upd (upd (upd (fun _ => 0) 0 (-9)) 1 (-9)) 2 (-9)) 3 (-9)), ar E q_2 4 (fun _ => 0), ar E q_3 240 (fun _ => 0), ar E q_4 6 (fun _ => 0)] H := hP
  have hD : va_D A [ob m0 7 [.int 0, .int 0, .ref q_1, .ref q_2, .ref q_3, .int 0, .ref q_4, .null, .null, .int 0, .int 0, .null, .null, .int 0, .int 0, .int 0, .null, .null, .int 0, .null, .null, .null, .null], ar E q_1 4 (upd (upd (upd (upd (fun _ => 0) 0 (-9)) 1 (-9)) 2 (-9)) 3 (-9)), ar E q_2 4 (fun _ => 0), ar E q_3 240 (fun _ => 0), ar E q_4 6 (fun _ => 0)] := hD
  refine lv_aload_n hx hb dX7_init_55 rfl (lv_at hl 0 rfl) ?_
  refine lv_bipush (v := 6) hx hb dX7_init_56 (by decide) ?_
  refine nai hx hb (hts (.arrayClass .int) (by decide +kernel)) hK hP hD hS hA 6 rfl (Nat.le_of_ble_eq_true rfl) (Nat.le_of_ble_eq_true rfl) (Nat.le_of_ble_eq_true rfl) dX7_init_58 (fun q_5 H hP hD hS => ?_)
  have hP : va_P E.1 vwCl [ob m0 7 [.int 0, .int 0, .ref q_1, .ref q_2, .ref q_3, .int 0, .ref q_4, .null, .null, .int 0, .int 0, .null, .null, .int 0, .int 0, .int 0, .null, .null, .int 0, .null, .null, .null, .null], ar E q_1 4 (upd (upd (upd (upd (fun _ => 0) 0 (-9)) 1 (-9)) 2 (-9)) 3 (-9)), ar E q_2 4 (fun _ => 0), ar E q_3 240 (fun _ => 0), ar E q_4 6 (fun _ => 0), ar E q_5 6 (fun _ => 0)] H := hP
  have hD : va_D A [ob m0 7 [.int 0, .int 0, .ref q_1, .ref q_2, .ref q_3, .int 0, .ref q_4, .null, .null, .int 0, .int 0, .null, .null, .int 0, .int 0, .int 0, .null, .null, .int 0, .null, .null, .null, .null], ar E q_1 4 (upd (upd (upd (upd (fun _ => 0) 0 (-9)) 1 (-9)) 2 (-9)) 3 (-9)), ar E q_2 4 (fun _ => 0), ar E q_3 240 (fun _ => 0), ar E q_4 6 (fun _ => 0), ar E q_5 6 (fun _ => 0)] := hD
  refine W.widen (k := 5) (n := 260) (Nat.le_of_ble_eq_true rfl) (Nat.le_of_ble_eq_true rfl) ?_
  refine va_putF (D := E.1) (ci := 7) (v := .ref q_5) (ty := .array .int) (C := RX7) (T := TX7) (N := 23) hx hb hts hinX7 tyX7 tyX7_ok nmX7 hown hK.1 hP hD hS 0 rfl rfl 7 (by decide) fl_22 (fun _ h9 => h9) rfl hmn rfl (by decide +kernel) rfl rfl (Nat.le_of_ble_eq_true rfl) dX7_init_60 (fun H locs hP hD hS => ?_)
  have hP : va_P E.1 vwCl [ob m0 7 [.int 0, .int 0, .ref q_1, .ref q_2, .ref q_3, .int 0, .ref q_4, .ref q_5, .null, .int 0, .int 0, .null, .null, .int 0, .int 0, .int 0, .null, .null, .int 0, .null, .null, .null, .null], ar E q_1 4 (upd (upd (upd (upd (fun _ => 0) 0 (-9)) 1 (-9)) 2 (-9)) 3 (-9)), ar E q_2 4 (fun _ => 0), ar E q_3 240 (fun _ => 0), ar E q_4 6 (fun _ => 0), ar E q_5 6 (fun _ => 0)] H := hP
  have hD : va_D A [ob m0 7 [.int 0, .int 0, .ref q_1, .ref q_2, .ref q_3, .int 0, .ref q_4, .ref q_5, .null, .int 0, .int 0, .null, .null, .int 0, .int 0, .int 0, .null, .null, .int 0, .null, .null, .null, .null], ar E q_1 4 (upd (upd (upd (upd (fun _ => 0) 0 (-9)) 1 (-9)) 2 (-9)) 3 (-9)), ar E q_2 4 (fun _ => 0), ar E q_3 240 (fun _ => 0), ar E q_4 6 (fun _ => 0), ar E q_5 6 (fun _ => 0)] := hD
  refine lv_aload_n hx hb dX7_init_63 rfl (lv_at hl 0 rfl) ?_
  refine lv_bipush (v := 6) hx hb dX7_init_64 (by decide) ?_
  refine nai hx hb (hts (.arrayClass .int) (by decide +kernel)) hK hP hD hS hA 6 rfl (Nat.le_of_ble_eq_true rfl) (Nat.le_of_ble_eq_true rfl) (Nat.le_of_ble_eq_true rfl) dX7_init_66 (fun q_6 H hP hD hS => ?_)
  have hP : va_P E.1 vwCl [ob m0 7 [.int 0, .int 0, .ref q_1, .ref q_2, .ref q_3, .int 0, .ref q_4, .ref q_5, .null, .int 0, .int 0, .null, .null, .int 0, .int 0, .int 0, .null, .null, .int 0, .null, .null, .null, .null], ar E q_1 4 (upd (upd (upd (upd (fun _ => 0) 0 (-9)) 1 (-9)) 2 (-9)) 3 (-9)), ar E q_2 4 (fun _ => 0), ar E q_3 240 (fun _ => 0), ar E q_4 6 (fun _ => 0), ar E q_5 6 (fun _ => 0), ar E q_6 6 (fun _ => 0)] H := hP
  have hD : va_D A [ob m0 7 [.int 0, .int 0, .ref q_1, .ref q_2, .ref q_3, .int 0, .ref q_4, .ref q_5, .null, .int 0, .int 0, .null, .null, .int 0, .int 0, .int 0, .null, .null, .int 0, .null, .null, .null, .null], ar E q_1 4 (upd (upd (upd (upd (fun _ => 0) 0 (-9)) 1 (-9)) 2 (-9)) 3 (-9)), ar E q_2 4 (fun _ => 0), ar E q_3 240 (fun _ => 0), ar E q_4 6 (fun _ => 0), ar E q_5 6 (fun _ => 0), ar E q_6 6 (fun _ => 0)] := hD
  refine W.widen (k := 6) (n := 266) (Nat.le_of_ble_eq_true rfl) (Nat.le_of_ble_eq_true rfl) ?_
  refine va_putF (D := E.1) (ci := 7) (v := .ref q_6) (ty := .array .int) (C := RX7) (T := TX7) (N := 23) hx hb hts hinX7 tyX7 tyX7_ok nmX7 hown hK.1 hP hD hS 0 rfl rfl 8 (by decide) fl_25 (fun _ h9 => h9) rfl hmn rfl (by decide +kernel) rfl rfl (Nat.le_of_ble_eq_true rfl) dX7_init_68 (fun H locs hP hD hS => ?_)
  have hP : va_P E.1 vwCl [ob m0 7 [.int 0, .int 0, .ref q_1, .ref q_2, .ref q_3, .int 0, .ref q_4, .ref q_5, .ref q_6, .int 0, .int 0, .null, .null, .int 0, .int 0, .int 0, .null, .null, .int 0, .null, .null, .null, .null], ar E q_1 4 (upd (upd (upd (upd (fun _ => 0) 0 (-9)) 1 (-9)) 2 (-9)) 3 (-9)), ar E q_2 4 (fun _ => 0), ar E q_3 240 (fun _ => 0), ar E q_4 6 (fun _ => 0), ar E q_5 6 (fun _ => 0), ar E q_6 6 (fun _ => 0)] H := hP
  have hD : va_D A [ob m0 7 [.int 0, .int 0, .ref q_1, .ref q_2, .ref q_3, .int 0, .ref q_4, .ref q_5, .ref q_6, .int 0, .int 0, .null, .null, .int 0, .int 0, .int 0, .null, .null, .int 0, .null, .null, .null, .null], ar E q_1 4 (upd (upd (upd (upd (fun _ => 0) 0 (-9)) 1 (-9)) 2 (-9)) 3 (-9)), ar E q_2 4 (fun _ => 0), ar E q_3 240 (fun _ => 0), ar E q_4 6 (fun _ => 0), ar E q_5 6 (fun _ => 0), ar E q_6 6 (fun _ => 0)] := hD
  refine lv_aload_n hx hb dX7_init_71 rfl (lv_at hl 0 rfl) ?_
  refine lv_bipush (v := 18) hx hb dX7_init_72 (by decide) ?_
  refine nai hx hb (hts (.arrayClass .int) (by decide +kernel)) hK hP hD hS hA 18 rfl (Nat.le_of_ble_eq_true rfl) (Nat.le_of_ble_eq_true rfl) (Nat.le_of_ble_eq_true rfl) dX7_init_74 (fun q_7 H hP hD hS => ?_)
  have hP : va_P E.1 vwCl [ob m0 7 [.int 0, .int 0, .ref q_1, .ref q_2, .ref q_3, .int 0, .ref q_4, .ref q_5, .ref q_6, .int 0, .int 0, .null, .null, .int 0, .int 0, .int 0, .null, .null, .int 0, .null, .null, .null, .null], ar E q_1 4 (upd (upd (upd (upd (fun _ => 0) 0 (-9)) 1 (-9)) 2 (-9)) 3 (-9)), ar E q_2 4 (fun _ => 0), ar E q_3 240 (fun _ => 0), ar E q_4 6 (fun _ => 0), ar E q_5 6 (fun _ => 0), ar E q_6 6 (fun _ => 0), ar E q_7 18 (fun _ => 0)] H := hP
  have hD : va_D A [ob m0 7 [.int 0, .int 0, .ref q_1, .ref q_2, .ref q_3, .int 0, .ref q_4, .ref q_5, .ref q_6, .int 0, .int 0, .null, .null, .int 0, .int 0, .int 0, .null, .null, .int 0, .null, .null, .null, .null], ar E q_1 4 (upd (upd (upd (upd (fun _ => 0) 0 (-9)) 1 (-9)) 2 (-9)) 3 (-9)), ar E q_2 4 (fun _ => 0), ar E q_3 240 (fun _ => 0), ar E q_4 6 (fun _ => 0), ar E q_5 6 (fun _ => 0), ar E q_6 6 (fun _ => 0), ar E q_7 18 (fun _ => 0)] := hD
  refine W.widen (k := 7) (n := 284) (Nat.le_of_ble_eq_true rfl) (Nat.le_of_ble_eq_true rfl) ?_
  refine va_putF (D := E.1) (ci := 7) (v := .ref q_7) (ty := .array .int) (C := RX7) (T := TX7) (N := 23) hx hb hts hinX7 tyX7 tyX7_ok nmX7 hown hK.1 hP hD hS 0 rfl rfl 11 (by decide) fl_28 (fun _ h9 => h9) rfl hmn rfl (by decide +kernel) rfl rfl (Nat.le_of_ble_eq_true rfl) dX7_init_76 (fun H locs hP hD hS => ?_)
  have hP : va_P E.1 vwCl [ob m0 7 [.int 0, .int 0, .ref q_1, .ref q_2, .ref q_3, .int 0, .ref q_4, .ref q_5, .ref q_6, .int 0, .int 0, .ref q_7, .null, .int 0, .int 0, .int 0, .null, .null, .int 0, .null, .null, .null, .null], ar E q_1 4 (upd (upd (upd (upd (fun _ => 0) 0 (-9)) 1 (-9)) 2 (-9)) 3 (-9)), ar E q_2 4 (fun _ => 0), ar E q_3 240 (fun _ => 0), ar E q_4 6 (fun _ => 0), ar E q_5 6 (fun _ => 0), ar E q_6 6 (fun _ => 0), ar E q_7 18 (fun _ => 0)] H := hP
  have hD : va_D A [ob m0 7 [.int 0, .int 0, .ref q_1, .ref q_2, .ref q_3, .int 0, .ref q_4, .ref q_5, .ref q_6, .int 0, .int 0, .ref q_7, .null, .int 0, .int 0, .int 0, .null, .null, .int 0, .null, .null, .null, .null], ar E q_1 4 (upd (upd (upd (upd (fun _ => 0) 0 (-9)) 1 (-9)) 2 (-9)) 3 (-9)), ar E q_2 4 (fun _ => 0), ar E q_3 240 (fun _ => 0), ar E q_4 6 (fun _ => 0), ar E q_5 6 (fun _ => 0), ar E q_6 6 (fun _ => 0), ar E q_7 18 (fun _ => 0)] := hD
  refine lv_aload_n hx hb dX7_init_79 rfl (lv_at hl 0 rfl) ?_
  refine lv_bipush (v := 6) hx hb dX7_init_80 (by decide) ?_
  refine nai hx hb (hts (.arrayClass .int) (by decide +kernel)) hK hP hD hS hA 6 rfl (Nat.le_of_ble_eq_true rfl) (Nat.le_of_ble_eq_true rfl) (Nat.le_of_ble_eq_true rfl) dX7_init_82 (fun q_8 H hP hD hS => ?_)
  have hP : va_P E.1 vwCl [ob m0 7 [.int 0, .int 0, .ref q_1, .ref q_2, .ref q_3, .int 0, .ref q_4, .ref q_5, .ref q_6, .int 0, .int 0, .ref q_7, .null, .int 0, .int 0, .int 0, .null, .null, .int 0, .null, .null, .null, .null], ar E q_1 4 (upd (upd (upd (upd (fun _ => 0) 0 (-9)) 1 (-9)) 2 (-9)) 3 (-9)), ar E q_2 4 (fun _ => 0), ar E q_3 240 (fun _ => 0), ar E q_4 6 (fun _ => 0), ar E q_5 6 (fun _ => 0), ar E q_6 6 (fun _ => 0), ar E q_7 18 (fun _ => 0), ar E q_8 6 (fun _ => 0)] H := hP
  have hD : va_D A [ob m0 7 [.int 0, .int 0, .ref q_1, .ref q_2, .ref q_3, .int 0, .ref q_4, .ref q_5, .ref q_6, .int 0, .int 0, .ref q_7, .null, .int 0, .int 0, .int 0, .null, .null, .int 0, .null, .null, .null, .null], ar E q_1 4 (upd (upd (upd (upd (fun _ => 0) 0 (-9)) 1 (-9)) 2 (-9)) 3 (-9)), ar E q_2 4 (fun _ => 0), ar E q_3 240 (fun _ => 0), ar E q_4 6 (fun _ => 0), ar E q_5 6 (fun _ => 0), ar E q_6 6 (fun _ => 0), ar E q_7 18 (fun _ => 0), ar E q_8 6 (fun _ => 0)] := hD
  refine W.widen (k := 8) (n := 290) (Nat.le_of_ble_eq_true rfl) (Nat.le_of_ble_eq_true rfl) ?_
  refine va_putF (D := E.1) (ci := 7) (v := .ref q_8) (ty := .array .int) (C := RX7) (T := TX7) (N := 23) hx hb hts hinX7 tyX7 tyX7_ok nmX7 hown hK.1 hP hD hS 0 rfl rfl 12 (by decide) fl_31 (fun _ h9 => h9) rfl hmn rfl (by decide +kernel) rfl rfl (Nat.le_of_ble_eq_true rfl) dX7_init_84 (fun H locs hP hD hS => ?_)
  have hP : va_P E.1 vwCl [ob m0 7 [.int 0, .int 0, .ref q_1, .ref q_2, .ref q_3, .int 0, .ref q_4, .ref q_5, .ref q_6, .int 0, .int 0, .ref q_7, .ref q_8, .int 0, .int 0, .int 0, .null, .null, .int 0, .null, .null, .null, .null], ar E q_1 4 (upd (upd (upd (upd (fun _ => 0) 0 (-9)) 1 (-9)) 2 (-9)) 3 (-9)), ar E q_2 4 (fun _ => 0), ar E q_3 240 (fun _ => 0), ar E q_4 6 (fun _ => 0), ar E q_5 6 (fun _ => 0), ar E q_6 6 (fun _ => 0), ar E q_7 18 (fun _ => 0), ar E q_8 6 (fun _ => 0)] H := hP
  have hD : va_D A [ob m0 7 [.int 0, .int 0, .ref q_1, .ref q_2, .ref q_3, .int 0, .ref q_4, .ref q_5, .ref q_6, .int 0, .int 0, .ref q_7, .ref q_8, .int 0, .int 0, .int 0, .null, .null, .int 0, .null, .null, .null, .null], ar E q_1 4 (upd (upd (upd (upd (fun _ => 0) 0 (-9)) 1 (-9)) 2 (-9)) 3 (-9)), ar E q_2 4 (fun _ => 0), ar E q_3 240 (fun _ => 0), ar E q_4 6 (fun _ => 0), ar E q_5 6 (fun _ => 0), ar E q_6 6 (fun _ => 0), ar E q_7 18 (fun _ => 0), ar E q_8 6 (fun _ => 0)] := hD
  refine lv_aload_n hx hb dX7_init_87 rfl (lv_at hl 0 rfl) ?_
  refine lv_bipush (v := 6) hx hb dX7_init_88 (by decide) ?_
  refine nai hx hb (hts (.arrayClass .int) (by decide +kernel)) hK hP hD hS hA 6 rfl (Nat.le_of_ble_eq_true rfl) (Nat.le_of_ble_eq_true rfl) (Nat.le_of_ble_eq_true rfl) dX7_init_90 (fun q_9 H hP hD hS => ?_)
  have hP : va_P E.1 vwCl [ob m0 7 [.int 0, .int 0, .ref q_1, .ref q_2, .ref q_3, .int 0, .ref q_4, .ref q_5, .ref q_6, .int 0, .int 0, .ref q_7, .ref q_8, .int 0, .int 0, .int 0, .null, .null, .int 0, .null, .null, .null, .null], ar E q_1 4 (upd (upd (upd (upd (fun _ => 0) 0 (-9)) 1 (-9)) 2 (-9)) 3 (-9)), ar E q_2 4 (fun _ => 0), ar E q_3 240 (fun _ => 0), ar E q_4 6 (fun _ => 0), ar E q_5 6 (fun _ => 0), ar E q_6 6 (fun _ => 0), ar E q_7 18 (fun _ => 0), ar E q_8 6 (fun _ => 0), ar E q_9 6 (fun _ => 0)] H := hP
  have hD : va_D A [ob m0 7 [.int 0, .int 0, .ref q_1, .ref q_2, .ref q_3, .int 0, .ref q_4, .ref q_5, .ref q_6, .int 0, .int 0, .ref q_7, .ref q_8, .int 0, .int 0, .int 0, .null, .null, .int 0, .null, .null, .null, .null], ar E q_1 4 (upd (upd (upd (upd (fun _ => 0) 0 (-9)) 1 (-9)) 2 (-9)) 3 (-9)), ar E q_2 4 (fun _ => 0), ar E q_3 240 (fun _ => 0), ar E q_4 6 (fun _ => 0), ar E q_5 6 (fun _ => 0), ar E q_6 6 (fun _ => 0), ar E q_7 18 (fun _ => 0), ar E q_8 6 (fun _ => 0), ar E q_9 6 (fun _ => 0)] := hD
  refine W.widen (k := 9) (n := 296) (Nat.le_of_ble_eq_true rfl) (Nat.le_of_ble_eq_true rfl) ?_
  refine va_putF (D := E.1) (ci := 7) (v := .ref q_9) (ty := .array .int) (C := RX7) (T := TX7) (N := 23) hx hb hts hinX7 tyX7 tyX7_ok nmX7 hown hK.1 hP hD hS 0 rfl rfl 16 (by decide) fl_34 (fun _ h9 => h9) rfl hmn rfl (by decide +kernel) rfl rfl (Nat.le_of_ble_eq_true rfl) dX7_init_92 (fun H locs hP hD hS => ?_)
  have hP : va_P E.1 vwCl [ob m0 7 [.int 0, .int 0, .ref q_1, .ref q_2, .ref q_3, .int 0, .ref q_4, .ref q_5, .ref q_6, .int 0, .int 0, .ref q_7, .ref q_8, .int 0, .int 0, .int 0, .ref q_9, .null, .int 0, .null, .null, .null, .null], ar E q_1 4 (upd (upd (upd (upd (fun _ => 0) 0 (-9)) 1 (-9)) 2 (-9)) 3 (-9)), ar E q_2 4 (fun _ => 0), ar E q_3 240 (fun _ => 0), ar E q_4 6 (fun _ => 0), ar E q_5 6 (fun _ => 0), ar E q_6 6 (fun _ => 0), ar E q_7 18 (fun _ => 0), ar E q_8 6 (fun _ => 0), ar E q_9 6 (fun _ => 0)] H := hP
  have hD : va_D A [ob m0 7 [.int 0, .int 0, .ref q_1, .ref q_2, .ref q_3, .int 0, .ref q_4, .ref q_5, .ref q_6, .int 0, .int 0, .ref q_7, .ref q_8, .int 0, .int 0, .int 0, .ref q_9, .null, .int 0, .null, .null, .null, .null], ar E q_1 4 (upd (upd (upd (upd (fun _ => 0) 0 (-9)) 1 (-9)) 2 (-9)) 3 (-9)), ar E q_2 4 (fun _ => 0), ar E q_3 240 (fun _ => 0), ar E q_4 6 (fun _ => 0), ar E q_5 6 (fun _ => 0), ar E q_6 6 (fun _ => 0), ar E q_7 18 (fun _ => 0), ar E q_8 6 (fun _ => 0), ar E q_9 6 (fun _ => 0)] := hD
  refine lv_aload_n hx hb dX7_init_95 rfl (lv_at hl 0 rfl) ?_
  refine lv_sipush (v := 1000) hx hb dX7_init_96 (by decide) ?_
  refine nai hx hb (hts (.arrayClass .int) (by decide +kernel)) hK hP hD hS hA 1000 rfl (Nat.le_of_ble_eq_true rfl) (Nat.le_of_ble_eq_true rfl) (Nat.le_of_ble_eq_true rfl) dX7_init_99 (fun q_10 H hP hD hS => ?_)
  have hP : va_P E.1 vwCl [ob m0 7 [.int 0, .int 0, .ref q_1, .ref q_2, .ref q_3, .int 0, .ref q_4, .ref q_5, .ref q_6, .int 0, .int 0, .ref q_7, .ref q_8, .int 0, .int 0, .int 0, .ref q_9, .null, .int 0, .null, .null, .null, .null], ar E q_1 4 (upd (upd (upd (upd (fun _ => 0) 0 (-9)) 1 (-9)) 2 (-9)) 3 (-9)), ar E q_2 4 (fun _ => 0), ar E q_3 240 (fun _ => 0), ar E q_4 6 (fun _ => 0), ar E q_5 6 (fun _ => 0), ar E q_6 6 (fun _ => 0), ar E q_7 18 (fun _ => 0), ar E q_8 6 (fun _ => 0), ar E q_9 6 (fun _ => 0), ar E q_10 1000 (fun _ => 0)] H := hP
  have hD : va_D A [ob m0 7 [.int 0, .int 0, .ref q_1, .ref q_2, .ref q_3, .int 0, .ref q_4, .ref q_5, .ref q_6, .int 0, .int 0, .ref q_7, .ref q_8, .int 0, .int 0, .int 0, .ref q_9, .null, .int 0, .null, .null, .null, .null], ar E q_1 4 (upd (upd (upd (upd (fun _ => 0) 0 (-9)) 1 (-9)) 2 (-9)) 3 (-9)), ar E q_2 4 (fun _ => 0), ar E q_3 240 (fun _ => 0), ar E q_4 6 (fun _ => 0), ar E q_5 6 (fun _ => 0), ar E q_6 6 (fun _ => 0), ar E q_7 18 (fun _ => 0), ar E q_8 6 (fun _ => 0), ar E q_9 6 (fun _ => 0), ar E q_10 1000 (fun _ => 0)] := hD
  refine W.widen (k := 10) (n := 1296) (Nat.le_of_ble_eq_true rfl) (Nat.le_of_ble_eq_true rfl) ?_
  refine va_putF (D := E.1) (ci := 7) (v := .ref q_10) (ty := .array .int) (C := RX7) (T := TX7) (N := 23) hx hb hts hinX7 tyX7 tyX7_ok nmX7 hown hK.1 hP hD hS 0 rfl rfl 17 (by decide) fl_37 (fun _ h9 => h9) rfl hmn rfl (by decide +kernel) rfl rfl (Nat.le_of_ble_eq_true rfl) dX7_init_101 (fun H locs hP hD hS => ?_)
  have hP : va_P E.1 vwCl [ob m0 7 [.int 0, .int 0, .ref q_1, .ref q_2, .ref q_3, .int 0, .ref q_4, .ref q_5, .ref q_6, .int 0, .int 0, .ref q_7, .ref q_8, .int 0, .int 0, .int 0, .ref q_9, .ref q_10, .int 0, .null, .null, .null, .null], ar E q_1 4 (upd (upd (upd (upd (fun _ => 0) 0 (-9)) 1 (-9)) 2 (-9)) 3 (-9)), ar E q_2 4 (fun _ => 0), ar E q_3 240 (fun _ => 0), ar E q_4 6 (fun _ => 0), ar E q_5 6 (fun _ => 0), ar E q_6 6 (fun _ => 0), ar E q_7 18 (fun _ => 0), ar E q_8 6 (fun _ => 0), ar E q_9 6 (fun _ => 0), ar E q_10 1000 (fun _ => 0)] H := hP
  have hD : va_D A [ob m0 7 [.int 0, .int 0, .ref q_1, .ref q_2, .ref q_3, .int 0, .ref q_4, .ref q_5, .ref q_6, .int 0, .int 0, .ref q_7, .ref q_8, .int 0, .int 0, .int 0, .ref q_9, .ref q_10, .int 0, .null, .null, .null, .null], ar E q_1 4 (upd (upd (upd (upd (fun _ => 0) 0 (-9)) 1 (-9)) 2 (-9)) 3 (-9)), ar E q_2 4 (fun _ => 0), ar E q_3 240 (fun _ => 0), ar E q_4 6 (fun _ => 0), ar E q_5 6 (fun _ => 0), ar E q_6 6 (fun _ => 0), ar E q_7 18 (fun _ => 0), ar E q_8 6 (fun _ => 0), ar E q_9 6 (fun _ => 0), ar E q_10 1000 (fun _ => 0)] := hD
  refine lv_aload_n hx hb dX7_init_104 rfl (lv_at hl 0 rfl) ?_
  refine lv_bipush (v := 8) hx hb dX7_init_105 (by decide) ?_
  refine nai hx hb (hts (.arrayClass .int) (by decide +kernel)) hK hP hD hS hA 8 rfl (Nat.le_of_ble_eq_true rfl) (Nat.le_of_ble_eq_true rfl) (Nat.le_of_ble_eq_true rfl) dX7_init_107 (fun q_11 H hP hD hS => ?_)
  have hP : va_P E.1 vwCl [ob m0 7 [.int 0, .int 0, .ref q_1, .ref q_2, .ref q_3, .int 0, .ref q_4, .ref q_5, .ref q_6, .int 0, .int 0, .ref q_7, .ref q_8, .int 0, .int 0, .int 0, .ref q_9, .ref q_10, .int 0, .null, .null, .null, .null], ar E q_1 4 (upd (upd (upd (upd (fun _ => 0) 0 (-9)) 1 (-9)) 2 (-9)) 3 (-9)), ar E q_2 4 (fun _ => 0), ar E q_3 240 (fun _ => 0), ar E q_4 6 (fun _ => 0), ar E q_5 6 (fun _ => 0), ar E q_6 6 (fun _ => 0), ar E q_7 18 (fun _ => 0), ar E q_8 6 (fun _ => 0), ar E q_9 6 (fun _ => 0), ar E q_10 1000 (fun _ => 0), ar E q_11 8 (fun _ => 0)] H := hP
  have hD : va_D A [ob m0 7 [.int 0, .int 0, .ref q_1, .ref q_2, .ref q_3, .int 0, .ref q_4, .ref q_5, .ref q_6, .int 0, .int 0, .ref q_7, .ref q_8, .int 0, .int 0, .int 0, .ref q_9, .ref q_10, .int 0, .null, .null, .null, .null], ar E q_1 4 (upd (upd (upd (upd (fun _ => 0) 0 (-9)) 1 (-9)) 2 (-9)) 3 (-9)), ar E q_2 4 (fun _ => 0), ar E q_3 240 (fun _ => 0), ar E q_4 6 (fun _ => 0), ar E q_5 6 (fun _ => 0), ar E q_6 6 (fun _ => 0), ar E q_7 18 (fun _ => 0), ar E q_8 6 (fun _ => 0), ar E q_9 6 (fun _ => 0), ar E q_10 1000 (fun _ => 0), ar E q_11 8 (fun _ => 0)] := hD
  refine W.widen (k := 11) (n := 1304) (Nat.le_of_ble_eq_true rfl) (Nat.le_of_ble_eq_true rfl) ?_
  refine va_putF (D := E.1) (ci := 7) (v := .ref q_11) (ty := .array .int) (C := RX7) (T := TX7) (N := 23) hx hb hts hinX7 tyX7 tyX7_ok nmX7 hown hK.1 hP hD hS 0 rfl rfl 19 (by decide) fl_40 (fun _ h9 => h9) rfl hmn rfl (by decide +kernel) rfl rfl (Nat.le_of_ble_eq_true rfl) dX7_init_109 (fun H locs hP hD hS => ?_)
  have hP : va_P E.1 vwCl [ob m0 7 [.int 0, .int 0, .ref q_1, .ref q_2, .ref q_3, .int 0, .ref q_4, .ref q_5, .ref q_6, .int 0, .int 0, .ref q_7, .ref q_8, .int 0, .int 0, .int 0, .ref q_9, .ref q_10, .int 0, .ref q_11, .null, .null, .null], ar E q_1 4 (upd (upd (upd (upd (fun _ => 0) 0 (-9)) 1 (-9)) 2 (-9)) 3 (-9)), ar E q_2 4 (fun _ => 0), ar E q_3 240 (fun _ => 0), ar E q_4 6 (fun _ => 0), ar E q_5 6 (fun _ => 0), ar E q_6 6 (fun _ => 0), ar E q_7 18 (fun _ => 0), ar E q_8 6 (fun _ => 0), ar E q_9 6 (fun _ => 0), ar E q_10 1000 (fun _ => 0), ar E q_11 8 (fun _ => 0)] H := hP
  have hD : va_D A [ob m0 7 [.int 0, .int 0, .ref q_1, .ref q_2, .ref q_3, .int 0, .ref q_4, .ref q_5, .ref q_6, .int 0, .int 0, .ref q_7, .ref q_8, .int 0, .int 0, .int 0, .ref q_9, .ref q_10, .int 0, .ref q_11, .null, .null, .null], ar E q_1 4 (upd (upd (upd (upd (fun _ => 0) 0 (-9)) 1 (-9)) 2 (-9)) 3 (-9)), ar E q_2 4 (fun _ => 0), ar E q_3 240 (fun _ => 0), ar E q_4 6 (fun _ => 0), ar E q_5 6 (fun _ => 0), ar E q_6 6 (fun _ => 0), ar E q_7 18 (fun _ => 0), ar E q_8 6 (fun _ => 0), ar E q_9 6 (fun _ => 0), ar E q_10 1000 (fun _ => 0), ar E q_11 8 (fun _ => 0)] := hD
  refine lv_aload_n hx hb dX7_init_112 rfl (lv_at hl 0 rfl) ?_
  refine lv_bipush (v := 8) hx hb dX7_init_113 (by decide) ?_
  refine nai hx hb (hts (.arrayClass .int) (by decide +kernel)) hK hP hD hS hA 8 rfl (Nat.le_of_ble_eq_true rfl) (Nat.le_of_ble_eq_true rfl) (Nat.le_of_ble_eq_true rfl) dX7_init_115 (fun q_12 H hP hD hS => ?_)
  have hP : va_P E.1 vwCl [ob m0 7 [.int 0, .int 0, .ref q_1, .ref q_2, .ref q_3, .int 0, .ref q_4, .ref q_5, .ref q_6, .int 0, .int 0, .ref q_7, .ref q_8, .int 0, .int 0, .int 0, .ref q_9, .ref q_10, .int 0, .ref q_11, .null, .null, .null], ar E q_1 4 (upd (upd (upd (upd (fun _ => 0) 0 (-9)) 1 (-9)) 2 (-9)) 3 (-9)), ar E q_2 4 (fun _ => 0), ar E q_3 240 (fun _ => 0), ar E q_4 6 (fun _ => 0), ar E q_5 6 (fun _ => 0), ar E q_6 6 (fun _ => 0), ar E q_7 18 (fun _ => 0), ar E q_8 6 (fun _ => 0), ar E q_9 6 (fun _ => 0), ar E q_10 1000 (fun _ => 0), ar E q_11 8 (fun _ => 0), ar E q_12 8 (fun _ => 0)] H := hP
  have hD : va_D A [ob m0 7 [.int 0, .int 0, .ref q_1, .ref q_2, .ref q_3, .int 0, .ref q_4, .ref q_5, .ref q_6, .int 0, .int 0, .ref q_7, .ref q_8, .int 0, .int 0, .int 0, .ref q_9, .ref q_10, .int 0, .ref q_11, .null, .null, .null], ar E q_1 4 (upd (upd (upd (upd (fun _ => 0) 0 (-9)) 1 (-9)) 2 (-9)) 3 (-9)), ar E q_2 4 (fun _ => 0), ar E q_3 240 (fun _ => 0), ar E q_4 6 (fun _ => 0), ar E q_5 6 (fun _ => 0), ar E q_6 6 (fun _ => 0), ar E q_7 18 (fun _ => 0), ar E q_8 6 (fun _ => 0), ar E q_9 6 (fun _ => 0), ar E q_10 1000 (fun _ => 0), ar E q_11 8 (fun _ => 0), ar E q_12 8 (fun _ => 0)] := hD
  refine W.widen (k := 12) (n := 1312) (Nat.le_of_ble_eq_true rfl) (Nat.le_of_ble_eq_true rfl) ?_
  refine va_putF (D := E.1) (ci := 7) (v := .ref q_12) (ty := .array .int) (C := RX7) (T := TX7) (N := 23) hx hb hts hinX7 tyX7 tyX7_ok nmX7 hown hK.1 hP hD hS 0 rfl rfl 20 (by decide) fl_43 (fun _ h9 => h9) rfl hmn rfl (by decide +kernel) rfl rfl (Nat.le_of_ble_eq_true rfl) dX7_init_117 (fun H locs hP hD hS => ?_)
  have hP : va_P E.1 vwCl [ob m0 7 [.int 0, .int 0, .ref q_1, .ref q_2, .ref q_3, .int 0, .ref q_4, .ref q_5, .ref q_6, .int 0, .int 0, .ref q_7, .ref q_8, .int 0, .int 0, .int 0, .ref q_9, .ref q_10, .int 0, .ref q_11, .ref q_12, .null, .null], ar E q_1 4 (upd (upd (upd (upd (fun _ => 0) 0 (-9)) 1 (-9)) 2 (-9)) 3 (-9)), ar E q_2 4 (fun _ => 0), ar E q_3 240 (fun _ => 0), ar E q_4 6 (fun _ => 0), ar E q_5 6 (fun _ => 0), ar E q_6 6 (fun _ => 0), ar E q_7 18 (fun _ => 0), ar E q_8 6 (fun _ => 0), ar E q_9 6 (fun _ => 0), ar E q_10 1000 (fun _ => 0), ar E q_11 8 (fun _ => 0), ar E q_12 8 (fun _ => 0)] H := hP
  have hD : va_D A [ob m0 7 [.int 0, .int 0, .ref q_1, .ref q_2, .ref q_3, .int 0, .ref q_4, .ref q_5, .ref q_6, .int 0, .int 0, .ref q_7, .ref q_8, .int 0, .int 0, .int 0, .ref q_9, .ref q_10, .int 0, .ref q_11, .ref q_12, .null, .null], ar E q_1 4 (upd (upd (upd (upd (fun _ => 0) 0 (-9)) 1 (-9)) 2 (-9)) 3 (-9)), ar E q_2 4 (fun _ => 0), ar E q_3 240 (fun _ => 0), ar E q_4 6 (fun _ => 0), ar E q_5 6 (fun _ => 0), ar E q_6 6 (fun _ => 0), ar E q_7 18 (fun _ => 0), ar E q_8 6 (fun _ => 0), ar E q_9 6 (fun _ => 0), ar E q_10 1000 (fun _ => 0), ar E q_11 8 (fun _ => 0), ar E q_12 8 (fun _ => 0)] := hD
  refine lv_aload_n hx hb dX7_init_120 rfl (lv_at hl 0 rfl) ?_
  refine lv_bipush (v := 8) hx hb dX7_init_121 (by decide) ?_
  refine nai hx hb (hts (.arrayClass .int) (by decide +kernel)) hK hP hD hS hA 8 rfl (Nat.le_of_ble_eq_true rfl) (Nat.le_of_ble_eq_true rfl) (Nat.le_of_ble_eq_true rfl) dX7_init_123 (fun q_13 H hP hD hS => ?_)
  have hP : va_P E.1 vwCl [ob m0 7 [.int 0, .int 0, .ref q_1, .ref q_2, .ref q_3, .int 0, .ref q_4, .ref q_5, .ref q_6, .int 0, .int 0, .ref q_7, .ref q_8, .int 0, .int 0, .int 0, .ref q_9, .ref q_10, .int 0, .ref q_11, .ref q_12, .null, .null], ar E q_1 4 (upd (upd (upd (upd (fun _ => 0) 0 (-9)) 1 (-9)) 2 (-9)) 3 (-9)), ar E q_2 4 (fun _ => 0), ar E q_3 240 (fun _ => 0), ar E q_4 6 (fun _ => 0), ar E q_5 6 (fun _ => 0), ar E q_6 6 (fun _ => 0), ar E q_7 18 (fun _ => 0), ar E q_8 6 (fun _ => 0), ar E q_9 6 (fun _ => 0), ar E q_10 1000 (fun _ => 0), ar E q_11 8 (fun _ => 0), ar E q_12 8 (fun _ => 0), ar E q_13 8 (fun _ => 0)] H := hP
  have hD : va_D A [ob m0 7 [.int 0, .int 0, .ref q_1, .ref q_2, .ref q_3, .int 0, .ref q_4, .ref q_5, .ref q_6, .int 0, .int 0, .ref q_7, .ref q_8, .int 0, .int 0, .int 0, .ref q_9, .ref q_10, .int 0, .ref q_11, .ref q_12, .null, .null], ar E q_1 4 (upd (upd (upd (upd (fun _ => 0) 0 (-9)) 1 (-9)) 2 (-9)) 3 (-9)), ar E q_2 4 (fun _ => 0), ar E q_3 240 (fun _ => 0), ar E q_4 6 (fun _ => 0), ar E q_5 6 (fun _ => 0), ar E q_6 6 (fun _ => 0), ar E q_7 18 (fun _ => 0), ar E q_8 6 (fun _ => 0), ar E q_9 6 (fun _ => 0), ar E q_10 1000 (fun _ => 0), ar E q_11 8 (fun _ => 0), ar E q_12 8 (fun _ => 0), ar E q_13 8 (fun _ => 0)] := hD
  refine W.widen (k := 13) (n := 1320) (Nat.le_of_ble_eq_true rfl) (Nat.le_of_ble_eq_true rfl) ?_
  refine va_putF (D := E.1) (ci := 7) (v := .ref q_13) (ty := .array .int) (C := RX7) (T := TX7) (N := 23) hx hb hts hinX7 tyX7 tyX7_ok nmX7 hown hK.1 hP hD hS 0 rfl rfl 21 (by decide) fl_46 (fun _ h9 => h9) rfl hmn rfl (by decide +kernel) rfl rfl (Nat.le_of_ble_eq_true rfl) dX7_init_125 (fun H locs hP hD hS => ?_)
  have hP : va_P E.1 vwCl [ob m0 7 [.int 0, .int 0, .ref q_1, .ref q_2, .ref q_3, .int 0, .ref q_4, .ref q_5, .ref q_6, .int 0, .int 0, .ref q_7, .ref q_8, .int 0, .int 0, .int 0, .ref q_9, .ref q_10, .int 0, .ref q_11, .ref q_12, .ref q_13, .null], ar E q_1 4 (upd (upd (upd (upd (fun _ => 0) 0 (-9)) 1 (-9)) 2 (-9)) 3 (-9)), ar E q_2 4 (fun _ => 0), ar E q_3 240 (fun _ => 0), ar E q_4 6 (fun _ => 0), ar E q_5 6 (fun _ => 0), ar E q_6 6 (fun _ => 0), ar E q_7 18 (fun _ => 0), ar E q_8 6 (fun _ => 0), ar E q_9 6 (fun _ => 0), ar E q_10 1000 (fun _ => 0), ar E q_11 8 (fun _ => 0), ar E q_12 8 (fun _ => 0), ar E q_13 8 (fun _ => 0)] H := hP
  have hD : va_D A [ob m0 7 [.int 0, .int 0, .ref q_1, .ref q_2, .ref q_3, .int 0, .ref q_4, .ref q_5, .ref q_6, .int 0, .int 0, .ref q_7, .ref q_8, .int 0, .int 0, .int 0, .ref q_9, .ref q_10, .int 0, .ref q_11, .ref q_12, .ref q_13, .null], ar E q_1 4 (upd (upd (upd (upd (fun _ => 0) 0 (-9)) 1 (-9)) 2 (-9)) 3 (-9)), ar E q_2 4 (fun _ => 0), ar E q_3 240 (fun _ => 0), ar E q_4 6 (fun _ => 0), ar E q_5 6 (fun _ => 0), ar E q_6 6 (fun _ => 0), ar E q_7 18 (fun _ => 0), ar E q_8 6 (fun _ => 0), ar E q_9 6 (fun _ => 0), ar E q_10 1000 (fun _ => 0), ar E q_11 8 (fun _ => 0), ar E q_12 8 (fun _ => 0), ar E q_13 8 (fun _ => 0)] := hD
  refine lv_aload_n hx hb dX7_init_128 rfl (lv_at hl 0 rfl) ?_
  refine lv_bipush (v := 109) hx hb dX7_init_129 (by decide) ?_
  refine nai hx hb (hts (.arrayClass .int) (by decide +kernel)) hK hP hD hS hA 109 rfl (Nat.le_of_ble_eq_true rfl) (Nat.le_of_ble_eq_true rfl) (Nat.le_of_ble_eq_true rfl) dX7_init_131 (fun q_14 H hP hD hS => ?_)
  have hP : va_P E.1 vwCl [ob m0 7 [.int 0, .int 0, .ref q_1, .ref q_2, .ref q_3, .int 0, .ref q_4, .ref q_5, .ref q_6, .int 0, .int 0, .ref q_7, .ref q_8, .int 0, .int 0, .int 0, .ref q_9, .ref q_10, .int 0, .ref q_11, .ref q_12, .ref q_13, .null], ar E q_1 4 (upd (upd (upd (upd (fun _ => 0) 0 (-9)) 1 (-9)) 2 (-9)) 3 (-9)), ar E q_2 4 (fun _ => 0), ar E q_3 240 (fun _ => 0), ar E q_4 6 (fun _ => 0), ar E q_5 6 (fun _ => 0), ar E q_6 6 (fun _ => 0), ar E q_7 18 (fun _ => 0), ar E q_8 6 (fun _ => 0), ar E q_9 6 (fun _ => 0), ar E q_10 1000 (fun _ => 0), ar E q_11 8 (fun _ => 0), ar E q_12 8 (fun _ => 0), ar E q_13 8 (fun _ => 0), ar E q_14 109 (fun _ => 0)] H := hP
  have hD : va_D A [ob m0 7 [.int 0, .int 0, .ref q_1, .ref q_2, .ref q_3, .int 0, .ref q_4, .ref q_5, .ref q_6, .int 0, .int 0, .ref q_7, .ref q_8, .int 0, .int 0, .int 0, .ref q_9, .ref q_10, .int 0, .ref q_11, .ref q_12, .ref q_13, .null], ar E q_1 4 (upd (upd (upd (upd (fun _ => 0) 0 (-9)) 1 (-9)) 2 (-9)) 3 (-9)), ar E q_2 4 (fun _ => 0), ar E q_3 240 (fun _ => 0), ar E q_4 6 (fun _ => 0), ar E q_5 6 (fun _ => 0), ar E q_6 6 (fun _ => 0), ar E q_7 18 (fun _ => 0), ar E q_8 6 (fun _ => 0), ar E q_9 6 (fun _ => 0), ar E q_10 1000 (fun _ => 0), ar E q_11 8 (fun _ => 0), ar E q_12 8 (fun _ => 0), ar E q_13 8 (fun _ => 0), ar E q_14 109 (fun _ => 0)] := hD
  refine W.widen (k := 14) (n := 1429) (Nat.le_of_ble_eq_true rfl) (Nat.le_of_ble_eq_true rfl) ?_
  refine va_putF (D := E.1) (ci := 7) (v := .ref q_14) (ty := .array .int) (C := RX7) (T := TX7) (N := 23) hx hb hts hinX7 tyX7 tyX7_ok nmX7 hown hK.1 hP hD hS 0 rfl rfl 22 (by decide) fl_49 (fun _ h9 => h9) rfl hmn rfl (by decide +kernel) rfl rfl (Nat.le_of_ble_eq_true rfl) dX7_init_133 (fun H locs hP hD hS => ?_)
  have hP : va_P E.1 vwCl [ob m0 7 [.int 0, .int 0, .ref q_1, .ref q_2, .ref q_3, .int 0, .ref q_4, .ref q_5, .ref q_6, .int 0, .int 0, .ref q_7, .ref q_8, .int 0, .int 0, .int 0, .ref q_9, .ref q_10, .int 0, .ref q_11, .ref q_12, .ref q_13, .ref q_14], ar E q_1 4 (upd (upd (upd (upd (fun _ => 0) 0 (-9)) 1 (-9)) 2 (-9)) 3 (-9)), ar E q_2 4 (fun _ => 0), ar E q_3 240 (fun _ => 0), ar E q_4 6 (fun _ => 0), ar E q_5 6 (fun _ => 0), ar E q_6 6 (fun _ => 0), ar E q_7 18 (fun _ => 0), ar E q_8 6 (fun _ => 0), ar E q_9 6 (fun _ => 0), ar E q_10 1000 (fun _ => 0), ar E q_11 8 (fun _ => 0), ar E q_12 8 (fun _ => 0), ar E q_13 8 (fun _ => 0), ar E q_14 109 (fun _ => 0)] H := hP
  have hD : va_D A [ob m0 7 [.int 0, .int 0, .ref q_1, .ref q_2, .ref q_3, .int 0, .ref q_4, .ref q_5, .ref q_6, .int 0, .int 0, .ref q_7, .ref q_8, .int 0, .int 0, .int 0, .ref q_9, .ref q_10, .int 0, .ref q_11, .ref q_12, .ref q_13, .ref q_14], ar E q_1 4 (upd (upd (upd (upd (fun _ => 0) 0 (-9)) 1 (-9)) 2 (-9)) 3 (-9)), ar E q_2 4 (fun _ => 0), ar E q_3 240 (fun _ => 0), ar E q_4 6 (fun _ => 0), ar E q_5 6 (fun _ => 0), ar E q_6 6 (fun _ => 0), ar E q_7 18 (fun _ => 0), ar E q_8 6 (fun _ => 0), ar E q_9 6 (fun _ => 0), ar E q_10 1000 (fun _ => 0), ar E q_11 8 (fun _ => 0), ar E q_12 8 (fun _ => 0), ar E q_13 8 (fun _ => 0), ar E q_14 109 (fun _ => 0)] := hD
  exact hret _ _ _ _ (fun k => [q_1, q_2, q_3, q_4, q_5, q_6, q_7, q_8, q_9, q_10, q_11, q_12, q_13, q_14].getD k 0) dX7_init_136 hS hP hD
