set_option maxHeartbeats 4000000 in
set_option maxRecDepth 100000 in
theorem c_X3_cutToLane (l : Launch) (E : gE) (hs : Nat) (qs : Nat) (th : Int32) (la : Int32) (ln : Nat) (v : Int32) : Met l yX3_cutToLane wsX3_cutToLane ({ frames := 0, cells := 0, slots := 0, locals := 0 }) (PR E [.ref hs, .int v] [ob hs 3 [.ref qs, .int th, .int la, .int (nI ln)]]) (vp_Si (fun r => r = cutF la v)) 0 0 (fun _ => False) := by
  refine mkRi (cc := cX3_cutToLane) (maxL := 2) (by decide) rfl (Nat.le_of_ble_eq_true rfl) ?_
  intro p e s m args below meth c QQ hx hb hml hown hmn hts hK hP hret ls hl
  have hown : s.vm.findClass RX3 = some m.cls := hown
  have hl : lv_has ls 2 [(0, .ref hs), (1, .int v)] := hl
  have hinX3 : ∀ w ∈ wsX30, w ∈ wsX3_cutToLane := by decide +kernel
  have fl_19 := hts (.fieldLink RX3 19 "GuardAbacus$Sheet" "lane" "I") (by decide +kernel)
  refine lv_aload_n hx hb dX3_cutToLane_0 rfl (lv_at hl 0 rfl) ?_
  refine va_get (D := E.1) (ci := 3) (v := .int la) (C := RX3) (T := TX3) (N := 4) hx hb hts hinX3 hown hK.1 hP 0 rfl rfl 2 (by decide) fl_19 (fun _ h9 => h9) rfl dX3_cutToLane_1 ?_
  refine lv_if_ne (tgt := 10) hx hb dX3_cutToLane_4 (by decide) (fun c_1 => ?_) (fun c_1 => ?_)
  ·
    refine lv_aload_n hx hb dX3_cutToLane_10 rfl (lv_at hl 0 rfl) ?_
    refine va_get (D := E.1) (ci := 3) (v := .int la) (C := RX3) (T := TX3) (N := 4) hx hb hts hinX3 hown hK.1 hP 0 rfl rfl 2 (by decide) fl_19 (fun _ h9 => h9) rfl dX3_cutToLane_11 ?_
    refine lv_iconst (v := 1) hx hb dX3_cutToLane_14 (by decide) ?_
    refine lv_icmp_ne (tgt := 23) hx hb dX3_cutToLane_15 (by decide) (fun c_2 => ?_) (fun c_2 => ?_)
    ·
      refine lv_iload_n hx hb dX3_cutToLane_23 rfl (lv_at hl 1 rfl) ?_
      exact hret _ _ _ dX3_cutToLane_24 (by simp [cutF, c_1, c_2])
    ·
      refine lv_iload_n hx hb dX3_cutToLane_18 rfl (lv_at hl 1 rfl) ?_
      refine lv_i2s hx hb dX3_cutToLane_19 rfl ?_
      refine lv_goto (tgt := 24) hx hb dX3_cutToLane_20 (by decide) ?_
      exact hret _ _ _ dX3_cutToLane_24 (by simp [cutF, c_1, c_2])
  ·
    refine lv_iload_n hx hb dX3_cutToLane_7 rfl (lv_at hl 1 rfl) ?_
    refine lv_i2b hx hb dX3_cutToLane_8 rfl ?_
    exact hret _ _ _ dX3_cutToLane_9 (by simp [cutF, c_1])
set_option maxHeartbeats 4000000 in
set_option maxRecDepth 100000 in
theorem c_X3_reaches (l : Launch) (E : gE) (hs : Nat) (qs : Nat) (th : Int32) (la : Int32) (ln : Nat) (i : Int32) (nn : Int32) : Met l yX3_reaches wsX3_reaches ({ frames := 0, cells := 0, slots := 0, locals := 0 }) (PR E [.ref hs, .int i, .int nn] [ob hs 3 [.ref qs, .int th, .int la, .int (nI ln)]]) (vp_Si (fun r => r = if reachP ln i nn then 1 else 0)) 0 0 (fun _ => False) := by
  refine mkRz (cc := cX3_reaches) (maxL := 3) (by decide) rfl (Nat.le_of_ble_eq_true rfl) ?_
  intro p e s m args below meth c QQ hx hb hml hown hmn hts hK hP hret ls hl
  have hown : s.vm.findClass RX3 = some m.cls := hown
  have hl : lv_has ls 3 [(0, .ref hs), (1, .int i), (2, .int nn)] := hl
  have hinX3 : ∀ w ∈ wsX30, w ∈ wsX3_reaches := by decide +kernel
  have fl_23 := hts (.fieldLink RX3 23 "GuardAbacus$Sheet" "length" "I") (by decide +kernel)
  refine lv_iload_n hx hb dX3_reaches_0 rfl (lv_at hl 1 rfl) ?_
  refine lv_if_lt (tgt := 30) hx hb dX3_reaches_1 (by decide) (fun c_1 => ?_) (fun c_1 => ?_)
  ·
    have c_1b := Int32.not_le.mpr c_1
    refine lv_iconst (v := 0) hx hb dX3_reaches_30 (by decide) ?_
    exact hret _ _ _ dX3_reaches_31 rfl (by simp [reachP, c_1, c_1b])
  ·
    have c_1b := Int32.not_lt.mp c_1
    refine lv_iload_n hx hb dX3_reaches_4 rfl (lv_at hl 1 rfl) ?_
    refine lv_aload_n hx hb dX3_reaches_5 rfl (lv_at hl 0 rfl) ?_
    refine va_get (D := E.1) (ci := 3) (v := .int (nI ln)) (C := RX3) (T := TX3) (N := 4) hx hb hts hinX3 hown hK.1 hP 0 rfl rfl 3 (by decide) fl_23 (fun _ h9 => h9) rfl dX3_reaches_6 ?_
    refine lv_icmp_gt (tgt := 30) hx hb dX3_reaches_9 (by decide) (fun c_2 => ?_) (fun c_2 => ?_)
    ·
      have c_2b := Int32.not_le.mpr c_2
      refine lv_iconst (v := 0) hx hb dX3_reaches_30 (by decide) ?_
      exact hret _ _ _ dX3_reaches_31 rfl (by simp [reachP, c_1, c_2, c_1b, c_2b])
    ·
      have c_2b := Int32.not_lt.mp c_2
      refine lv_iload_n hx hb dX3_reaches_12 rfl (lv_at hl 2 rfl) ?_
      refine lv_if_lt (tgt := 30) hx hb dX3_reaches_13 (by decide) (fun c_3 => ?_) (fun c_3 => ?_)
      ·
        have c_3b := Int32.not_le.mpr c_3
        refine lv_iconst (v := 0) hx hb dX3_reaches_30 (by decide) ?_
        exact hret _ _ _ dX3_reaches_31 rfl (by simp [reachP, c_1, c_2, c_3, c_1b, c_2b, c_3b])
      ·
        have c_3b := Int32.not_lt.mp c_3
        refine lv_iload_n hx hb dX3_reaches_16 rfl (lv_at hl 2 rfl) ?_
        refine lv_aload_n hx hb dX3_reaches_17 rfl (lv_at hl 0 rfl) ?_
        refine va_get (D := E.1) (ci := 3) (v := .int (nI ln)) (C := RX3) (T := TX3) (N := 4) hx hb hts hinX3 hown hK.1 hP 0 rfl rfl 3 (by decide) fl_23 (fun _ h9 => h9) rfl dX3_reaches_18 ?_
        refine lv_iload_n hx hb dX3_reaches_21 rfl (lv_at hl 1 rfl) ?_
        refine lv_isub hx hb dX3_reaches_22 ?_
        refine lv_icmp_gt (tgt := 30) hx hb dX3_reaches_23 (by decide) (fun c_4 => ?_) (fun c_4 => ?_)
        ·
          have c_4b := Int32.not_le.mpr c_4
          refine lv_iconst (v := 0) hx hb dX3_reaches_30 (by decide) ?_
          exact hret _ _ _ dX3_reaches_31 rfl (by simp [reachP, c_1, c_2, c_3, c_4, c_1b, c_2b, c_3b, c_4b])
        ·
          have c_4b := Int32.not_lt.mp c_4
          refine lv_iconst (v := 1) hx hb dX3_reaches_26 (by decide) ?_
          refine lv_goto (tgt := 31) hx hb dX3_reaches_27 (by decide) ?_
          exact hret _ _ _ dX3_reaches_31 rfl (by simp [reachP, c_1, c_2, c_3, c_4, c_1b, c_2b, c_3b, c_4b])
set_option maxHeartbeats 4000000 in
set_option maxRecDepth 100000 in
theorem c_X3_at (l : Launch) (E : gE) (hs : Nat) (qs : Nat) (th : Int32) (la : Int32) (ln : Nat) (ce : Nat → Int32) (w : Int32) (j : Nat) (h60 : ln ≤ 60) (hj : j < ln) (hwj : w = nI j) : Met l yX3_at wsX3_at ({ frames := 0, cells := 0, slots := 0, locals := 0 }) (PR E [.ref hs, .int w] [ob hs 3 [.ref qs, .int th, .int la, .int (nI ln)], ar E qs 60 ce]) (vp_Si (fun r => r = ce j)) 0 0 (fun _ => False) := by
  refine mkRi (cc := cX3_at) (maxL := 2) (by decide) rfl (Nat.le_of_ble_eq_true rfl) ?_
  intro p e s m args below meth c QQ hx hb hml hown hmn hts hK hP hret ls hl
  have hown : s.vm.findClass RX3 = some m.cls := hown
  have hl : lv_has ls 2 [(0, .ref hs), (1, .int w)] := hl
  have hinX3 : ∀ w ∈ wsX30, w ∈ wsX3_at := by decide +kernel
  have fl_9 := hts (.fieldLink RX3 9 "GuardAbacus$Sheet" "cells" "[I") (by decide +kernel)
  have fl_23 := hts (.fieldLink RX3 23 "GuardAbacus$Sheet" "length" "I") (by decide +kernel)
  subst hwj
  refine lv_iload_n hx hb dX3_at_0 rfl (lv_at hl 1 rfl) ?_
  refine ifN_lt (tgt := 27) (a := j) hx hb rfl (by omega) dX3_at_1 (by decide) ?_
  refine lv_iload_n hx hb dX3_at_4 rfl (lv_at hl 1 rfl) ?_
  refine lv_aload_n hx hb dX3_at_5 rfl (lv_at hl 0 rfl) ?_
  refine va_get (D := E.1) (ci := 3) (v := .int (nI ln)) (C := RX3) (T := TX3) (N := 4) hx hb hts hinX3 hown hK.1 hP 0 rfl rfl 3 (by decide) fl_23 (fun _ h9 => h9) rfl dX3_at_6 ?_
  refine icmpN_ge (tgt := 27) (a := j) (b := ln) hx hb rfl rfl (by omega) (by omega) dX3_at_9 (by decide) (fun c_2 => ?_) (fun c_2 => ?_)
  ·
    omega
  ·
    refine lv_iload_n hx hb dX3_at_12 rfl (lv_at hl 1 rfl) ?_
    refine lv_bipush (v := 60) hx hb dX3_at_13 (by decide) ?_
    refine icmpN_ge (tgt := 27) (a := j) (b := 60) hx hb rfl rfl (by omega) (by omega) dX3_at_15 (by decide) (fun c_3 => ?_) (fun c_3 => ?_)
    ·
      omega
    ·
      refine lv_aload_n hx hb dX3_at_18 rfl (lv_at hl 0 rfl) ?_
      refine va_get (D := E.1) (ci := 3) (v := .ref qs) (C := RX3) (T := TX3) (N := 4) hx hb hts hinX3 hown hK.1 hP 0 rfl rfl 0 (by decide) fl_9 (fun _ h9 => h9) rfl dX3_at_19 ?_
      refine lv_iload_n hx hb dX3_at_22 rfl (lv_at hl 1 rfl) ?_
      refine ild hx hb hK hP 1 rfl (j := j) rfl (by omega) (by decide) dX3_at_23 ?_
      refine lv_goto (tgt := 28) hx hb dX3_at_24 (by decide) ?_
      exact hret _ _ _ dX3_at_28 rfl
set_option maxHeartbeats 4000000 in
set_option maxRecDepth 100000 in
theorem c_X3_write (l : Launch) (E : gE) (sz : Nat) (hs : Nat) (qs : Nat) (th : Int32) (la : Int32) (ln : Nat) (ce : Nat → Int32) (w : Int32) (j : Nat) (v : Int32) (h60 : ln ≤ 60) (hj : j < ln) (hwj : w = nI j) : Met l yX3_write wsX3_write ({ frames := 1, cells := 0, slots := 0, locals := 21 }) (PW E [.ref hs, .int w, .int v] [ob hs 3 [.ref qs, .int th, .int la, .int (nI ln)], ar E qs 60 ce] sz) (QWv E (fun _ => True) (fun (_ : Unit) => [ob hs 3 [.ref qs, .int th, .int la, .int (nI ln)], ar E qs 60 (upd ce j (cutF la v))]) (va_A [ob hs 3 [.ref qs, .int th, .int la, .int (nI ln)], ar E qs 60 ce] sz)) 0 0 (va_A [ob hs 3 [.ref qs, .int th, .int la, .int (nI ln)], ar E qs 60 ce] sz) := by
  refine mkWv (cc := cX3_write) (maxL := 3) (by decide) rfl (Nat.le_of_ble_eq_true rfl) ?_
  intro p e s m args below meth c QQ A hx hb hml hown hmn hts hK hA hP hD hS hret ls hl
  have hown : s.vm.findClass RX3 = some m.cls := hown
  have hl : lv_has ls 3 [(0, .ref hs), (1, .int w), (2, .int v)] := hl
  have hinX3 : ∀ w ∈ wsX30, w ∈ wsX3_write := by decide +kernel
  have fl_9 := hts (.fieldLink RX3 9 "GuardAbacus$Sheet" "cells" "[I") (by decide +kernel)
  have fl_23 := hts (.fieldLink RX3 23 "GuardAbacus$Sheet" "length" "I") (by decide +kernel)
  subst hwj
  refine lv_iload_n hx hb dX3_write_0 rfl (lv_at hl 1 rfl) ?_
  refine ifN_lt (tgt := 29) (a := j) hx hb rfl (by omega) dX3_write_1 (by decide) ?_
  refine lv_iload_n hx hb dX3_write_4 rfl (lv_at hl 1 rfl) ?_
  refine lv_aload_n hx hb dX3_write_5 rfl (lv_at hl 0 rfl) ?_
  refine va_get (D := E.1) (ci := 3) (v := .int (nI ln)) (C := RX3) (T := TX3) (N := 4) hx hb hts hinX3 hown hK.1 hP 0 rfl rfl 3 (by decide) fl_23 (fun _ h9 => h9) rfl dX3_write_6 ?_
  refine icmpN_ge (tgt := 29) (a := j) (b := ln) hx hb rfl rfl (by omega) (by omega) dX3_write_9 (by decide) (fun c_2 => ?_) (fun c_2 => ?_)
  ·
    omega
  ·
    refine lv_iload_n hx hb dX3_write_12 rfl (lv_at hl 1 rfl) ?_
    refine lv_bipush (v := 60) hx hb dX3_write_13 (by decide) ?_
    refine icmpN_ge (tgt := 29) (a := j) (b := 60) hx hb rfl rfl (by omega) (by omega) dX3_write_15 (by decide) (fun c_3 => ?_) (fun c_3 => ?_)
    ·
      omega
    ·
      refine lv_aload_n hx hb dX3_write_18 rfl (lv_at hl 0 rfl) ?_
      refine va_get (D := E.1) (ci := 3) (v := .ref qs) (C := RX3) (T := TX3) (N := 4) hx hb hts hinX3 hown hK.1 hP 0 rfl rfl 0 (by decide) fl_9 (fun _ h9 => h9) rfl dX3_write_19 ?_
      refine lv_iload_n hx hb dX3_write_22 rfl (lv_at hl 1 rfl) ?_
      refine lv_aload_n hx hb dX3_write_23 rfl (lv_at hl 0 rfl) ?_
      refine lv_iload_n hx hb dX3_write_24 rfl (lv_at hl 2 rfl) ?_
      refine crV (As := [.int v]) (rest := [.int (nI j), .ref qs]) ⟨hx, hb, hml, hown, hts⟩ (c_X3_cutToLane l E hs qs th la ln v) (cwV 1 hts gX3_write_X3_cutToLane rfl rfl rfl (by decide +kernel) ⟨Nat.le_of_ble_eq_true rfl, Nat.le_of_ble_eq_true rfl⟩) hK hP [0] rfl 0 rfl rfl rfl rfl hl.1 rfl (catLe (Nat.le_of_ble_eq_true rfl)) dX3_write_25 ⟨Nat.zero_le _, Nat.zero_le _⟩ (fun r_4 hr_4 => ?_)
      subst hr_4
      refine ist hx hb hK hP hD hS 1 rfl (j := j) rfl (by omega) (by decide) dX3_write_28 (fun H locs hP hD hS => ?_)
      have hP : va_P E.1 vwCl [ob hs 3 [.ref qs, .int th, .int la, .int (nI ln)], ar E qs 60 (upd ce j (cutF la v))] H := hP
      have hD : va_D A [ob hs 3 [.ref qs, .int th, .int la, .int (nI ln)], ar E qs 60 (upd ce j (cutF la v))] := hD
      exact hret _ _ _ _ () dX3_write_29 hS hP trivial
set_option maxHeartbeats 4000000 in
set_option maxRecDepth 100000 in
theorem c_X3_begin (l : Launch) (E : gE) (sz : Nat) (hs : Nat) (qs : Nat) (th : Int32) (la : Int32) (ln : Int32) (ce : Nat → Int32) (la2 : Int32) (ln2 : Int32) : Met l yX3_begin wsX3_begin ({ frames := 0, cells := 0, slots := 0, locals := 0 }) (PW E [.ref hs, .int la2, .int ln2] [ob hs 3 [.ref qs, .int th, .int la, .int ln], ar E qs 60 ce] sz) (QWv E (fun _ => True) (fun (_ : Unit) => [ob hs 3 [.ref qs, .int 1, .int la2, .int ln2], ar E qs 60 (fun _ => 0)]) (va_A [ob hs 3 [.ref qs, .int th, .int la, .int ln], ar E qs 60 ce] sz)) 0 0 (va_A [ob hs 3 [.ref qs, .int th, .int la, .int ln], ar E qs 60 ce] sz) := by
  refine mkWv (cc := cX3_begin) (maxL := 4) (by decide) rfl (Nat.le_of_ble_eq_true rfl) ?_
  intro p e s m args below meth c QQ A hx hb hml hown hmn hts hK hA hP hD hS hret ls hl
  have hown : s.vm.findClass RX3 = some m.cls := hown
  have hl : lv_has ls 4 [(0, .ref hs), (1, .int la2), (2, .int ln2)] := hl
  have hinX3 : ∀ w ∈ wsX30, w ∈ wsX3_begin := by decide +kernel
  have fl_9 := hts (.fieldLink RX3 9 "GuardAbacus$Sheet" "cells" "[I") (by decide +kernel)
  have fl_15 := hts (.fieldLink RX3 15 "GuardAbacus$Sheet" "isThere" "Z") (by decide +kernel)
  have fl_19 := hts (.fieldLink RX3 19 "GuardAbacus$Sheet" "lane" "I") (by decide +kernel)
  have fl_23 := hts (.fieldLink RX3 23 "GuardAbacus$Sheet" "length" "I") (by decide +kernel)
  refine lv_iconst (v := 0) hx hb dX3_begin_0 (by decide) ?_
  refine lv_istore_n (lv' := [(3, .int 0), (0, .ref hs), (1, .int la2), (2, .int ln2)]) hx hb dX3_begin_1 rfl hl (by decide) rfl (fun ls hl => ?_)
  rw [← fil_0 (fun _ => (0 : Int32)) ce] at hP hD
  have L2 : ∀ (fuel : Nat) (k : Nat), (k ≤ 60) → (60 - k) < fuel → ∀ (H : Heap) (locs : List Loc), va_P E.1 vwCl [ob hs 3 [.ref qs, .int th, .int la, .int ln], ar E qs 60 (fil (fun _ => 0) ce k)] H → va_D A [ob hs 3 [.ref qs, .int th, .int la, .int ln], ar E qs 60 (fil (fun _ => 0) ce k)] → va_S A s.heap H locs → ∀ ls : Array Slot, lv_has ls 4 [(3, .int (nI k)), (0, .ref hs), (1, .int la2), (2, .int ln2)] → W p l e ({ frames := 0, cells := 0, slots := 0, locals := 0 }) s m args below meth c H locs 0 0 QQ (F0 m 2 ls []) := by
    intro fuel
    induction fuel with
    | zero => intro k hk hf; exact absurd hf (Nat.not_lt_zero _)
    | succ fuel ih2 =>
      intro k hk hf2 H locs hP hD hS ls hl
      refine lv_iload_n hx hb dX3_begin_2 rfl (lv_at hl 0 rfl) ?_
      refine lv_bipush (v := 60) hx hb dX3_begin_3 (by decide) ?_
      refine icmpN_ge (tgt := 21) (a := k) (b := 60) hx hb rfl rfl (by omega) (by omega) dX3_begin_5 (by decide) (fun c_1 => ?_) (fun c_1 => ?_)
      ·
        obtain rfl : k = 60 := by omega
        have hP := va_P_ar hP 1 qs 60 (g := fun _ => 0) rfl (fun j hj => fil_in hj)
        have hP : va_P E.1 vwCl [ob hs 3 [.ref qs, .int th, .int la, .int ln], ar E qs 60 (fun _ => 0)] H := hP
        have hD : va_D A [ob hs 3 [.ref qs, .int th, .int la, .int ln], ar E qs 60 (fun _ => 0)] := va_D_addr hD [hs, qs] rfl rfl
        refine lv_aload_n hx hb dX3_begin_21 rfl (lv_at hl 1 rfl) ?_
        refine lv_iconst (v := 1) hx hb dX3_begin_22 (by decide) ?_
        refine va_put (D := E.1) (ci := 3) (v := .int 1) (ty := .boolean) (C := RX3) (T := TX3) (N := 4) hx hb hts hinX3 tyX3 tyX3_ok nmX3 hown hK.1 hP hD hS 0 rfl rfl 1 (by decide) fl_15 (fun _ h9 => h9) rfl (by decide +kernel) rfl rfl (Nat.le_of_ble_eq_true rfl) dX3_begin_23 (fun H locs hP hD hS => ?_)
        have hP : va_P E.1 vwCl [ob hs 3 [.ref qs, .int 1, .int la, .int ln], ar E qs 60 (fun _ => 0)] H := hP
        have hD : va_D A [ob hs 3 [.ref qs, .int 1, .int la, .int ln], ar E qs 60 (fun _ => 0)] := hD
        refine lv_aload_n hx hb dX3_begin_26 rfl (lv_at hl 1 rfl) ?_
        refine lv_iload_n hx hb dX3_begin_27 rfl (lv_at hl 2 rfl) ?_
        refine va_put (D := E.1) (ci := 3) (v := .int la2) (ty := .int) (C := RX3) (T := TX3) (N := 4) hx hb hts hinX3 tyX3 tyX3_ok nmX3 hown hK.1 hP hD hS 0 rfl rfl 2 (by decide) fl_19 (fun _ h9 => h9) rfl (by decide +kernel) rfl rfl (Nat.le_of_ble_eq_true rfl) dX3_begin_28 (fun H locs hP hD hS => ?_)
        have hP : va_P E.1 vwCl [ob hs 3 [.ref qs, .int 1, .int la2, .int ln], ar E qs 60 (fun _ => 0)] H := hP
        have hD : va_D A [ob hs 3 [.ref qs, .int 1, .int la2, .int ln], ar E qs 60 (fun _ => 0)] := hD
        refine lv_aload_n hx hb dX3_begin_31 rfl (lv_at hl 1 rfl) ?_
        refine lv_iload_n hx hb dX3_begin_32 rfl (lv_at hl 3 rfl) ?_
        refine va_put (D := E.1) (ci := 3) (v := .int ln2) (ty := .int) (C := RX3) (T := TX3) (N := 4) hx hb hts hinX3 tyX3 tyX3_ok nmX3 hown hK.1 hP hD hS 0 rfl rfl 3 (by decide) fl_23 (fun _ h9 => h9) rfl (by decide +kernel) rfl rfl (Nat.le_of_ble_eq_true rfl) dX3_begin_33 (fun H locs hP hD hS => ?_)
        have hP : va_P E.1 vwCl [ob hs 3 [.ref qs, .int 1, .int la2, .int ln2], ar E qs 60 (fun _ => 0)] H := hP
        have hD : va_D A [ob hs 3 [.ref qs, .int 1, .int la2, .int ln2], ar E qs 60 (fun _ => 0)] := hD
        exact hret _ _ _ _ () dX3_begin_36 hS hP trivial
      ·
        refine lv_aload_n hx hb dX3_begin_8 rfl (lv_at hl 1 rfl) ?_
        refine va_get (D := E.1) (ci := 3) (v := .ref qs) (C := RX3) (T := TX3) (N := 4) hx hb hts hinX3 hown hK.1 hP 0 rfl rfl 0 (by decide) fl_9 (fun _ h9 => h9) rfl dX3_begin_9 ?_
        refine lv_iload_n hx hb dX3_begin_12 rfl (lv_at hl 0 rfl) ?_
        refine lv_iconst (v := 0) hx hb dX3_begin_13 (by decide) ?_
        refine ist hx hb hK hP hD hS 1 rfl (j := k) rfl (by omega) (by decide) dX3_begin_14 (fun H locs hP hD hS => ?_)
        have hP : va_P E.1 vwCl [ob hs 3 [.ref qs, .int th, .int la, .int ln], ar E qs 60 (upd (fil (fun _ => 0) ce k) k 0)] H := hP
        have hD : va_D A [ob hs 3 [.ref qs, .int th, .int la, .int ln], ar E qs 60 (upd (fil (fun _ => 0) ce k) k 0)] := hD
        rw [show upd (fil (fun _ => 0) ce k) k 0 = fil (fun _ => 0) ce (k + 1) from fil_s (fun _ => 0) ce k] at hP hD
        refine lv_iinc (v := nI (k + 1)) (lv' := [(3, .int (nI (k + 1))), (0, .ref hs), (1, .int la2), (2, .int ln2)]) hx hb dX3_begin_15 hl (k := 0) rfl (nI_inc k) (by decide) rfl (fun ls hl => ?_)
        refine lv_goto (tgt := 2) hx hb dX3_begin_18 (by decide) ?_
        exact ih2 (k + 1) (by omega) (by omega) _ _ hP hD hS ls (lv_sub hl [0, 1, 2, 3] rfl)
  exact L2 _ 0 (by omega) (Nat.lt_succ_self _) _ _ hP hD hS ls (lv_sub hl [0, 1, 2, 3] rfl)
set_option maxHeartbeats 4000000 in
set_option maxRecDepth 100000 in
theorem c_X3_allWithin (l : Launch) (E : gE) (hs : Nat) (qs : Nat) (th : Int32) (la : Int32) (ln : Nat) (ce : Nat → Int32) (i : Nat) (nn : Nat) (g : Int32) (h60 : ln ≤ 60) (hin : i + nn ≤ ln) : Met l yX3_allWithin wsX3_allWithin ({ frames := 1, cells := 0, slots := 0, locals := 21 }) (PR E [.ref hs, .int (nI i), .int (nI nn), .int g] [ob hs 3 [.ref qs, .int th, .int la, .int (nI ln)], ar E qs 60 ce]) (vp_Si (fun r => r = if allP ce i nn g then 1 else 0)) 0 0 (fun _ => False) := by
  refine mkRz (cc := cX3_allWithin) (maxL := 5) (by decide) rfl (Nat.le_of_ble_eq_true rfl) ?_
  intro p e s m args below meth c QQ hx hb hml hown hmn hts hK hP hret ls hl
  have hown : s.vm.findClass RX3 = some m.cls := hown
  have hl : lv_has ls 5 [(0, .ref hs), (1, .int (nI i)), (2, .int (nI nn)), (3, .int g)] := hl
  refine lv_iconst (v := 0) hx hb dX3_allWithin_0 (by decide) ?_
  refine lv_istore (lv' := [(4, .int 0), (0, .ref hs), (1, .int (nI i)), (2, .int (nI nn)), (3, .int g)]) hx hb dX3_allWithin_1 hl (by decide) rfl (fun ls hl => ?_)
  have L3 : ∀ (fuel : Nat) (k : Nat), (k ≤ nn) → (∀ q, q < k → ¬ ce (i + q) < 0 ∧ ce (i + q) ≤ g) → (nn - k) < fuel → ∀ ls : Array Slot, lv_has ls 5 [(4, .int (nI k)), (0, .ref hs), (1, .int (nI i)), (2, .int (nI nn)), (3, .int g)] → W p l e ({ frames := 1, cells := 0, slots := 0, locals := 21 }) s m args below meth c s.heap [] 0 0 QQ (F0 m 3 ls []) := by
    intro fuel
    induction fuel with
    | zero => intro k hk hs_ hf; exact absurd hf (Nat.not_lt_zero _)
    | succ fuel ih3 =>
      intro k hk hs_ hf3 ls hl
      refine lv_iload hx hb dX3_allWithin_3 (lv_at hl 0 rfl) ?_
      refine lv_iload_n hx hb dX3_allWithin_5 rfl (lv_at hl 3 rfl) ?_
      refine icmpN_ge (tgt := 40) (a := k) (b := nn) hx hb rfl rfl (by omega) (by omega) dX3_allWithin_6 (by decide) (fun c_1 => ?_) (fun c_1 => ?_)
      ·
        obtain rfl : nn = k := by omega
        refine lv_iconst (v := 1) hx hb dX3_allWithin_40 (by decide) ?_
        exact hret _ _ _ dX3_allWithin_41 rfl (by rw [if_pos hs_])
      ·
        refine lv_aload_n hx hb dX3_allWithin_9 rfl (lv_at hl 1 rfl) ?_
        refine lv_iload_n hx hb dX3_allWithin_10 rfl (lv_at hl 2 rfl) ?_
        refine lv_iload hx hb dX3_allWithin_11 (lv_at hl 0 rfl) ?_
        refine N_iadd (a := i) (b := k) hx hb rfl rfl dX3_allWithin_13 ?_
        refine crV (As := [.int (nI (i + k))]) (rest := []) ⟨hx, hb, hml, hown, hts⟩ (c_X3_at l E hs qs th la ln ce (nI (i + k)) (i + k) (by first | assumption | omega) (by first | assumption | omega) rfl) (cwV 1 hts gX3_allWithin_X3_at rfl rfl rfl (by decide +kernel) ⟨Nat.le_of_ble_eq_true rfl, Nat.le_of_ble_eq_true rfl⟩) hK hP [0, 1] rfl 0 rfl rfl rfl rfl hl.1 rfl (catLe (Nat.le_of_ble_eq_true rfl)) dX3_allWithin_14 ⟨Nat.zero_le _, Nat.zero_le _⟩ (fun r_2 hr_2 => ?_)
        subst hr_2
        refine lv_if_lt (tgt := 32) hx hb dX3_allWithin_17 (by decide) (fun c_3 => ?_) (fun c_3 => ?_)
        ·
          have c_3b := Int32.not_le.mpr c_3
          refine lv_iconst (v := 0) hx hb dX3_allWithin_32 (by decide) ?_
          exact hret _ _ _ dX3_allWithin_33 rfl (by rw [if_neg (fun h => (h k (by omega)).1 c_3)])
        ·
          have c_3b := Int32.not_lt.mp c_3
          refine lv_aload_n hx hb dX3_allWithin_20 rfl (lv_at hl 1 rfl) ?_
          refine lv_iload_n hx hb dX3_allWithin_21 rfl (lv_at hl 2 rfl) ?_
          refine lv_iload hx hb dX3_allWithin_22 (lv_at hl 0 rfl) ?_
          refine N_iadd (a := i) (b := k) hx hb rfl rfl dX3_allWithin_24 ?_
          refine crV (As := [.int (nI (i + k))]) (rest := []) ⟨hx, hb, hml, hown, hts⟩ (c_X3_at l E hs qs th la ln ce (nI (i + k)) (i + k) (by first | assumption | omega) (by first | assumption | omega) rfl) (cwV 1 hts gX3_allWithin_X3_at rfl rfl rfl (by decide +kernel) ⟨Nat.le_of_ble_eq_true rfl, Nat.le_of_ble_eq_true rfl⟩) hK hP [0, 1] rfl 0 rfl rfl rfl rfl hl.1 rfl (catLe (Nat.le_of_ble_eq_true rfl)) dX3_allWithin_25 ⟨Nat.zero_le _, Nat.zero_le _⟩ (fun r_4 hr_4 => ?_)
          subst hr_4
          refine lv_iload_n hx hb dX3_allWithin_28 rfl (lv_at hl 4 rfl) ?_
          refine lv_icmp_le (tgt := 34) hx hb dX3_allWithin_29 (by decide) (fun c_5 => ?_) (fun c_5 => ?_)
          ·
            have c_5b := Int32.not_lt.mpr c_5
            refine lv_iinc (v := nI (k + 1)) (lv' := [(4, .int (nI (k + 1))), (0, .ref hs), (1, .int (nI i)), (2, .int (nI nn)), (3, .int g)]) hx hb dX3_allWithin_34 hl (k := 0) rfl (nI_inc k) (by decide) rfl (fun ls hl => ?_)
            refine lv_goto (tgt := 3) hx hb dX3_allWithin_37 (by decide) ?_
            exact ih3 (k + 1) (by omega) (lt_s hs_ ⟨c_3, c_5⟩) (by omega) ls (lv_sub hl [0, 1, 2, 3, 4] rfl)
          ·
            have c_5b := Int32.not_le.mp c_5
            refine lv_iconst (v := 0) hx hb dX3_allWithin_32 (by decide) ?_
            exact hret _ _ _ dX3_allWithin_33 rfl (by rw [if_neg (fun h => c_5 (h k (by omega)).2)])
  exact L3 _ 0 (by omega) (fun w h => absurd h (Nat.not_lt_zero w)) (Nat.lt_succ_self _) ls (lv_sub hl [0, 1, 2, 3, 4] rfl)
set_option maxHeartbeats 4000000 in
set_option maxRecDepth 100000 in
theorem c_X2_keep (l : Launch) (E : gE) (sz : Nat) (hr : Nat) (s0 : Nat) (s1 : Nat) (s2 : Nat) (rc : Nat) (rs : Nat → Int32) (rw : Nat → Int32) (rf : Nat → Int32) (v : Int32) (w : Int32) (fg : Int32) (hrc : rc ≤ 8) : Met l yX2_keep wsX2_keep ({ frames := 0, cells := 0, slots := 0, locals := 0 }) (PW E [.ref hr, .int v, .int w, .int fg] [ob hr 2 [.ref s0, .ref s1, .ref s2, .int (nI rc)], ar E s0 8 rs, ar E s1 8 rw, ar E s2 8 rf] sz) (QWi E (fun r _ => r = if rc < 8 then 1 else 0) (fun (_ : Unit) => [ob hr 2 [.ref s0, .ref s1, .ref s2, .int (nI (if rc < 8 then rc + 1 else rc))], ar E s0 8 (upd rs rc v), ar E s1 8 (upd rw rc w), ar E s2 8 (upd rf rc fg)]) (va_A [ob hr 2 [.ref s0, .ref s1, .ref s2, .int (nI rc)], ar E s0 8 rs, ar E s1 8 rw, ar E s2 8 rf] sz)) 0 0 (va_A [ob hr 2 [.ref s0, .ref s1, .ref s2, .int (nI rc)], ar E s0 8 rs, ar E s1 8 rw, ar E s2 8 rf] sz) := by
  refine mkWz (cc := cX2_keep) (maxL := 4) (by decide) rfl (Nat.le_of_ble_eq_true rfl) ?_
  intro p e s m args below meth c QQ A hx hb hml hown hmn hts hK hA hP hD hS hret ls hl
  have hown : s.vm.findClass RX2 = some m.cls := hown
  have hl : lv_has ls 4 [(0, .ref hr), (1, .int v), (2, .int w), (3, .int fg)] := hl
  have hinX2 : ∀ w ∈ wsX20, w ∈ wsX2_keep := by decide +kernel
  have fl_9 := hts (.fieldLink RX2 9 "GuardAbacus$Readings" "sum" "[I") (by decide +kernel)
  have fl_15 := hts (.fieldLink RX2 15 "GuardAbacus$Readings" "wire" "[I") (by decide +kernel)
  have fl_18 := hts (.fieldLink RX2 18 "GuardAbacus$Readings" "seen" "[I") (by decide +kernel)
  have fl_21 := hts (.fieldLink RX2 21 "GuardAbacus$Readings" "count" "I") (by decide +kernel)
  refine lv_aload_n hx hb dX2_keep_0 rfl (lv_at hl 0 rfl) ?_
  refine va_get (D := E.1) (ci := 2) (v := .int (nI rc)) (C := RX2) (T := TX2) (N := 4) hx hb hts hinX2 hown hK.1 hP 0 rfl rfl 3 (by decide) fl_21 (fun _ h9 => h9) rfl dX2_keep_1 ?_
  refine ifN_lt (tgt := 16) (a := rc) hx hb rfl (by omega) dX2_keep_4 (by decide) ?_
  refine lv_aload_n hx hb dX2_keep_7 rfl (lv_at hl 0 rfl) ?_
  refine va_get (D := E.1) (ci := 2) (v := .int (nI rc)) (C := RX2) (T := TX2) (N := 4) hx hb hts hinX2 hown hK.1 hP 0 rfl rfl 3 (by decide) fl_21 (fun _ h9 => h9) rfl dX2_keep_8 ?_
  refine lv_bipush (v := 8) hx hb dX2_keep_11 (by decide) ?_
  refine icmpN_lt (tgt := 18) (a := rc) (b := 8) hx hb rfl rfl (by omega) (by omega) dX2_keep_13 (by decide) (fun c_2 => ?_) (fun c_2 => ?_)
  ·
    refine lv_aload_n hx hb dX2_keep_18 rfl (lv_at hl 0 rfl) ?_
    refine va_get (D := E.1) (ci := 2) (v := .ref s0) (C := RX2) (T := TX2) (N := 4) hx hb hts hinX2 hown hK.1 hP 0 rfl rfl 0 (by decide) fl_9 (fun _ h9 => h9) rfl dX2_keep_19 ?_
    refine lv_aload_n hx hb dX2_keep_22 rfl (lv_at hl 0 rfl) ?_
    refine va_get (D := E.1) (ci := 2) (v := .int (nI rc)) (C := RX2) (T := TX2) (N := 4) hx hb hts hinX2 hown hK.1 hP 0 rfl rfl 3 (by decide) fl_21 (fun _ h9 => h9) rfl dX2_keep_23 ?_
    refine lv_iload_n hx hb dX2_keep_26 rfl (lv_at hl 1 rfl) ?_
    refine ist hx hb hK hP hD hS 1 rfl (j := rc) rfl (by omega) (by decide) dX2_keep_27 (fun H locs hP hD hS => ?_)
    have hP : va_P E.1 vwCl [ob hr 2 [.ref s0, .ref s1, .ref s2, .int (nI rc)], ar E s0 8 (upd rs rc v), ar E s1 8 rw, ar E s2 8 rf] H := hP
    have hD : va_D A [ob hr 2 [.ref s0, .ref s1, .ref s2, .int (nI rc)], ar E s0 8 (upd rs rc v), ar E s1 8 rw, ar E s2 8 rf] := hD
    refine lv_aload_n hx hb dX2_keep_28 rfl (lv_at hl 0 rfl) ?_
    refine va_get (D := E.1) (ci := 2) (v := .ref s1) (C := RX2) (T := TX2) (N := 4) hx hb hts hinX2 hown hK.1 hP 0 rfl rfl 1 (by decide) fl_15 (fun _ h9 => h9) rfl dX2_keep_29 ?_
    refine lv_aload_n hx hb dX2_keep_32 rfl (lv_at hl 0 rfl) ?_
    refine va_get (D := E.1) (ci := 2) (v := .int (nI rc)) (C := RX2) (T := TX2) (N := 4) hx hb hts hinX2 hown hK.1 hP 0 rfl rfl 3 (by decide) fl_21 (fun _ h9 => h9) rfl dX2_keep_33 ?_
    refine lv_iload_n hx hb dX2_keep_36 rfl (lv_at hl 2 rfl) ?_
    refine ist hx hb hK hP hD hS 2 rfl (j := rc) rfl (by omega) (by decide) dX2_keep_37 (fun H locs hP hD hS => ?_)
    have hP : va_P E.1 vwCl [ob hr 2 [.ref s0, .ref s1, .ref s2, .int (nI rc)], ar E s0 8 (upd rs rc v), ar E s1 8 (upd rw rc w), ar E s2 8 rf] H := hP
    have hD : va_D A [ob hr 2 [.ref s0, .ref s1, .ref s2, .int (nI rc)], ar E s0 8 (upd rs rc v), ar E s1 8 (upd rw rc w), ar E s2 8 rf] := hD
    refine lv_aload_n hx hb dX2_keep_38 rfl (lv_at hl 0 rfl) ?_
    refine va_get (D := E.1) (ci := 2) (v := .ref s2) (C := RX2) (T := TX2) (N := 4) hx hb hts hinX2 hown hK.1 hP 0 rfl rfl 2 (by decide) fl_18 (fun _ h9 => h9) rfl dX2_keep_39 ?_
    refine lv_aload_n hx hb dX2_keep_42 rfl (lv_at hl 0 rfl) ?_
    refine va_get (D := E.1) (ci := 2) (v := .int (nI rc)) (C := RX2) (T := TX2) (N := 4) hx hb hts hinX2 hown hK.1 hP 0 rfl rfl 3 (by decide) fl_21 (fun _ h9 => h9) rfl dX2_keep_43 ?_
    refine lv_iload_n hx hb dX2_keep_46 rfl (lv_at hl 3 rfl) ?_
    refine ist hx hb hK hP hD hS 3 rfl (j := rc) rfl (by omega) (by decide) dX2_keep_47 (fun H locs hP hD hS => ?_)
    have hP : va_P E.1 vwCl [ob hr 2 [.ref s0, .ref s1, .ref s2, .int (nI rc)], ar E s0 8 (upd rs rc v), ar E s1 8 (upd rw rc w), ar E s2 8 (upd rf rc fg)] H := hP
    have hD : va_D A [ob hr 2 [.ref s0, .ref s1, .ref s2, .int (nI rc)], ar E s0 8 (upd rs rc v), ar E s1 8 (upd rw rc w), ar E s2 8 (upd rf rc fg)] := hD
    refine lv_aload_n hx hb dX2_keep_48 rfl (lv_at hl 0 rfl) ?_
    refine lv_dup hx hb dX2_keep_49 rfl ?_
    refine va_get (D := E.1) (ci := 2) (v := .int (nI rc)) (C := RX2) (T := TX2) (N := 4) hx hb hts hinX2 hown hK.1 hP 0 rfl rfl 3 (by decide) fl_21 (fun _ h9 => h9) rfl dX2_keep_50 ?_
    refine lv_iconst (v := 1) hx hb dX2_keep_53 (by decide) ?_
    refine N_iadd (a := rc) (b := 1) hx hb rfl rfl dX2_keep_54 ?_
    refine va_put (D := E.1) (ci := 2) (v := .int (nI (rc + 1))) (ty := .int) (C := RX2) (T := TX2) (N := 4) hx hb hts hinX2 tyX2 tyX2_ok nmX2 hown hK.1 hP hD hS 0 rfl rfl 3 (by decide) fl_21 (fun _ h9 => h9) rfl (by decide +kernel) rfl rfl (Nat.le_of_ble_eq_true rfl) dX2_keep_55 (fun H locs hP hD hS => ?_)
    have hP : va_P E.1 vwCl [ob hr 2 [.ref s0, .ref s1, .ref s2, .int (nI (rc + 1))], ar E s0 8 (upd rs rc v), ar E s1 8 (upd rw rc w), ar E s2 8 (upd rf rc fg)] H := hP
    have hD : va_D A [ob hr 2 [.ref s0, .ref s1, .ref s2, .int (nI (rc + 1))], ar E s0 8 (upd rs rc v), ar E s1 8 (upd rw rc w), ar E s2 8 (upd rf rc fg)] := hD
    refine lv_iconst (v := 1) hx hb dX2_keep_58 (by decide) ?_
    exact hret _ _ _ _ _ () dX2_keep_59 rfl hS (by rw [if_pos (by omega)]; exact hP) (by rw [if_pos (by omega)])
  ·
    refine lv_iconst (v := 0) hx hb dX2_keep_16 (by decide) ?_
    have hP := va_P_ar hP 1 s0 8 (g := upd rs rc v) rfl (upd_far rs v (by omega))
    have hP := va_P_ar hP 2 s1 8 (g := upd rw rc w) rfl (upd_far rw w (by omega))
    have hP := va_P_ar hP 3 s2 8 (g := upd rf rc fg) rfl (upd_far rf fg (by omega))
    exact hret _ _ _ _ _ () dX2_keep_17 rfl hS (by rw [if_neg (by omega)]; exact hP) (by rw [if_neg (by omega)])
set_option maxHeartbeats 4000000 in
set_option maxRecDepth 100000 in
theorem c_X2_areSo (l : Launch) (E : gE) (hr : Nat) (s0 : Nat) (s1 : Nat) (s2 : Nat) (rc : Nat) (rs : Nat → Int32) (rw : Nat → Int32) (rf : Nat → Int32) (h0 : Nat) (a0 : Nat) (a1 : Nat) (a2 : Nat) (a3 : Nat) (a4 : Nat) (n : Nat) (mo : Int32) (pu : Nat → Int32) (ro : Nat → Int32) (wo : Nat → Int32) (hg : WG n ro wo) (hrc : rc ≤ 8) (hrw : rwP n rw rc) : Met l yX2_areSo wsX2_areSo ({ frames := 2, cells := 0, slots := 0, locals := 43 }) (PR E [.ref hr, .ref h0] [ob hr 2 [.ref s0, .ref s1, .ref s2, .int (nI rc)], ar E s0 8 rs, ar E s1 8 rw, ar E s2 8 rf, ob h0 5 [.ref a0, .ref a1, .ref a2, .ref a3, .ref a4, .int (nI n), .int mo], ar E a2 6 pu, ar E a3 6 ro, ar E a4 6 wo]) (vp_Si (fun r => r = if soP n mo (numF pu wo n) ro wo rs rw rf rc then 1 else 0)) 0 0 (fun _ => False) := by
  refine mkRz (cc := cX2_areSo) (maxL := 4) (by decide) rfl (Nat.le_of_ble_eq_true rfl) ?_
  intro p e s m args below meth c QQ hx hb hml hown hmn hts hK hP hret ls hl
  have hown : s.vm.findClass RX2 = some m.cls := hown
  have hl : lv_has ls 4 [(0, .ref hr), (1, .ref h0)] := hl
  have hinX2 : ∀ w ∈ wsX20, w ∈ wsX2_areSo := by decide +kernel
  have fl_9 := hts (.fieldLink RX2 9 "GuardAbacus$Readings" "sum" "[I") (by decide +kernel)
  have fl_15 := hts (.fieldLink RX2 15 "GuardAbacus$Readings" "wire" "[I") (by decide +kernel)
  have fl_18 := hts (.fieldLink RX2 18 "GuardAbacus$Readings" "seen" "[I") (by decide +kernel)
  have fl_21 := hts (.fieldLink RX2 21 "GuardAbacus$Readings" "count" "I") (by decide +kernel)
  have hn := hg.le
  refine lv_aload_n hx hb dX2_areSo_0 rfl (lv_at hl 1 rfl) ?_
  refine crV (As := []) (rest := []) ⟨hx, hb, hml, hown, hts⟩ (c_X5_numberNow l E h0 a0 a1 a2 a3 a4 n mo pu wo (by first | assumption | omega)) (cwV 0 hts gX2_areSo_X5_numberNow rfl rfl rfl (by decide +kernel) ⟨Nat.le_of_ble_eq_true rfl, Nat.le_of_ble_eq_true rfl⟩) hK hP [4, 5, 7] rfl 0 rfl rfl rfl rfl hl.1 rfl (catLe (Nat.le_of_ble_eq_true rfl)) dX2_areSo_1 ⟨Nat.zero_le _, Nat.zero_le _⟩ (fun r_1 hr_1 => ?_)
  subst hr_1
  refine lv_istore_n (lv' := [(2, .int (numF pu wo n)), (0, .ref hr), (1, .ref h0)]) hx hb dX2_areSo_4 rfl hl (by decide) rfl (fun ls hl => ?_)
  refine lv_iconst (v := 0) hx hb dX2_areSo_5 (by decide) ?_
  refine lv_istore_n (lv' := [(3, .int 0), (2, .int (numF pu wo n)), (0, .ref hr), (1, .ref h0)]) hx hb dX2_areSo_6 rfl hl (by decide) rfl (fun ls hl => ?_)
  have L7 : ∀ (fuel : Nat) (k : Nat), (k ≤ rc) → (∀ r, r < k → canP n mo (numF pu wo n) (rs r) ∧ figF (wo (ix (rw r))) (ro (ix (rw r))) (numF pu wo n + rs r) = rf r) → (rc - k) < fuel → ∀ ls : Array Slot, lv_has ls 4 [(3, .int (nI k)), (2, .int (numF pu wo n)), (0, .ref hr), (1, .ref h0)] → W p l e ({ frames := 2, cells := 0, slots := 0, locals := 43 }) s m args below meth c s.heap [] 0 0 QQ (F0 m 7 ls []) := by
    intro fuel
    induction fuel with
    | zero => intro k hk hs hf; exact absurd hf (Nat.not_lt_zero _)
    | succ fuel ih7 =>
      intro k hk hs hf7 ls hl
      refine lv_iload_n hx hb dX2_areSo_7 rfl (lv_at hl 0 rfl) ?_
      refine lv_aload_n hx hb dX2_areSo_8 rfl (lv_at hl 2 rfl) ?_
      refine va_get (D := E.1) (ci := 2) (v := .int (nI rc)) (C := RX2) (T := TX2) (N := 4) hx hb hts hinX2 hown hK.1 hP 0 rfl rfl 3 (by decide) fl_21 (fun _ h9 => h9) rfl dX2_areSo_9 ?_
      refine icmpN_ge (tgt := 69) (a := k) (b := rc) hx hb rfl rfl (by omega) (by omega) dX2_areSo_12 (by decide) (fun c_2 => ?_) (fun c_2 => ?_)
      ·
        obtain rfl : rc = k := by omega
        refine lv_iconst (v := 1) hx hb dX2_areSo_69 (by decide) ?_
        exact hret _ _ _ dX2_areSo_70 rfl (by rw [if_pos hs])
      ·
        refine lv_iload_n hx hb dX2_areSo_15 rfl (lv_at hl 0 rfl) ?_
        refine lv_bipush (v := 8) hx hb dX2_areSo_16 (by decide) ?_
        refine icmpN_ge (tgt := 69) (a := k) (b := 8) hx hb rfl rfl (by omega) (by omega) dX2_areSo_18 (by decide) (fun c_3 => ?_) (fun c_3 => ?_)
        ·
          omega
        ·
          refine lv_aload_n hx hb dX2_areSo_21 rfl (lv_at hl 3 rfl) ?_
          refine lv_aload_n hx hb dX2_areSo_22 rfl (lv_at hl 2 rfl) ?_
          refine va_get (D := E.1) (ci := 2) (v := .ref s0) (C := RX2) (T := TX2) (N := 4) hx hb hts hinX2 hown hK.1 hP 0 rfl rfl 0 (by decide) fl_9 (fun _ h9 => h9) rfl dX2_areSo_23 ?_
          refine lv_iload_n hx hb dX2_areSo_26 rfl (lv_at hl 0 rfl) ?_
          refine ild hx hb hK hP 1 rfl (j := k) rfl (by omega) (by decide) dX2_areSo_27 ?_
          refine crV (As := [.int (rs k)]) (rest := []) ⟨hx, hb, hml, hown, hts⟩ (c_X5_canSum l E h0 a0 a1 a2 a3 a4 n mo pu wo (rs k) (by first | assumption | omega)) (cwV 1 hts gX2_areSo_X5_canSum rfl rfl rfl (by decide +kernel) ⟨Nat.le_of_ble_eq_true rfl, Nat.le_of_ble_eq_true rfl⟩) hK hP [4, 5, 7] rfl 0 rfl rfl rfl rfl hl.1 rfl (catLe (Nat.le_of_ble_eq_true rfl)) dX2_areSo_28 ⟨Nat.zero_le _, Nat.zero_le _⟩ (fun r_4 hr_4 => ?_)
          subst hr_4
          refine ifB_eq (P := canP n mo (numF pu wo n) (rs k)) (tgt := 61) hx hb dX2_areSo_31 (by decide) (fun c_5 => ?_) (fun c_5 => ?_)
          ·
            refine lv_iconst (v := 0) hx hb dX2_areSo_61 (by decide) ?_
            exact hret _ _ _ dX2_areSo_62 rfl (by rw [if_neg (fun h => c_5 (h k (by omega)).1)])
          ·
            refine lv_aload_n hx hb dX2_areSo_34 rfl (lv_at hl 3 rfl) ?_
            refine lv_aload_n hx hb dX2_areSo_35 rfl (lv_at hl 2 rfl) ?_
            refine va_get (D := E.1) (ci := 2) (v := .ref s1) (C := RX2) (T := TX2) (N := 4) hx hb hts hinX2 hown hK.1 hP 0 rfl rfl 1 (by decide) fl_15 (fun _ h9 => h9) rfl dX2_areSo_36 ?_
            refine lv_iload_n hx hb dX2_areSo_39 rfl (lv_at hl 0 rfl) ?_
            refine ild hx hb hK hP 2 rfl (j := k) rfl (by omega) (by decide) dX2_areSo_40 ?_
            refine lv_iload_n hx hb dX2_areSo_41 rfl (lv_at hl 1 rfl) ?_
            refine lv_aload_n hx hb dX2_areSo_42 rfl (lv_at hl 2 rfl) ?_
            refine va_get (D := E.1) (ci := 2) (v := .ref s0) (C := RX2) (T := TX2) (N := 4) hx hb hts hinX2 hown hK.1 hP 0 rfl rfl 0 (by decide) fl_9 (fun _ h9 => h9) rfl dX2_areSo_43 ?_
            refine lv_iload_n hx hb dX2_areSo_46 rfl (lv_at hl 0 rfl) ?_
            refine ild hx hb hK hP 1 rfl (j := k) rfl (by omega) (by decide) dX2_areSo_47 ?_
            refine lv_iadd hx hb dX2_areSo_48 ?_
            refine crV (As := [.int (rw k), .int ((numF pu wo n) + (rs k))]) (rest := []) ⟨hx, hb, hml, hown, hts⟩ (c_X5_figureOf l E h0 a0 a1 a2 a3 a4 n mo ro wo (rw k) (ix (rw k)) ((numF pu wo n) + (rs k)) (by first | assumption | omega) (hrw k (by omega)).1 (hrw k (by omega)).2) (cwV 2 hts gX2_areSo_X5_figureOf rfl rfl rfl (by decide +kernel) ⟨Nat.le_of_ble_eq_true rfl, Nat.le_of_ble_eq_true rfl⟩) hK hP [4, 6, 7] rfl 0 rfl rfl rfl rfl hl.1 rfl (catLe (Nat.le_of_ble_eq_true rfl)) dX2_areSo_49 ⟨Nat.zero_le _, Nat.zero_le _⟩ (fun r_6 hr_6 => ?_)
            subst hr_6
            refine lv_aload_n hx hb dX2_areSo_52 rfl (lv_at hl 2 rfl) ?_
            refine va_get (D := E.1) (ci := 2) (v := .ref s2) (C := RX2) (T := TX2) (N := 4) hx hb hts hinX2 hown hK.1 hP 0 rfl rfl 2 (by decide) fl_18 (fun _ h9 => h9) rfl dX2_areSo_53 ?_
            refine lv_iload_n hx hb dX2_areSo_56 rfl (lv_at hl 0 rfl) ?_
            refine ild hx hb hK hP 3 rfl (j := k) rfl (by omega) (by decide) dX2_areSo_57 ?_
            refine lv_icmp_eq (tgt := 63) hx hb dX2_areSo_58 (by decide) (fun c_7 => ?_) (fun c_7 => ?_)
            ·
              refine lv_iinc (v := nI (k + 1)) (lv' := [(3, .int (nI (k + 1))), (2, .int (numF pu wo n)), (0, .ref hr), (1, .ref h0)]) hx hb dX2_areSo_63 hl (k := 0) rfl (nI_inc k) (by decide) rfl (fun ls hl => ?_)
              refine lv_goto (tgt := 7) hx hb dX2_areSo_66 (by decide) ?_
              exact ih7 (k + 1) (by omega) (lt_s hs ⟨c_5, c_7⟩) (by omega) ls (lv_sub hl [0, 1, 2, 3] rfl)
            ·
              refine lv_iconst (v := 0) hx hb dX2_areSo_61 (by decide) ?_
              exact hret _ _ _ dX2_areSo_62 rfl (by rw [if_neg (fun h => c_7 (h k (by omega)).2)])
  exact L7 _ 0 (by omega) (fun w h => absurd h (Nat.not_lt_zero w)) (Nat.lt_succ_self _) ls (lv_sub hl [0, 1, 2, 3] rfl)
