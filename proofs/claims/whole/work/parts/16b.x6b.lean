set_option maxHeartbeats 4000000 in
set_option maxRecDepth 100000 in
theorem c_X6_sheet (l : Launch) (E : gE) (sz : Nat) (g0 : Nat) (h0 : Nat) (k0 : Nat) (gs : Nat) (ht : Nat) (hd : Nat) (ho : Nat) (hr : Nat) (fo : Nat) (wy : Nat) (tr : Int32) (lf : Int32) (sa : Nat → Option Nat) (hs : Nat) (qs : Nat) (th : Int32) (la : Int32) (ln : Nat) (ce : Nat → Int32) (j : Nat) (k : Int32) (lane : Int32) (n : Int32) (hj4 : j < 4) (hsa : sa j = some hs) (hjs : shP k → k = nI j) : Met l yX6_sheet wsX6_sheet ({ frames := 1, cells := 0, slots := 0, locals := 23 }) (PW E [.ref g0, .int k, .int lane, .int n] [ob g0 6 [.ref h0, .ref k0, .ref gs, .ref ht, .ref hd, .ref ho, .ref hr, .ref fo, .ref wy, .int tr, .int lf], aq E gs 4 sa, ob hs 3 [.ref qs, .int th, .int la, .int (nI ln)], ar E qs 60 ce] sz) (QWi E (fun r _ => r = spSheet k lane n) (fun (_ : Unit) => [ob g0 6 [.ref h0, .ref k0, .ref gs, .ref ht, .ref hd, .ref ho, .ref hr, .ref fo, .ref wy, .int tr, .int (fltF (spSheet k lane n))], aq E gs 4 sa, ob hs 3 [.ref qs, .int (if shOk k lane n then 1 else th), .int (if shOk k lane n then lane else la), .int (nI (if shOk k lane n then ix n else ln))], ar E qs 60 (if shOk k lane n then (fun _ => 0) else ce)]) (va_A [ob g0 6 [.ref h0, .ref k0, .ref gs, .ref ht, .ref hd, .ref ho, .ref hr, .ref fo, .ref wy, .int tr, .int lf], aq E gs 4 sa, ob hs 3 [.ref qs, .int th, .int la, .int (nI ln)], ar E qs 60 ce] sz)) 0 0 (va_A [ob g0 6 [.ref h0, .ref k0, .ref gs, .ref ht, .ref hd, .ref ho, .ref hr, .ref fo, .ref wy, .int tr, .int lf], aq E gs 4 sa, ob hs 3 [.ref qs, .int th, .int la, .int (nI ln)], ar E qs 60 ce] sz) := by
  refine mkWi (cc := cX6_sheet) (maxL := 4) (by decide) rfl (Nat.le_of_ble_eq_true rfl) ?_
  intro p e s m args below meth c QQ A hx hb hml hown hmn hts hK hA hP hD hS hret ls hl
  have hown : s.vm.findClass RX6 = some m.cls := hown
  have hl : lv_has ls 4 [(0, .ref g0), (1, .int k), (2, .int lane), (3, .int n)] := hl
  have hinX6 : ∀ w ∈ wsX60, w ∈ wsX6_sheet := by decide +kernel
  have fl_23 := hts (.fieldLink RX6 23 "GuardAbacus" "sheets" "[LGuardAbacus$Sheet;") (by decide +kernel)
  have fl_67 := hts (.fieldLink RX6 67 "GuardAbacus" "lastFault" "I") (by decide +kernel)
  refine lv_aload_n hx hb dX6_sheet_0 rfl (lv_at hl 0 rfl) ?_
  refine lv_iconst (v := 0) hx hb dX6_sheet_1 (by decide) ?_
  refine va_put (D := E.1) (ci := 6) (v := .int 0) (ty := .int) (C := RX6) (T := TX6) (N := 11) hx hb hts hinX6 tyX6 tyX6_ok nmX6 hown hK.1 hP hD hS 0 rfl rfl 10 (by decide) fl_67 (fun _ h9 => h9) rfl (by decide +kernel) rfl rfl (Nat.le_of_ble_eq_true rfl) dX6_sheet_2 (fun H locs hP hD hS => ?_)
  have hP : va_P E.1 vwCl [ob g0 6 [.ref h0, .ref k0, .ref gs, .ref ht, .ref hd, .ref ho, .ref hr, .ref fo, .ref wy, .int tr, .int 0], aq E gs 4 sa, ob hs 3 [.ref qs, .int th, .int la, .int (nI ln)], ar E qs 60 ce] H := hP
  have hD : va_D A [ob g0 6 [.ref h0, .ref k0, .ref gs, .ref ht, .ref hd, .ref ho, .ref hr, .ref fo, .ref wy, .int tr, .int 0], aq E gs 4 sa, ob hs 3 [.ref qs, .int th, .int la, .int (nI ln)], ar E qs 60 ce] := hD
  refine lv_iload_n hx hb dX6_sheet_5 rfl (lv_at hl 1 rfl) ?_
  refine crS (As := [.int k]) (rest := []) ⟨hx, hb, hml, hown, hts⟩ (c_X6_isSheet l E k) (va_cwS 1 hts gX6_sheet_X6_isSheet rfl rfl rfl (by decide +kernel) ⟨Nat.le_of_ble_eq_true rfl, Nat.le_of_ble_eq_true rfl⟩) hK hP [] rfl rfl hl.1 rfl (catLe (Nat.le_of_ble_eq_true rfl)) dX6_sheet_6 ⟨Nat.zero_le _, Nat.zero_le _⟩ (fun r_1 hr_1 => ?_)
  subst hr_1
  refine ifB_ne (P := shP k) (tgt := 14) hx hb dX6_sheet_9 (by decide) (fun c_2 => ?_) (fun c_2 => ?_)
  ·
    have hsh := hjs c_2
    subst hsh
    refine lv_iload_n hx hb dX6_sheet_14 rfl (lv_at hl 2 rfl) ?_
    refine crS (As := [.int lane]) (rest := []) ⟨hx, hb, hml, hown, hts⟩ (c_X6_isLane l E lane) (va_cwS 1 hts gX6_sheet_X6_isLane rfl rfl rfl (by decide +kernel) ⟨Nat.le_of_ble_eq_true rfl, Nat.le_of_ble_eq_true rfl⟩) hK hP [] rfl rfl hl.1 rfl (catLe (Nat.le_of_ble_eq_true rfl)) dX6_sheet_15 ⟨Nat.zero_le _, Nat.zero_le _⟩ (fun r_3 hr_3 => ?_)
    subst hr_3
    refine ifB_eq (P := laP lane) (tgt := 27) hx hb dX6_sheet_18 (by decide) (fun c_4 => ?_) (fun c_4 => ?_)
    ·
      refine lv_bipush (v := (-2)) hx hb dX6_sheet_27 (by decide) ?_
      have hno : ¬ shOk (nI j) lane n := fun h => c_4 h.2.1
      have e1 : fltF (spSheet (nI j) lane n) = 0 := by simp [fltF, spSheet, c_2, c_4]
      exact hret _ _ _ _ _ () dX6_sheet_29 hS (by rw [e1, if_neg hno, if_neg hno, if_neg hno, if_neg hno]; exact hP) (by simp [spSheet, c_2, c_4])
    ·
      refine lv_iload_n hx hb dX6_sheet_21 rfl (lv_at hl 3 rfl) ?_
      refine lv_bipush (v := 60) hx hb dX6_sheet_22 (by decide) ?_
      refine lv_icmp_le (tgt := 30) hx hb dX6_sheet_24 (by decide) (fun c_5 => ?_) (fun c_5 => ?_)
      ·
        have c_5b := Int32.not_lt.mpr c_5
        refine lv_iload_n hx hb dX6_sheet_30 rfl (lv_at hl 3 rfl) ?_
        refine lv_if_ge (tgt := 40) hx hb dX6_sheet_31 (by decide) (fun c_6 => ?_) (fun c_6 => ?_)
        ·
          have c_6b := Int32.not_lt.mpr c_6
          obtain ⟨m, hm, rfl⟩ := le_nat (n := 60) (M := 60) rfl c_6b c_5
          have hok : shOk (nI j) lane (nI m) := ⟨c_2, c_4, c_5, c_6b⟩
          have hixm : ix (nI m) = m := ix_nI (by omega)
          refine lv_aload_n hx hb dX6_sheet_40 rfl (lv_at hl 0 rfl) ?_
          refine va_get (D := E.1) (ci := 6) (v := .ref gs) (C := RX6) (T := TX6) (N := 11) hx hb hts hinX6 hown hK.1 hP 0 rfl rfl 2 (by decide) fl_23 (fun _ h9 => h9) rfl dX6_sheet_41 ?_
          refine lv_iload_n hx hb dX6_sheet_44 rfl (lv_at hl 1 rfl) ?_
          refine ald hx hb hK hP 1 rfl (j := j) rfl (by omega) (by decide) (v := hs) hsa dX6_sheet_45 ?_
          refine lv_iload_n hx hb dX6_sheet_46 rfl (lv_at hl 2 rfl) ?_
          refine lv_iload_n hx hb dX6_sheet_47 rfl (lv_at hl 3 rfl) ?_
          refine cwVv (As := [.int lane, .int (nI m)]) (rest := []) ⟨hx, hb, hml, hown, hts⟩ (c_X3_begin l E _ hs qs th la (nI ln) ce lane (nI m)) (cwV 2 hts gX6_sheet_X3_begin rfl rfl rfl (by decide +kernel) ⟨Nat.le_of_ble_eq_true rfl, Nat.le_of_ble_eq_true rfl⟩) hK hP hD hS hA [2, 3] (by decide) rfl [hs, qs] (fun _ => rfl) rfl 0 rfl rfl rfl rfl hl.1 rfl (catLe (Nat.le_of_ble_eq_true rfl)) dX6_sheet_48 ⟨Nat.zero_le _, Nat.zero_le _⟩ (fun u_8 H locs hwr_7 hP hD hS => ?_)
          have hP : va_P E.1 vwCl [ob g0 6 [.ref h0, .ref k0, .ref gs, .ref ht, .ref hd, .ref ho, .ref hr, .ref fo, .ref wy, .int tr, .int 0], aq E gs 4 sa, ob hs 3 [.ref qs, .int 1, .int lane, .int (nI m)], ar E qs 60 (fun _ => 0)] H := hP
          have hD : va_D A [ob g0 6 [.ref h0, .ref k0, .ref gs, .ref ht, .ref hd, .ref ho, .ref hr, .ref fo, .ref wy, .int tr, .int 0], aq E gs 4 sa, ob hs 3 [.ref qs, .int 1, .int lane, .int (nI m)], ar E qs 60 (fun _ => 0)] := hD
          refine lv_iconst (v := 1) hx hb dX6_sheet_51 (by decide) ?_
          have e1 : fltF (spSheet (nI j) lane (nI m)) = 0 := by rw [show spSheet (nI j) lane (nI m) = 1 from by simp [spSheet, c_2, c_4, c_5, c_6, c_5b, c_6b]]; rfl
          exact hret _ _ _ _ _ () dX6_sheet_52 hS (by rw [e1, if_pos hok, if_pos hok, if_pos hok, if_pos hok, hixm]; exact hP) (by simp [spSheet, c_2, c_4, c_5, c_6, c_5b, c_6b])
        ·
          have c_6b := Int32.not_le.mp c_6
          refine lv_aload_n hx hb dX6_sheet_34 rfl (lv_at hl 0 rfl) ?_
          refine lv_iconst (v := 4) hx hb dX6_sheet_35 (by decide) ?_
          refine cwVi (As := [.int 4]) (rest := []) ⟨hx, hb, hml, hown, hts⟩ (c_X6_faulted l E _ g0 h0 k0 gs ht hd ho hr fo wy tr 0 4) (cwV 1 hts gX6_sheet_X6_faulted rfl rfl rfl (by decide +kernel) ⟨Nat.le_of_ble_eq_true rfl, Nat.le_of_ble_eq_true rfl⟩) hK hP hD hS hA [0] (by decide) rfl [g0] (fun _ => rfl) rfl 0 rfl rfl rfl rfl hl.1 rfl (catLe (Nat.le_of_ble_eq_true rfl)) dX6_sheet_36 ⟨Nat.zero_le _, Nat.zero_le _⟩ (fun r_9 u_10 H locs hwr_9 hP hD hS => ?_)
          have hP : va_P E.1 vwCl [ob g0 6 [.ref h0, .ref k0, .ref gs, .ref ht, .ref hd, .ref ho, .ref hr, .ref fo, .ref wy, .int tr, .int 4], aq E gs 4 sa, ob hs 3 [.ref qs, .int th, .int la, .int (nI ln)], ar E qs 60 ce] H := hP
          have hD : va_D A [ob g0 6 [.ref h0, .ref k0, .ref gs, .ref ht, .ref hd, .ref ho, .ref hr, .ref fo, .ref wy, .int tr, .int 4], aq E gs 4 sa, ob hs 3 [.ref qs, .int th, .int la, .int (nI ln)], ar E qs 60 ce] := hD
          subst hwr_9
          have hno : ¬ shOk (nI j) lane n := fun h => h.2.2.2 c_6b
          have e1 : fltF (spSheet (nI j) lane n) = 4 := by simp [fltF, spSheet, c_2, c_4, c_5, c_6, c_5b, c_6b]
          exact hret _ _ _ _ _ () dX6_sheet_39 hS (by rw [e1, if_neg hno, if_neg hno, if_neg hno, if_neg hno]; exact hP) (by simp [spSheet, c_2, c_4, c_5, c_6, c_5b, c_6b])
      ·
        have c_5b := Int32.not_le.mp c_5
        refine lv_bipush (v := (-2)) hx hb dX6_sheet_27 (by decide) ?_
        have hno : ¬ shOk (nI j) lane n := fun h => c_5 h.2.2.1
        have e1 : fltF (spSheet (nI j) lane n) = 0 := by simp [fltF, spSheet, c_2, c_4, c_5, c_5b]
        exact hret _ _ _ _ _ () dX6_sheet_29 hS (by rw [e1, if_neg hno, if_neg hno, if_neg hno, if_neg hno]; exact hP) (by simp [spSheet, c_2, c_4, c_5, c_5b])
  ·
    refine lv_iconst (v := (-1)) hx hb dX6_sheet_12 (by decide) ?_
    have hno : ¬ shOk k lane n := fun h => c_2 h.1
    have e1 : fltF (spSheet k lane n) = 0 := by simp [fltF, spSheet, c_2]
    exact hret _ _ _ _ _ () dX6_sheet_13 hS (by rw [e1, if_neg hno, if_neg hno, if_neg hno, if_neg hno]; exact hP) (by simp [spSheet, c_2])
set_option maxHeartbeats 4000000 in
set_option maxRecDepth 100000 in
theorem c_X6_lose (l : Launch) (E : gE) (sz : Nat) (g0 : Nat) (h0 : Nat) (k0 : Nat) (gs : Nat) (ht : Nat) (hd : Nat) (ho : Nat) (hr : Nat) (fo : Nat) (wy : Nat) (tr : Int32) (lf : Int32) (sa : Nat → Option Nat) (hs : Nat) (qs : Nat) (th : Int32) (la : Int32) (ln : Nat) (j : Nat) (k : Int32) (hj4 : j < 4) (hsa : sa j = some hs) (hjs : shP k → k = nI j) : Met l yX6_lose wsX6_lose ({ frames := 1, cells := 0, slots := 0, locals := 20 }) (PW E [.ref g0, .int k] [ob g0 6 [.ref h0, .ref k0, .ref gs, .ref ht, .ref hd, .ref ho, .ref hr, .ref fo, .ref wy, .int tr, .int lf], aq E gs 4 sa, ob hs 3 [.ref qs, .int th, .int la, .int (nI ln)]] sz) (QWi E (fun r _ => r = spLose k th) (fun (_ : Unit) => [ob g0 6 [.ref h0, .ref k0, .ref gs, .ref ht, .ref hd, .ref ho, .ref hr, .ref fo, .ref wy, .int tr, .int lf], aq E gs 4 sa, ob hs 3 [.ref qs, .int (if shP k then 0 else th), .int la, .int (nI ln)]]) (va_A [ob g0 6 [.ref h0, .ref k0, .ref gs, .ref ht, .ref hd, .ref ho, .ref hr, .ref fo, .ref wy, .int tr, .int lf], aq E gs 4 sa, ob hs 3 [.ref qs, .int th, .int la, .int (nI ln)]] sz)) 0 0 (va_A [ob g0 6 [.ref h0, .ref k0, .ref gs, .ref ht, .ref hd, .ref ho, .ref hr, .ref fo, .ref wy, .int tr, .int lf], aq E gs 4 sa, ob hs 3 [.ref qs, .int th, .int la, .int (nI ln)]] sz) := by
  refine mkWi (cc := cX6_lose) (maxL := 3) (by decide) rfl (Nat.le_of_ble_eq_true rfl) ?_
  intro p e s m args below meth c QQ A hx hb hml hown hmn hts hK hA hP hD hS hret ls hl
  have hown : s.vm.findClass RX6 = some m.cls := hown
  have hl : lv_has ls 3 [(0, .ref g0), (1, .int k)] := hl
  have hinX3 : ∀ w ∈ wsX30, w ∈ wsX6_lose := by decide +kernel
  have hinX6 : ∀ w ∈ wsX60, w ∈ wsX6_lose := by decide +kernel
  have fl_23 := hts (.fieldLink RX6 23 "GuardAbacus" "sheets" "[LGuardAbacus$Sheet;") (by decide +kernel)
  have fl_237 := hts (.fieldLink RX6 237 "GuardAbacus$Sheet" "isThere" "Z") (by decide +kernel)
  refine lv_iload_n hx hb dX6_lose_0 rfl (lv_at hl 1 rfl) ?_
  refine crS (As := [.int k]) (rest := []) ⟨hx, hb, hml, hown, hts⟩ (c_X6_isSheet l E k) (va_cwS 1 hts gX6_lose_X6_isSheet rfl rfl rfl (by decide +kernel) ⟨Nat.le_of_ble_eq_true rfl, Nat.le_of_ble_eq_true rfl⟩) hK hP [] rfl rfl hl.1 rfl (catLe (Nat.le_of_ble_eq_true rfl)) dX6_lose_1 ⟨Nat.zero_le _, Nat.zero_le _⟩ (fun r_1 hr_1 => ?_)
  subst hr_1
  refine ifB_ne (P := shP k) (tgt := 9) hx hb dX6_lose_4 (by decide) (fun c_2 => ?_) (fun c_2 => ?_)
  ·
    have hsh := hjs c_2
    subst hsh
    refine lv_aload_n hx hb dX6_lose_9 rfl (lv_at hl 0 rfl) ?_
    refine va_get (D := E.1) (ci := 6) (v := .ref gs) (C := RX6) (T := TX6) (N := 11) hx hb hts hinX6 hown hK.1 hP 0 rfl rfl 2 (by decide) fl_23 (fun _ h9 => h9) rfl dX6_lose_10 ?_
    refine lv_iload_n hx hb dX6_lose_13 rfl (lv_at hl 1 rfl) ?_
    refine ald hx hb hK hP 1 rfl (j := j) rfl (by omega) (by decide) (v := hs) hsa dX6_lose_14 ?_
    refine va_get (D := E.1) (ci := 3) (v := .int th) (C := RX3) (T := TX3) (N := 4) hx hb hts hinX3 hown hK.1 hP 2 rfl rfl 1 (by decide) fl_237 (fun _ h9 => h9) rfl dX6_lose_15 ?_
    refine lv_istore_n (lv' := [(2, .int th), (0, .ref g0), (1, .int (nI j))]) hx hb dX6_lose_18 rfl hl (by decide) rfl (fun ls hl => ?_)
    refine lv_aload_n hx hb dX6_lose_19 rfl (lv_at hl 1 rfl) ?_
    refine va_get (D := E.1) (ci := 6) (v := .ref gs) (C := RX6) (T := TX6) (N := 11) hx hb hts hinX6 hown hK.1 hP 0 rfl rfl 2 (by decide) fl_23 (fun _ h9 => h9) rfl dX6_lose_20 ?_
    refine lv_iload_n hx hb dX6_lose_23 rfl (lv_at hl 2 rfl) ?_
    refine ald hx hb hK hP 1 rfl (j := j) rfl (by omega) (by decide) (v := hs) hsa dX6_lose_24 ?_
    refine lv_iconst (v := 0) hx hb dX6_lose_25 (by decide) ?_
    refine va_put (D := E.1) (ci := 3) (v := .int 0) (ty := .boolean) (C := RX3) (T := TX3) (N := 4) hx hb hts hinX3 tyX3 tyX3_ok nmX3 hown hK.1 hP hD hS 2 rfl rfl 1 (by decide) fl_237 (fun _ h9 => h9) rfl (by decide +kernel) rfl rfl (Nat.le_of_ble_eq_true rfl) dX6_lose_26 (fun H locs hP hD hS => ?_)
    have hP : va_P E.1 vwCl [ob g0 6 [.ref h0, .ref k0, .ref gs, .ref ht, .ref hd, .ref ho, .ref hr, .ref fo, .ref wy, .int tr, .int lf], aq E gs 4 sa, ob hs 3 [.ref qs, .int 0, .int la, .int (nI ln)]] H := hP
    have hD : va_D A [ob g0 6 [.ref h0, .ref k0, .ref gs, .ref ht, .ref hd, .ref ho, .ref hr, .ref fo, .ref wy, .int tr, .int lf], aq E gs 4 sa, ob hs 3 [.ref qs, .int 0, .int la, .int (nI ln)]] := hD
    refine lv_iload_n hx hb dX6_lose_29 rfl (lv_at hl 0 rfl) ?_
    refine lv_if_eq (tgt := 37) hx hb dX6_lose_30 (by decide) (fun c_3 => ?_) (fun c_3 => ?_)
    ·
      refine lv_iconst (v := 0) hx hb dX6_lose_37 (by decide) ?_
      exact hret _ _ _ _ _ () dX6_lose_38 hS (by rw [if_pos c_2]; exact hP) (by simp [spLose, c_2, c_3])
    ·
      refine lv_iconst (v := 1) hx hb dX6_lose_33 (by decide) ?_
      refine lv_goto (tgt := 38) hx hb dX6_lose_34 (by decide) ?_
      exact hret _ _ _ _ _ () dX6_lose_38 hS (by rw [if_pos c_2]; exact hP) (by simp [spLose, c_2, c_3])
  ·
    refine lv_iconst (v := (-1)) hx hb dX6_lose_7 (by decide) ?_
    exact hret _ _ _ _ _ () dX6_lose_8 hS (by rw [if_neg c_2]; exact hP) (by simp [spLose, c_2])
set_option maxHeartbeats 4000000 in
set_option maxRecDepth 100000 in
theorem c_X6_put (l : Launch) (E : gE) (sz : Nat) (g0 : Nat) (h0 : Nat) (k0 : Nat) (gs : Nat) (ht : Nat) (hd : Nat) (ho : Nat) (hr : Nat) (fo : Nat) (wy : Nat) (tr : Int32) (lf : Int32) (sa : Nat → Option Nat) (hs : Nat) (qs : Nat) (th : Int32) (la : Int32) (ln : Nat) (ce : Nat → Int32) (j : Nat) (k : Int32) (i : Int32) (v : Int32) (hj4 : j < 4) (hsa : sa j = some hs) (hjs : shP k → k = nI j) (h60 : ln ≤ 60) : Met l yX6_put wsX6_put ({ frames := 2, cells := 0, slots := 0, locals := 43 }) (PW E [.ref g0, .int k, .int i, .int v] [ob g0 6 [.ref h0, .ref k0, .ref gs, .ref ht, .ref hd, .ref ho, .ref hr, .ref fo, .ref wy, .int tr, .int lf], aq E gs 4 sa, ob hs 3 [.ref qs, .int th, .int la, .int (nI ln)], ar E qs 60 ce] sz) (QWi E (fun r _ => r = spPut k i th ln) (fun (_ : Unit) => [ob g0 6 [.ref h0, .ref k0, .ref gs, .ref ht, .ref hd, .ref ho, .ref hr, .ref fo, .ref wy, .int tr, .int (fltF (spPut k i th ln))], aq E gs 4 sa, ob hs 3 [.ref qs, .int th, .int la, .int (nI ln)], ar E qs 60 (if puOk k i th ln then upd ce (ix i) (cutF la v) else ce)]) (va_A [ob g0 6 [.ref h0, .ref k0, .ref gs, .ref ht, .ref hd, .ref ho, .ref hr, .ref fo, .ref wy, .int tr, .int lf], aq E gs 4 sa, ob hs 3 [.ref qs, .int th, .int la, .int (nI ln)], ar E qs 60 ce] sz)) 0 0 (va_A [ob g0 6 [.ref h0, .ref k0, .ref gs, .ref ht, .ref hd, .ref ho, .ref hr, .ref fo, .ref wy, .int tr, .int lf], aq E gs 4 sa, ob hs 3 [.ref qs, .int th, .int la, .int (nI ln)], ar E qs 60 ce] sz) := by
  refine mkWi (cc := cX6_put) (maxL := 4) (by decide) rfl (Nat.le_of_ble_eq_true rfl) ?_
  intro p e s m args below meth c QQ A hx hb hml hown hmn hts hK hA hP hD hS hret ls hl
  have hown : s.vm.findClass RX6 = some m.cls := hown
  have hl : lv_has ls 4 [(0, .ref g0), (1, .int k), (2, .int i), (3, .int v)] := hl
  have hinX3 : ∀ w ∈ wsX30, w ∈ wsX6_put := by decide +kernel
  have hinX6 : ∀ w ∈ wsX60, w ∈ wsX6_put := by decide +kernel
  have fl_23 := hts (.fieldLink RX6 23 "GuardAbacus" "sheets" "[LGuardAbacus$Sheet;") (by decide +kernel)
  have fl_67 := hts (.fieldLink RX6 67 "GuardAbacus" "lastFault" "I") (by decide +kernel)
  have fl_237 := hts (.fieldLink RX6 237 "GuardAbacus$Sheet" "isThere" "Z") (by decide +kernel)
  refine lv_aload_n hx hb dX6_put_0 rfl (lv_at hl 0 rfl) ?_
  refine lv_iconst (v := 0) hx hb dX6_put_1 (by decide) ?_
  refine va_put (D := E.1) (ci := 6) (v := .int 0) (ty := .int) (C := RX6) (T := TX6) (N := 11) hx hb hts hinX6 tyX6 tyX6_ok nmX6 hown hK.1 hP hD hS 0 rfl rfl 10 (by decide) fl_67 (fun _ h9 => h9) rfl (by decide +kernel) rfl rfl (Nat.le_of_ble_eq_true rfl) dX6_put_2 (fun H locs hP hD hS => ?_)
  have hP : va_P E.1 vwCl [ob g0 6 [.ref h0, .ref k0, .ref gs, .ref ht, .ref hd, .ref ho, .ref hr, .ref fo, .ref wy, .int tr, .int 0], aq E gs 4 sa, ob hs 3 [.ref qs, .int th, .int la, .int (nI ln)], ar E qs 60 ce] H := hP
  have hD : va_D A [ob g0 6 [.ref h0, .ref k0, .ref gs, .ref ht, .ref hd, .ref ho, .ref hr, .ref fo, .ref wy, .int tr, .int 0], aq E gs 4 sa, ob hs 3 [.ref qs, .int th, .int la, .int (nI ln)], ar E qs 60 ce] := hD
  refine lv_iload_n hx hb dX6_put_5 rfl (lv_at hl 1 rfl) ?_
  refine crS (As := [.int k]) (rest := []) ⟨hx, hb, hml, hown, hts⟩ (c_X6_isSheet l E k) (va_cwS 1 hts gX6_put_X6_isSheet rfl rfl rfl (by decide +kernel) ⟨Nat.le_of_ble_eq_true rfl, Nat.le_of_ble_eq_true rfl⟩) hK hP [] rfl rfl hl.1 rfl (catLe (Nat.le_of_ble_eq_true rfl)) dX6_put_6 ⟨Nat.zero_le _, Nat.zero_le _⟩ (fun r_1 hr_1 => ?_)
  subst hr_1
  refine ifB_ne (P := shP k) (tgt := 14) hx hb dX6_put_9 (by decide) (fun c_2 => ?_) (fun c_2 => ?_)
  ·
    have hsh := hjs c_2
    subst hsh
    refine lv_aload_n hx hb dX6_put_14 rfl (lv_at hl 0 rfl) ?_
    refine va_get (D := E.1) (ci := 6) (v := .ref gs) (C := RX6) (T := TX6) (N := 11) hx hb hts hinX6 hown hK.1 hP 0 rfl rfl 2 (by decide) fl_23 (fun _ h9 => h9) rfl dX6_put_15 ?_
    refine lv_iload_n hx hb dX6_put_18 rfl (lv_at hl 1 rfl) ?_
    refine ald hx hb hK hP 1 rfl (j := j) rfl (by omega) (by decide) (v := hs) hsa dX6_put_19 ?_
    refine va_get (D := E.1) (ci := 3) (v := .int th) (C := RX3) (T := TX3) (N := 4) hx hb hts hinX3 hown hK.1 hP 2 rfl rfl 1 (by decide) fl_237 (fun _ h9 => h9) rfl dX6_put_20 ?_
    refine lv_if_ne (tgt := 32) hx hb dX6_put_23 (by decide) (fun c_3 => ?_) (fun c_3 => ?_)
    ·
      refine lv_aload_n hx hb dX6_put_32 rfl (lv_at hl 0 rfl) ?_
      refine va_get (D := E.1) (ci := 6) (v := .ref gs) (C := RX6) (T := TX6) (N := 11) hx hb hts hinX6 hown hK.1 hP 0 rfl rfl 2 (by decide) fl_23 (fun _ h9 => h9) rfl dX6_put_33 ?_
      refine lv_iload_n hx hb dX6_put_36 rfl (lv_at hl 1 rfl) ?_
      refine ald hx hb hK hP 1 rfl (j := j) rfl (by omega) (by decide) (v := hs) hsa dX6_put_37 ?_
      refine lv_iload_n hx hb dX6_put_38 rfl (lv_at hl 2 rfl) ?_
      refine lv_iconst (v := 1) hx hb dX6_put_39 (by decide) ?_
      refine crV (As := [.int i, .int 1]) (rest := []) ⟨hx, hb, hml, hown, hts⟩ (c_X3_reaches l E hs qs th la ln i 1) (cwV 2 hts gX6_put_X3_reaches rfl rfl rfl (by decide +kernel) ⟨Nat.le_of_ble_eq_true rfl, Nat.le_of_ble_eq_true rfl⟩) hK hP [2] rfl 0 rfl rfl rfl rfl hl.1 rfl (catLe (Nat.le_of_ble_eq_true rfl)) dX6_put_40 ⟨Nat.zero_le _, Nat.zero_le _⟩ (fun r_4 hr_4 => ?_)
      subst hr_4
      refine ifB_ne (P := reachP ln i 1) (tgt := 52) hx hb dX6_put_43 (by decide) (fun c_5 => ?_) (fun c_5 => ?_)
      ·
        have hok : puOk (nI j) i th ln := ⟨c_2, c_3, c_5⟩
        obtain ⟨a, rfl, ha⟩ := reach1 c_5 h60
        have hixa : ix (nI a) = a := ix_nI (by omega)
        refine lv_aload_n hx hb dX6_put_52 rfl (lv_at hl 0 rfl) ?_
        refine va_get (D := E.1) (ci := 6) (v := .ref gs) (C := RX6) (T := TX6) (N := 11) hx hb hts hinX6 hown hK.1 hP 0 rfl rfl 2 (by decide) fl_23 (fun _ h9 => h9) rfl dX6_put_53 ?_
        refine lv_iload_n hx hb dX6_put_56 rfl (lv_at hl 1 rfl) ?_
        refine ald hx hb hK hP 1 rfl (j := j) rfl (by omega) (by decide) (v := hs) hsa dX6_put_57 ?_
        refine lv_iload_n hx hb dX6_put_58 rfl (lv_at hl 2 rfl) ?_
        refine lv_iload_n hx hb dX6_put_59 rfl (lv_at hl 3 rfl) ?_
        refine cwVv (As := [.int (nI a), .int v]) (rest := []) ⟨hx, hb, hml, hown, hts⟩ (c_X3_write l E _ hs qs th la ln ce (nI a) a v (by first | assumption | omega) (by first | assumption | omega) rfl) (cwV 2 hts gX6_put_X3_write rfl rfl rfl (by decide +kernel) ⟨Nat.le_of_ble_eq_true rfl, Nat.le_of_ble_eq_true rfl⟩) hK hP hD hS hA [2, 3] (by decide) rfl [hs, qs] (fun _ => rfl) rfl 0 rfl rfl rfl rfl hl.1 rfl (catLe (Nat.le_of_ble_eq_true rfl)) dX6_put_60 ⟨Nat.zero_le _, Nat.zero_le _⟩ (fun u_7 H locs hwr_6 hP hD hS => ?_)
        have hP : va_P E.1 vwCl [ob g0 6 [.ref h0, .ref k0, .ref gs, .ref ht, .ref hd, .ref ho, .ref hr, .ref fo, .ref wy, .int tr, .int 0], aq E gs 4 sa, ob hs 3 [.ref qs, .int th, .int la, .int (nI ln)], ar E qs 60 (upd ce a (cutF la v))] H := hP
        have hD : va_D A [ob g0 6 [.ref h0, .ref k0, .ref gs, .ref ht, .ref hd, .ref ho, .ref hr, .ref fo, .ref wy, .int tr, .int 0], aq E gs 4 sa, ob hs 3 [.ref qs, .int th, .int la, .int (nI ln)], ar E qs 60 (upd ce a (cutF la v))] := hD
        refine lv_iconst (v := 1) hx hb dX6_put_63 (by decide) ?_
        have e1 : fltF (spPut (nI j) (nI a) th ln) = 0 := by simp [fltF, spPut, c_2, c_3, c_5]
        exact hret _ _ _ _ _ () dX6_put_64 hS (by rw [e1, if_pos hok, hixa]; exact hP) (by simp [spPut, c_2, c_3, c_5])
      ·
        refine lv_aload_n hx hb dX6_put_46 rfl (lv_at hl 0 rfl) ?_
        refine lv_iconst (v := 3) hx hb dX6_put_47 (by decide) ?_
        refine cwVi (As := [.int 3]) (rest := []) ⟨hx, hb, hml, hown, hts⟩ (c_X6_faulted l E _ g0 h0 k0 gs ht hd ho hr fo wy tr 0 3) (cwV 1 hts gX6_put_X6_faulted rfl rfl rfl (by decide +kernel) ⟨Nat.le_of_ble_eq_true rfl, Nat.le_of_ble_eq_true rfl⟩) hK hP hD hS hA [0] (by decide) rfl [g0] (fun _ => rfl) rfl 0 rfl rfl rfl rfl hl.1 rfl (catLe (Nat.le_of_ble_eq_true rfl)) dX6_put_48 ⟨Nat.zero_le _, Nat.zero_le _⟩ (fun r_8 u_9 H locs hwr_8 hP hD hS => ?_)
        have hP : va_P E.1 vwCl [ob g0 6 [.ref h0, .ref k0, .ref gs, .ref ht, .ref hd, .ref ho, .ref hr, .ref fo, .ref wy, .int tr, .int 3], aq E gs 4 sa, ob hs 3 [.ref qs, .int th, .int la, .int (nI ln)], ar E qs 60 ce] H := hP
        have hD : va_D A [ob g0 6 [.ref h0, .ref k0, .ref gs, .ref ht, .ref hd, .ref ho, .ref hr, .ref fo, .ref wy, .int tr, .int 3], aq E gs 4 sa, ob hs 3 [.ref qs, .int th, .int la, .int (nI ln)], ar E qs 60 ce] := hD
        subst hwr_8
        have e1 : fltF (spPut (nI j) i th ln) = 3 := by simp [fltF, spPut, c_2, c_3, c_5]
        have hno : ¬ puOk (nI j) i th ln := fun h => c_5 h.2.2
        exact hret _ _ _ _ _ () dX6_put_51 hS (by rw [e1, if_neg hno]; exact hP) (by simp [spPut, c_2, c_3, c_5])
    ·
      refine lv_aload_n hx hb dX6_put_26 rfl (lv_at hl 0 rfl) ?_
      refine lv_iconst (v := 1) hx hb dX6_put_27 (by decide) ?_
      refine cwVi (As := [.int 1]) (rest := []) ⟨hx, hb, hml, hown, hts⟩ (c_X6_faulted l E _ g0 h0 k0 gs ht hd ho hr fo wy tr 0 1) (cwV 1 hts gX6_put_X6_faulted rfl rfl rfl (by decide +kernel) ⟨Nat.le_of_ble_eq_true rfl, Nat.le_of_ble_eq_true rfl⟩) hK hP hD hS hA [0] (by decide) rfl [g0] (fun _ => rfl) rfl 0 rfl rfl rfl rfl hl.1 rfl (catLe (Nat.le_of_ble_eq_true rfl)) dX6_put_28 ⟨Nat.zero_le _, Nat.zero_le _⟩ (fun r_10 u_11 H locs hwr_10 hP hD hS => ?_)
      have hP : va_P E.1 vwCl [ob g0 6 [.ref h0, .ref k0, .ref gs, .ref ht, .ref hd, .ref ho, .ref hr, .ref fo, .ref wy, .int tr, .int 1], aq E gs 4 sa, ob hs 3 [.ref qs, .int th, .int la, .int (nI ln)], ar E qs 60 ce] H := hP
      have hD : va_D A [ob g0 6 [.ref h0, .ref k0, .ref gs, .ref ht, .ref hd, .ref ho, .ref hr, .ref fo, .ref wy, .int tr, .int 1], aq E gs 4 sa, ob hs 3 [.ref qs, .int th, .int la, .int (nI ln)], ar E qs 60 ce] := hD
      subst hwr_10
      have e1 : fltF (spPut (nI j) i th ln) = 1 := by simp [fltF, spPut, c_2, c_3]
      have hno : ¬ puOk (nI j) i th ln := fun h => h.2.1 c_3
      exact hret _ _ _ _ _ () dX6_put_31 hS (by rw [e1, if_neg hno]; exact hP) (by simp [spPut, c_2, c_3])
  ·
    refine lv_iconst (v := (-1)) hx hb dX6_put_12 (by decide) ?_
    have e1 : fltF (spPut k i th ln) = 0 := by simp [fltF, spPut, c_2]
    have hno : ¬ puOk k i th ln := fun h => c_2 h.1
    exact hret _ _ _ _ _ () dX6_put_13 hS (by rw [e1, if_neg hno]; exact hP) (by simp [spPut, c_2])
set_option maxHeartbeats 4000000 in
set_option maxRecDepth 100000 in
theorem c_X6_cell (l : Launch) (E : gE) (sz : Nat) (g0 : Nat) (h0 : Nat) (k0 : Nat) (gs : Nat) (ht : Nat) (hd : Nat) (ho : Nat) (hr : Nat) (fo : Nat) (wy : Nat) (tr : Int32) (lf : Int32) (sa : Nat → Option Nat) (hs : Nat) (qs : Nat) (th : Int32) (la : Int32) (ln : Nat) (ce : Nat → Int32) (j : Nat) (k : Int32) (i : Int32) (lane : Int32) (hj4 : j < 4) (hsa : sa j = some hs) (hjs : shP k → k = nI j) (h60 : ln ≤ 60) : Met l yX6_cell wsX6_cell ({ frames := 2, cells := 0, slots := 0, locals := 48 }) (PW E [.ref g0, .int k, .int i, .int lane] [ob g0 6 [.ref h0, .ref k0, .ref gs, .ref ht, .ref hd, .ref ho, .ref hr, .ref fo, .ref wy, .int tr, .int lf], aq E gs 4 sa, ob hs 3 [.ref qs, .int th, .int la, .int (nI ln)], ar E qs 60 ce] sz) (QWl E (fun r _ => r = spCell k i lane th la ln ce) (fun (_ : Unit) => [ob g0 6 [.ref h0, .ref k0, .ref gs, .ref ht, .ref hd, .ref ho, .ref hr, .ref fo, .ref wy, .int tr, .int (fltF (rtK k lane i 1 1 th la ln))], aq E gs 4 sa, ob hs 3 [.ref qs, .int th, .int la, .int (nI ln)], ar E qs 60 ce]) (va_A [ob g0 6 [.ref h0, .ref k0, .ref gs, .ref ht, .ref hd, .ref ho, .ref hr, .ref fo, .ref wy, .int tr, .int lf], aq E gs 4 sa, ob hs 3 [.ref qs, .int th, .int la, .int (nI ln)], ar E qs 60 ce] sz)) 0 0 (va_A [ob g0 6 [.ref h0, .ref k0, .ref gs, .ref ht, .ref hd, .ref ho, .ref hr, .ref fo, .ref wy, .int tr, .int lf], aq E gs 4 sa, ob hs 3 [.ref qs, .int th, .int la, .int (nI ln)], ar E qs 60 ce] sz) := by
  refine mkWl (cc := cX6_cell) (maxL := 5) (by decide) rfl (Nat.le_of_ble_eq_true rfl) ?_
  intro p e s m args below meth c QQ A hx hb hml hown hmn hts hK hA hP hD hS hret ls hl
  have hown : s.vm.findClass RX6 = some m.cls := hown
  have hl : lv_has ls 5 [(0, .ref g0), (1, .int k), (2, .int i), (3, .int lane)] := hl
  have hinX6 : ∀ w ∈ wsX60, w ∈ wsX6_cell := by decide +kernel
  have fl_23 := hts (.fieldLink RX6 23 "GuardAbacus" "sheets" "[LGuardAbacus$Sheet;") (by decide +kernel)
  refine lv_aload_n hx hb dX6_cell_0 rfl (lv_at hl 0 rfl) ?_
  refine lv_iload_n hx hb dX6_cell_1 rfl (lv_at hl 1 rfl) ?_
  refine lv_iload_n hx hb dX6_cell_2 rfl (lv_at hl 3 rfl) ?_
  refine lv_iload_n hx hb dX6_cell_3 rfl (lv_at hl 2 rfl) ?_
  refine lv_iconst (v := 1) hx hb dX6_cell_4 (by decide) ?_
  refine lv_iconst (v := 1) hx hb dX6_cell_5 (by decide) ?_
  refine cwVi (As := [.int k, .int lane, .int i, .int 1, .int 1]) (rest := []) ⟨hx, hb, hml, hown, hts⟩ (c_X6_rowTrouble l E _ g0 h0 k0 gs ht hd ho hr fo wy tr lf sa hs qs th la ln j k lane i 1 1 (by first | assumption | omega) (by first | assumption | omega) (by first | assumption | omega)) (cwV 5 hts gX6_cell_X6_rowTrouble rfl rfl rfl (by decide +kernel) ⟨Nat.le_of_ble_eq_true rfl, Nat.le_of_ble_eq_true rfl⟩) hK hP hD hS hA [0, 1, 2] (by decide) rfl [g0, gs, hs] (fun _ => rfl) rfl 0 rfl rfl rfl rfl hl.1 rfl (catLe (Nat.le_of_ble_eq_true rfl)) dX6_cell_6 ⟨Nat.zero_le _, Nat.zero_le _⟩ (fun r_1 u_2 H locs hwr_1 hP hD hS => ?_)
  have hP : va_P E.1 vwCl [ob g0 6 [.ref h0, .ref k0, .ref gs, .ref ht, .ref hd, .ref ho, .ref hr, .ref fo, .ref wy, .int tr, .int (fltF (rtK k lane i 1 1 th la ln))], aq E gs 4 sa, ob hs 3 [.ref qs, .int th, .int la, .int (nI ln)], ar E qs 60 ce] H := hP
  have hD : va_D A [ob g0 6 [.ref h0, .ref k0, .ref gs, .ref ht, .ref hd, .ref ho, .ref hr, .ref fo, .ref wy, .int tr, .int (fltF (rtK k lane i 1 1 th la ln))], aq E gs 4 sa, ob hs 3 [.ref qs, .int th, .int la, .int (nI ln)], ar E qs 60 ce] := hD
  subst hwr_1
  refine lv_istore (lv' := [(4, .int (rtK k lane i 1 1 th la ln)), (0, .ref g0), (1, .int k), (2, .int i), (3, .int lane)]) hx hb dX6_cell_9 hl (by decide) rfl (fun ls hl => ?_)
  refine lv_iload hx hb dX6_cell_11 (lv_at hl 0 rfl) ?_
  refine lv_if_eq (tgt := 22) hx hb dX6_cell_13 (by decide) (fun c_3 => ?_) (fun c_3 => ?_)
  ·
    have hz := rtK_0 c_3
    have hsh := hjs hz.1
    subst hsh
    obtain ⟨a, rfl, ha⟩ := reach1 hz.2.2.2.2.2 h60
    have hixa : ix (nI a) = a := ix_nI (by omega)
    refine lv_aload_n hx hb dX6_cell_22 rfl (lv_at hl 1 rfl) ?_
    refine va_get (D := E.1) (ci := 6) (v := .ref gs) (C := RX6) (T := TX6) (N := 11) hx hb hts hinX6 hown hK.1 hP 0 rfl rfl 2 (by decide) fl_23 (fun _ h9 => h9) rfl dX6_cell_23 ?_
    refine lv_iload_n hx hb dX6_cell_26 rfl (lv_at hl 2 rfl) ?_
    refine ald hx hb hK hP 1 rfl (j := j) rfl (by omega) (by decide) (v := hs) hsa dX6_cell_27 ?_
    refine lv_iload_n hx hb dX6_cell_28 rfl (lv_at hl 3 rfl) ?_
    refine crV (As := [.int (nI a)]) (rest := []) ⟨hx, hb, hml, hown, hts⟩ (c_X3_at l E hs qs th la ln ce (nI a) a (by first | assumption | omega) (by first | assumption | omega) rfl) (cwV 1 hts gX6_cell_X3_at rfl rfl rfl (by decide +kernel) ⟨Nat.le_of_ble_eq_true rfl, Nat.le_of_ble_eq_true rfl⟩) hK hP [2, 3] rfl 0 rfl rfl rfl rfl hl.1 rfl (catLe (Nat.le_of_ble_eq_true rfl)) dX6_cell_29 ⟨Nat.zero_le _, Nat.zero_le _⟩ (fun r_4 hr_4 => ?_)
    subst hr_4
    refine lv_i2l hx hb dX6_cell_32 rfl ?_
    exact hret _ _ _ _ _ () dX6_cell_33 hS hP (by rw [spCell, if_pos c_3, hixa])
  ·
    refine lv_ldc2 hx hb hown (hts (.constantLong RX6 215 (-9223372036854775808)) (by decide +kernel)) dX6_cell_16 ?_
    refine lv_goto (tgt := 33) hx hb dX6_cell_19 (by decide) ?_
    exact hret _ _ _ _ _ () dX6_cell_33 hS hP (by rw [spCell, if_neg c_3])
set_option maxHeartbeats 4000000 in
set_option maxRecDepth 100000 in
theorem c_X6_copyS (l : Launch) (E : gE) (sz : Nat) (g0 : Nat) (h0 : Nat) (k0 : Nat) (gs : Nat) (ht : Nat) (hd : Nat) (ho : Nat) (hr : Nat) (fo : Nat) (wy : Nat) (tr : Int32) (lf : Int32) (sa : Nat → Option Nat) (hs : Nat) (qs : Nat) (th : Int32) (la : Int32) (ln : Nat) (ce : Nat → Int32) (j : Nat) (k : Int32) (i : Int32) (o : Int32) (x : Int32) (n : Int32) (hj4 : j < 4) (hsa : sa j = some hs) (hjs : shP k → k = nI j) (hjs2 : shP o → o = nI j) (h60 : ln ≤ 60) : Met l yX6_copy wsX6_copy ({ frames := 1, cells := 0, slots := 0, locals := 22 }) (PW E [.ref g0, .int k, .int i, .int o, .int x, .int n] [ob g0 6 [.ref h0, .ref k0, .ref gs, .ref ht, .ref hd, .ref ho, .ref hr, .ref fo, .ref wy, .int tr, .int lf], aq E gs 4 sa, ob hs 3 [.ref qs, .int th, .int la, .int (nI ln)], ar E qs 60 ce] sz) (QWi E (fun r _ => r = spCopy k i o x n th la th la ln ln) (fun (_ : Unit) => [ob g0 6 [.ref h0, .ref k0, .ref gs, .ref ht, .ref hd, .ref ho, .ref hr, .ref fo, .ref wy, .int tr, .int (fltF (spCopy k i o x n th la th la ln ln))], aq E gs 4 sa, ob hs 3 [.ref qs, .int th, .int la, .int (nI ln)], ar E qs 60 (if cpOk k i o x n th la th la ln ln then va_cpy ce ce (ix i) (ix x) (ix n) else ce)]) (va_A [ob g0 6 [.ref h0, .ref k0, .ref gs, .ref ht, .ref hd, .ref ho, .ref hr, .ref fo, .ref wy, .int tr, .int lf], aq E gs 4 sa, ob hs 3 [.ref qs, .int th, .int la, .int (nI ln)], ar E qs 60 ce] sz)) 0 0 (va_A [ob g0 6 [.ref h0, .ref k0, .ref gs, .ref ht, .ref hd, .ref ho, .ref hr, .ref fo, .ref wy, .int tr, .int lf], aq E gs 4 sa, ob hs 3 [.ref qs, .int th, .int la, .int (nI ln)], ar E qs 60 ce] sz) := by
  refine mkWi (cc := cX6_copy) (maxL := 8) (by decide) rfl (Nat.le_of_ble_eq_true rfl) ?_
  intro p e s m args below meth c QQ A hx hb hml hown hmn hts hK hA hP hD hS hret ls hl
  have hown : s.vm.findClass RX6 = some m.cls := hown
  have hl : lv_has ls 8 [(0, .ref g0), (1, .int k), (2, .int i), (3, .int o), (4, .int x), (5, .int n)] := hl
  have hinX3 : ∀ w ∈ wsX30, w ∈ wsX6_copy := by decide +kernel
  have hinX6 : ∀ w ∈ wsX60, w ∈ wsX6_copy := by decide +kernel
  have fl_23 := hts (.fieldLink RX6 23 "GuardAbacus" "sheets" "[LGuardAbacus$Sheet;") (by decide +kernel)
  have fl_67 := hts (.fieldLink RX6 67 "GuardAbacus" "lastFault" "I") (by decide +kernel)
  have fl_237 := hts (.fieldLink RX6 237 "GuardAbacus$Sheet" "isThere" "Z") (by decide +kernel)
  have fl_248 := hts (.fieldLink RX6 248 "GuardAbacus$Sheet" "lane" "I") (by decide +kernel)
  have fl_251 := hts (.fieldLink RX6 251 "GuardAbacus$Sheet" "cells" "[I") (by decide +kernel)
  refine lv_aload_n hx hb dX6_copy_0 rfl (lv_at hl 0 rfl) ?_
  refine lv_iconst (v := 0) hx hb dX6_copy_1 (by decide) ?_
  refine va_put (D := E.1) (ci := 6) (v := .int 0) (ty := .int) (C := RX6) (T := TX6) (N := 11) hx hb hts hinX6 tyX6 tyX6_ok nmX6 hown hK.1 hP hD hS 0 rfl rfl 10 (by decide) fl_67 (fun _ h9 => h9) rfl (by decide +kernel) rfl rfl (Nat.le_of_ble_eq_true rfl) dX6_copy_2 (fun H locs hP hD hS => ?_)
  have hP : va_P E.1 vwCl [ob g0 6 [.ref h0, .ref k0, .ref gs, .ref ht, .ref hd, .ref ho, .ref hr, .ref fo, .ref wy, .int tr, .int 0], aq E gs 4 sa, ob hs 3 [.ref qs, .int th, .int la, .int (nI ln)], ar E qs 60 ce] H := hP
  have hD : va_D A [ob g0 6 [.ref h0, .ref k0, .ref gs, .ref ht, .ref hd, .ref ho, .ref hr, .ref fo, .ref wy, .int tr, .int 0], aq E gs 4 sa, ob hs 3 [.ref qs, .int th, .int la, .int (nI ln)], ar E qs 60 ce] := hD
  refine lv_iload_n hx hb dX6_copy_5 rfl (lv_at hl 1 rfl) ?_
  refine crS (As := [.int k]) (rest := []) ⟨hx, hb, hml, hown, hts⟩ (c_X6_isSheet l E k) (va_cwS 1 hts gX6_copy_X6_isSheet rfl rfl rfl (by decide +kernel) ⟨Nat.le_of_ble_eq_true rfl, Nat.le_of_ble_eq_true rfl⟩) hK hP [] rfl rfl hl.1 rfl (catLe (Nat.le_of_ble_eq_true rfl)) dX6_copy_6 ⟨Nat.zero_le _, Nat.zero_le _⟩ (fun r_1 hr_1 => ?_)
  subst hr_1
  refine ifB_eq (P := shP k) (tgt := 19) hx hb dX6_copy_9 (by decide) (fun c_2 => ?_) (fun c_2 => ?_)
  ·
    refine lv_iconst (v := (-1)) hx hb dX6_copy_19 (by decide) ?_
    have e0 : spCopy k i o x n th la th la ln ln = -1 := by rw [spCopy, if_pos c_2]
    have e1 : fltF (spCopy k i o x n th la th la ln ln) = 0 := by rw [e0]; rfl
    have hno : ¬ cpOk k i o x n th la th la ln ln := fun h => c_2 h.1
    exact hret _ _ _ _ _ () dX6_copy_20 hS (by rw [e1, if_neg hno]; exact hP) e0.symm
  ·
    have hsh := hjs c_2
    subst hsh
    refine lv_iload_n hx hb dX6_copy_12 rfl (lv_at hl 3 rfl) ?_
    refine crS (As := [.int o]) (rest := []) ⟨hx, hb, hml, hown, hts⟩ (c_X6_isSheet l E o) (va_cwS 1 hts gX6_copy_X6_isSheet rfl rfl rfl (by decide +kernel) ⟨Nat.le_of_ble_eq_true rfl, Nat.le_of_ble_eq_true rfl⟩) hK hP [] rfl rfl hl.1 rfl (catLe (Nat.le_of_ble_eq_true rfl)) dX6_copy_13 ⟨Nat.zero_le _, Nat.zero_le _⟩ (fun r_3 hr_3 => ?_)
    subst hr_3
    refine ifB_ne (P := shP o) (tgt := 21) hx hb dX6_copy_16 (by decide) (fun c_4 => ?_) (fun c_4 => ?_)
    ·
      have hsh2 := hjs2 c_4
      subst hsh2
      refine lv_aload_n hx hb dX6_copy_21 rfl (lv_at hl 0 rfl) ?_
      refine va_get (D := E.1) (ci := 6) (v := .ref gs) (C := RX6) (T := TX6) (N := 11) hx hb hts hinX6 hown hK.1 hP 0 rfl rfl 2 (by decide) fl_23 (fun _ h9 => h9) rfl dX6_copy_22 ?_
      refine lv_iload_n hx hb dX6_copy_25 rfl (lv_at hl 1 rfl) ?_
      refine ald hx hb hK hP 1 rfl (j := j) rfl (by omega) (by decide) (v := hs) hsa dX6_copy_26 ?_
      refine lv_astore (lv' := [(6, .ref hs), (0, .ref g0), (1, .int (nI j)), (2, .int i), (3, .int (nI j)), (4, .int x), (5, .int n)]) hx hb dX6_copy_27 hl (by decide) rfl (fun ls hl => ?_)
      refine lv_aload_n hx hb dX6_copy_29 rfl (lv_at hl 1 rfl) ?_
      refine va_get (D := E.1) (ci := 6) (v := .ref gs) (C := RX6) (T := TX6) (N := 11) hx hb hts hinX6 hown hK.1 hP 0 rfl rfl 2 (by decide) fl_23 (fun _ h9 => h9) rfl dX6_copy_30 ?_
      refine lv_iload_n hx hb dX6_copy_33 rfl (lv_at hl 4 rfl) ?_
      refine ald hx hb hK hP 1 rfl (j := j) rfl (by omega) (by decide) (v := hs) hsa dX6_copy_34 ?_
      refine lv_astore (lv' := [(7, .ref hs), (6, .ref hs), (0, .ref g0), (1, .int (nI j)), (2, .int i), (3, .int (nI j)), (4, .int x), (5, .int n)]) hx hb dX6_copy_35 hl (by decide) rfl (fun ls hl => ?_)
      refine lv_aload hx hb dX6_copy_37 (lv_at hl 1 rfl) ?_
      refine va_get (D := E.1) (ci := 3) (v := .int th) (C := RX3) (T := TX3) (N := 4) hx hb hts hinX3 hown hK.1 hP 2 rfl rfl 1 (by decide) fl_237 (fun _ h9 => h9) rfl dX6_copy_39 ?_
      refine lv_if_eq (tgt := 53) hx hb dX6_copy_42 (by decide) (fun c_5 => ?_) (fun c_5 => ?_)
      ·
        refine lv_aload_n hx hb dX6_copy_53 rfl (lv_at hl 2 rfl) ?_
        refine lv_iconst (v := 1) hx hb dX6_copy_54 (by decide) ?_
        refine cwVi (As := [.int 1]) (rest := []) ⟨hx, hb, hml, hown, hts⟩ (c_X6_faulted l E _ g0 h0 k0 gs ht hd ho hr fo wy tr 0 1) (cwV 1 hts gX6_copy_X6_faulted rfl rfl rfl (by decide +kernel) ⟨Nat.le_of_ble_eq_true rfl, Nat.le_of_ble_eq_true rfl⟩) hK hP hD hS hA [0] (by decide) rfl [g0] (fun _ => rfl) rfl 0 rfl rfl rfl rfl hl.1 rfl (catLe (Nat.le_of_ble_eq_true rfl)) dX6_copy_55 ⟨Nat.zero_le _, Nat.zero_le _⟩ (fun r_6 u_7 H locs hwr_6 hP hD hS => ?_)
        have hP : va_P E.1 vwCl [ob g0 6 [.ref h0, .ref k0, .ref gs, .ref ht, .ref hd, .ref ho, .ref hr, .ref fo, .ref wy, .int tr, .int 1], aq E gs 4 sa, ob hs 3 [.ref qs, .int th, .int la, .int (nI ln)], ar E qs 60 ce] H := hP
        have hD : va_D A [ob g0 6 [.ref h0, .ref k0, .ref gs, .ref ht, .ref hd, .ref ho, .ref hr, .ref fo, .ref wy, .int tr, .int 1], aq E gs 4 sa, ob hs 3 [.ref qs, .int th, .int la, .int (nI ln)], ar E qs 60 ce] := hD
        subst hwr_6
        have e0 : spCopy (nI j) i (nI j) x n th la th la ln ln = -11 := by rw [spCopy, if_neg (not_not_intro c_2), if_neg (not_not_intro c_4), if_pos c_5]
        have e1 : fltF (spCopy (nI j) i (nI j) x n th la th la ln ln) = 1 := by rw [e0]; rfl
        have hno : ¬ cpOk (nI j) i (nI j) x n th la th la ln ln := fun h => h.2.2.1 c_5
        exact hret _ _ _ _ _ () dX6_copy_58 hS (by rw [e1, if_neg hno]; exact hP) e0.symm
      ·
        refine lv_aload hx hb dX6_copy_45 (lv_at hl 0 rfl) ?_
        refine va_get (D := E.1) (ci := 3) (v := .int th) (C := RX3) (T := TX3) (N := 4) hx hb hts hinX3 hown hK.1 hP 2 rfl rfl 1 (by decide) fl_237 (fun _ h9 => h9) rfl dX6_copy_47 ?_
        refine lv_if_ne (tgt := 59) hx hb dX6_copy_50 (by decide) (fun c_8 => ?_) (fun c_8 => ?_)
        ·
          refine lv_aload hx hb dX6_copy_59 (lv_at hl 1 rfl) ?_
          refine va_get (D := E.1) (ci := 3) (v := .int la) (C := RX3) (T := TX3) (N := 4) hx hb hts hinX3 hown hK.1 hP 2 rfl rfl 2 (by decide) fl_248 (fun _ h9 => h9) rfl dX6_copy_61 ?_
          refine lv_aload hx hb dX6_copy_64 (lv_at hl 0 rfl) ?_
          refine va_get (D := E.1) (ci := 3) (v := .int la) (C := RX3) (T := TX3) (N := 4) hx hb hts hinX3 hown hK.1 hP 2 rfl rfl 2 (by decide) fl_248 (fun _ h9 => h9) rfl dX6_copy_66 ?_
          refine lv_icmp_eq (tgt := 78) hx hb dX6_copy_69 (by decide) (fun c_9 => ?_) (fun c_9 => ?_)
          ·
            refine lv_aload hx hb dX6_copy_78 (lv_at hl 1 rfl) ?_
            refine lv_iload_n hx hb dX6_copy_80 rfl (lv_at hl 4 rfl) ?_
            refine lv_iload hx hb dX6_copy_81 (lv_at hl 7 rfl) ?_
            refine crV (As := [.int i, .int n]) (rest := []) ⟨hx, hb, hml, hown, hts⟩ (c_X3_reaches l E hs qs th la ln i n) (cwV 2 hts gX6_copy_X3_reaches rfl rfl rfl (by decide +kernel) ⟨Nat.le_of_ble_eq_true rfl, Nat.le_of_ble_eq_true rfl⟩) hK hP [2] rfl 0 rfl rfl rfl rfl hl.1 rfl (catLe (Nat.le_of_ble_eq_true rfl)) dX6_copy_83 ⟨Nat.zero_le _, Nat.zero_le _⟩ (fun r_10 hr_10 => ?_)
            subst hr_10
            refine ifB_eq (P := reachP ln i n) (tgt := 101) hx hb dX6_copy_86 (by decide) (fun c_11 => ?_) (fun c_11 => ?_)
            ·
              refine lv_aload_n hx hb dX6_copy_101 rfl (lv_at hl 2 rfl) ?_
              refine lv_iconst (v := 3) hx hb dX6_copy_102 (by decide) ?_
              refine cwVi (As := [.int 3]) (rest := []) ⟨hx, hb, hml, hown, hts⟩ (c_X6_faulted l E _ g0 h0 k0 gs ht hd ho hr fo wy tr 0 3) (cwV 1 hts gX6_copy_X6_faulted rfl rfl rfl (by decide +kernel) ⟨Nat.le_of_ble_eq_true rfl, Nat.le_of_ble_eq_true rfl⟩) hK hP hD hS hA [0] (by decide) rfl [g0] (fun _ => rfl) rfl 0 rfl rfl rfl rfl hl.1 rfl (catLe (Nat.le_of_ble_eq_true rfl)) dX6_copy_103 ⟨Nat.zero_le _, Nat.zero_le _⟩ (fun r_12 u_13 H locs hwr_12 hP hD hS => ?_)
              have hP : va_P E.1 vwCl [ob g0 6 [.ref h0, .ref k0, .ref gs, .ref ht, .ref hd, .ref ho, .ref hr, .ref fo, .ref wy, .int tr, .int 3], aq E gs 4 sa, ob hs 3 [.ref qs, .int th, .int la, .int (nI ln)], ar E qs 60 ce] H := hP
              have hD : va_D A [ob g0 6 [.ref h0, .ref k0, .ref gs, .ref ht, .ref hd, .ref ho, .ref hr, .ref fo, .ref wy, .int tr, .int 3], aq E gs 4 sa, ob hs 3 [.ref qs, .int th, .int la, .int (nI ln)], ar E qs 60 ce] := hD
              subst hwr_12
              have e0 : spCopy (nI j) i (nI j) x n th la th la ln ln = -13 := by rw [spCopy, if_neg (not_not_intro c_2), if_neg (not_not_intro c_4), if_neg c_5, if_neg c_8, if_neg (not_not_intro rfl), if_pos c_11]
              have e1 : fltF (spCopy (nI j) i (nI j) x n th la th la ln ln) = 3 := by rw [e0]; rfl
              have hno : ¬ cpOk (nI j) i (nI j) x n th la th la ln ln := fun h => c_11 h.2.2.2.2.2.1
              exact hret _ _ _ _ _ () dX6_copy_106 hS (by rw [e1, if_neg hno]; exact hP) e0.symm
            ·
              refine lv_aload hx hb dX6_copy_89 (lv_at hl 0 rfl) ?_
              refine lv_iload hx hb dX6_copy_91 (lv_at hl 6 rfl) ?_
              refine lv_iload hx hb dX6_copy_93 (lv_at hl 7 rfl) ?_
              refine crV (As := [.int x, .int n]) (rest := []) ⟨hx, hb, hml, hown, hts⟩ (c_X3_reaches l E hs qs th la ln x n) (cwV 2 hts gX6_copy_X3_reaches rfl rfl rfl (by decide +kernel) ⟨Nat.le_of_ble_eq_true rfl, Nat.le_of_ble_eq_true rfl⟩) hK hP [2] rfl 0 rfl rfl rfl rfl hl.1 rfl (catLe (Nat.le_of_ble_eq_true rfl)) dX6_copy_95 ⟨Nat.zero_le _, Nat.zero_le _⟩ (fun r_14 hr_14 => ?_)
              subst hr_14
              refine ifB_ne (P := reachP ln x n) (tgt := 107) hx hb dX6_copy_98 (by decide) (fun c_15 => ?_) (fun c_15 => ?_)
              ·
                have hok : cpOk (nI j) i (nI j) x n th la th la ln ln := ⟨c_2, c_4, c_5, c_8, rfl, c_11, c_15⟩
                obtain ⟨a, b, rfl, rfl, hab⟩ := reach_nat c_11 h60
                obtain ⟨a2, rfl, hab2⟩ := reach2 c_15 h60 (by omega)
                have hixa : ix (nI a) = a := ix_nI (by omega)
                have hixb : ix (nI b) = b := ix_nI (by omega)
                have hixa2 : ix (nI a2) = a2 := ix_nI (by omega)
                refine lv_aload hx hb dX6_copy_107 (lv_at hl 1 rfl) ?_
                refine va_get (D := E.1) (ci := 3) (v := .ref qs) (C := RX3) (T := TX3) (N := 4) hx hb hts hinX3 hown hK.1 hP 2 rfl rfl 0 (by decide) fl_251 (fun _ h9 => h9) rfl dX6_copy_109 ?_
                refine lv_iload_n hx hb dX6_copy_112 rfl (lv_at hl 4 rfl) ?_
                refine lv_aload hx hb dX6_copy_113 (lv_at hl 0 rfl) ?_
                refine va_get (D := E.1) (ci := 3) (v := .ref qs) (C := RX3) (T := TX3) (N := 4) hx hb hts hinX3 hown hK.1 hP 2 rfl rfl 0 (by decide) fl_251 (fun _ h9 => h9) rfl dX6_copy_115 ?_
                refine lv_iload hx hb dX6_copy_118 (lv_at hl 6 rfl) ?_
                refine lv_iload hx hb dX6_copy_120 (lv_at hl 7 rfl) ?_
                refine va_copyi hx hb (hml.trans hl.1.symm) hown (hts (.methodLink RX6 254 arraycopyName) (by decide +kernel)) (hts (.native arraycopyName) (by decide +kernel)) (hts (.static arraycopyName) (by decide +kernel)) (hts (.initialized "java/lang/System") (by decide +kernel)) hK.1 hP hD hS 3 3 0 0 (ty := .int) rfl rfl rfl rfl rfl (nI_pos (by omega)) (nI_pos (by omega)) (nI_pos (by omega)) (by rw [nI_clamp (by omega), nI_clamp (by omega)]; omega) (by rw [nI_clamp (by omega), nI_clamp (by omega)]; omega) (fun _ _ => rfl) (Nat.le_of_ble_eq_true rfl) (Nat.le_of_ble_eq_true rfl) dX6_copy_122 (fun H locs hP hD hS => ?_)
                have hP : va_P E.1 vwCl [ob g0 6 [.ref h0, .ref k0, .ref gs, .ref ht, .ref hd, .ref ho, .ref hr, .ref fo, .ref wy, .int tr, .int 0], aq E gs 4 sa, ob hs 3 [.ref qs, .int th, .int la, .int (nI ln)], ar E qs 60 (va_cpy ce ce (ix (nI a)) (ix (nI a2)) (ix (nI b)))] H := hP
                have hD : va_D A [ob g0 6 [.ref h0, .ref k0, .ref gs, .ref ht, .ref hd, .ref ho, .ref hr, .ref fo, .ref wy, .int tr, .int 0], aq E gs 4 sa, ob hs 3 [.ref qs, .int th, .int la, .int (nI ln)], ar E qs 60 (va_cpy ce ce (ix (nI a)) (ix (nI a2)) (ix (nI b)))] := hD
                refine lv_iload hx hb dX6_copy_125 (lv_at hl 7 rfl) ?_
                have e0 : spCopy (nI j) (nI a) (nI j) (nI a2) (nI b) th la th la ln ln = nI b := by rw [spCopy, if_neg (not_not_intro c_2), if_neg (not_not_intro c_4), if_neg c_5, if_neg c_8, if_neg (not_not_intro rfl), if_neg (not_not_intro c_11), if_neg (not_not_intro c_15)]
                have e1 : fltF (spCopy (nI j) (nI a) (nI j) (nI a2) (nI b) th la th la ln ln) = 0 := by rw [e0]; exact flt_nI (by omega)
                exact hret _ _ _ _ _ () dX6_copy_127 hS (by rw [e1, if_pos hok]; exact hP) e0.symm
              ·
                refine lv_aload_n hx hb dX6_copy_101 rfl (lv_at hl 2 rfl) ?_
                refine lv_iconst (v := 3) hx hb dX6_copy_102 (by decide) ?_
                refine cwVi (As := [.int 3]) (rest := []) ⟨hx, hb, hml, hown, hts⟩ (c_X6_faulted l E _ g0 h0 k0 gs ht hd ho hr fo wy tr 0 3) (cwV 1 hts gX6_copy_X6_faulted rfl rfl rfl (by decide +kernel) ⟨Nat.le_of_ble_eq_true rfl, Nat.le_of_ble_eq_true rfl⟩) hK hP hD hS hA [0] (by decide) rfl [g0] (fun _ => rfl) rfl 0 rfl rfl rfl rfl hl.1 rfl (catLe (Nat.le_of_ble_eq_true rfl)) dX6_copy_103 ⟨Nat.zero_le _, Nat.zero_le _⟩ (fun r_16 u_17 H locs hwr_16 hP hD hS => ?_)
                have hP : va_P E.1 vwCl [ob g0 6 [.ref h0, .ref k0, .ref gs, .ref ht, .ref hd, .ref ho, .ref hr, .ref fo, .ref wy, .int tr, .int 3], aq E gs 4 sa, ob hs 3 [.ref qs, .int th, .int la, .int (nI ln)], ar E qs 60 ce] H := hP
                have hD : va_D A [ob g0 6 [.ref h0, .ref k0, .ref gs, .ref ht, .ref hd, .ref ho, .ref hr, .ref fo, .ref wy, .int tr, .int 3], aq E gs 4 sa, ob hs 3 [.ref qs, .int th, .int la, .int (nI ln)], ar E qs 60 ce] := hD
                subst hwr_16
                have e0 : spCopy (nI j) i (nI j) x n th la th la ln ln = -13 := by rw [spCopy, if_neg (not_not_intro c_2), if_neg (not_not_intro c_4), if_neg c_5, if_neg c_8, if_neg (not_not_intro rfl), if_neg (not_not_intro c_11), if_pos c_15]
                have e1 : fltF (spCopy (nI j) i (nI j) x n th la th la ln ln) = 3 := by rw [e0]; rfl
                have hno : ¬ cpOk (nI j) i (nI j) x n th la th la ln ln := fun h => c_15 h.2.2.2.2.2.2
                exact hret _ _ _ _ _ () dX6_copy_106 hS (by rw [e1, if_neg hno]; exact hP) e0.symm
          ·
            exact absurd rfl c_9
        ·
          refine lv_aload_n hx hb dX6_copy_53 rfl (lv_at hl 2 rfl) ?_
          refine lv_iconst (v := 1) hx hb dX6_copy_54 (by decide) ?_
          refine cwVi (As := [.int 1]) (rest := []) ⟨hx, hb, hml, hown, hts⟩ (c_X6_faulted l E _ g0 h0 k0 gs ht hd ho hr fo wy tr 0 1) (cwV 1 hts gX6_copy_X6_faulted rfl rfl rfl (by decide +kernel) ⟨Nat.le_of_ble_eq_true rfl, Nat.le_of_ble_eq_true rfl⟩) hK hP hD hS hA [0] (by decide) rfl [g0] (fun _ => rfl) rfl 0 rfl rfl rfl rfl hl.1 rfl (catLe (Nat.le_of_ble_eq_true rfl)) dX6_copy_55 ⟨Nat.zero_le _, Nat.zero_le _⟩ (fun r_18 u_19 H locs hwr_18 hP hD hS => ?_)
          have hP : va_P E.1 vwCl [ob g0 6 [.ref h0, .ref k0, .ref gs, .ref ht, .ref hd, .ref ho, .ref hr, .ref fo, .ref wy, .int tr, .int 1], aq E gs 4 sa, ob hs 3 [.ref qs, .int th, .int la, .int (nI ln)], ar E qs 60 ce] H := hP
          have hD : va_D A [ob g0 6 [.ref h0, .ref k0, .ref gs, .ref ht, .ref hd, .ref ho, .ref hr, .ref fo, .ref wy, .int tr, .int 1], aq E gs 4 sa, ob hs 3 [.ref qs, .int th, .int la, .int (nI ln)], ar E qs 60 ce] := hD
          subst hwr_18
          have e0 : spCopy (nI j) i (nI j) x n th la th la ln ln = -11 := by rw [spCopy, if_neg (not_not_intro c_2), if_neg (not_not_intro c_4), if_neg c_5, if_pos c_8]
          have e1 : fltF (spCopy (nI j) i (nI j) x n th la th la ln ln) = 1 := by rw [e0]; rfl
          have hno : ¬ cpOk (nI j) i (nI j) x n th la th la ln ln := fun h => h.2.2.2.1 c_8
          exact hret _ _ _ _ _ () dX6_copy_58 hS (by rw [e1, if_neg hno]; exact hP) e0.symm
    ·
      refine lv_iconst (v := (-1)) hx hb dX6_copy_19 (by decide) ?_
      have e0 : spCopy (nI j) i o x n th la th la ln ln = -1 := by rw [spCopy, if_neg (not_not_intro c_2), if_pos c_4]
      have e1 : fltF (spCopy (nI j) i o x n th la th la ln ln) = 0 := by rw [e0]; rfl
      have hno : ¬ cpOk (nI j) i o x n th la th la ln ln := fun h => c_4 h.2.1
      exact hret _ _ _ _ _ () dX6_copy_20 hS (by rw [e1, if_neg hno]; exact hP) e0.symm
set_option maxHeartbeats 4000000 in
set_option maxRecDepth 100000 in
theorem c_X6_copyD (l : Launch) (E : gE) (sz : Nat) (g0 : Nat) (h0 : Nat) (k0 : Nat) (gs : Nat) (ht : Nat) (hd : Nat) (ho : Nat) (hr : Nat) (fo : Nat) (wy : Nat) (tr : Int32) (lf : Int32) (sa : Nat → Option Nat) (hs : Nat) (qs : Nat) (th : Int32) (la : Int32) (ln : Nat) (ce : Nat → Int32) (hs2 : Nat) (qs2 : Nat) (th2 : Int32) (la2 : Int32) (ln2 : Nat) (ce2 : Nat → Int32) (j : Nat) (j2 : Nat) (k : Int32) (i : Int32) (o : Int32) (x : Int32) (n : Int32) (hj4 : j < 4) (hsa : sa j = some hs) (hjs : shP k → k = nI j) (hj42 : j2 < 4) (hsa2 : sa j2 = some hs2) (hjs2 : shP o → o = nI j2) (h60 : ln ≤ 60) (h602 : ln2 ≤ 60) : Met l yX6_copy wsX6_copy ({ frames := 1, cells := 0, slots := 0, locals := 22 }) (PW E [.ref g0, .int k, .int i, .int o, .int x, .int n] [ob g0 6 [.ref h0, .ref k0, .ref gs, .ref ht, .ref hd, .ref ho, .ref hr, .ref fo, .ref wy, .int tr, .int lf], aq E gs 4 sa, ob hs 3 [.ref qs, .int th, .int la, .int (nI ln)], ar E qs 60 ce, ob hs2 3 [.ref qs2, .int th2, .int la2, .int (nI ln2)], ar E qs2 60 ce2] sz) (QWi E (fun r _ => r = spCopy k i o x n th la th2 la2 ln ln2) (fun (_ : Unit) => [ob g0 6 [.ref h0, .ref k0, .ref gs, .ref ht, .ref hd, .ref ho, .ref hr, .ref fo, .ref wy, .int tr, .int (fltF (spCopy k i o x n th la th2 la2 ln ln2))], aq E gs 4 sa, ob hs 3 [.ref qs, .int th, .int la, .int (nI ln)], ar E qs 60 ce, ob hs2 3 [.ref qs2, .int th2, .int la2, .int (nI ln2)], ar E qs2 60 (if cpOk k i o x n th la th2 la2 ln ln2 then va_cpy ce ce2 (ix i) (ix x) (ix n) else ce2)]) (va_A [ob g0 6 [.ref h0, .ref k0, .ref gs, .ref ht, .ref hd, .ref ho, .ref hr, .ref fo, .ref wy, .int tr, .int lf], aq E gs 4 sa, ob hs 3 [.ref qs, .int th, .int la, .int (nI ln)], ar E qs 60 ce, ob hs2 3 [.ref qs2, .int th2, .int la2, .int (nI ln2)], ar E qs2 60 ce2] sz)) 0 0 (va_A [ob g0 6 [.ref h0, .ref k0, .ref gs, .ref ht, .ref hd, .ref ho, .ref hr, .ref fo, .ref wy, .int tr, .int lf], aq E gs 4 sa, ob hs 3 [.ref qs, .int th, .int la, .int (nI ln)], ar E qs 60 ce, ob hs2 3 [.ref qs2, .int th2, .int la2, .int (nI ln2)], ar E qs2 60 ce2] sz) := by
  refine mkWi (cc := cX6_copy) (maxL := 8) (by decide) rfl (Nat.le_of_ble_eq_true rfl) ?_
  intro p e s m args below meth c QQ A hx hb hml hown hmn hts hK hA hP hD hS hret ls hl
  have hown : s.vm.findClass RX6 = some m.cls := hown
  have hl : lv_has ls 8 [(0, .ref g0), (1, .int k), (2, .int i), (3, .int o), (4, .int x), (5, .int n)] := hl
  have hinX3 : ∀ w ∈ wsX30, w ∈ wsX6_copy := by decide +kernel
  have hinX6 : ∀ w ∈ wsX60, w ∈ wsX6_copy := by decide +kernel
  have fl_23 := hts (.fieldLink RX6 23 "GuardAbacus" "sheets" "[LGuardAbacus$Sheet;") (by decide +kernel)
  have fl_67 := hts (.fieldLink RX6 67 "GuardAbacus" "lastFault" "I") (by decide +kernel)
  have fl_237 := hts (.fieldLink RX6 237 "GuardAbacus$Sheet" "isThere" "Z") (by decide +kernel)
  have fl_248 := hts (.fieldLink RX6 248 "GuardAbacus$Sheet" "lane" "I") (by decide +kernel)
  have fl_251 := hts (.fieldLink RX6 251 "GuardAbacus$Sheet" "cells" "[I") (by decide +kernel)
  refine lv_aload_n hx hb dX6_copy_0 rfl (lv_at hl 0 rfl) ?_
  refine lv_iconst (v := 0) hx hb dX6_copy_1 (by decide) ?_
  refine va_put (D := E.1) (ci := 6) (v := .int 0) (ty := .int) (C := RX6) (T := TX6) (N := 11) hx hb hts hinX6 tyX6 tyX6_ok nmX6 hown hK.1 hP hD hS 0 rfl rfl 10 (by decide) fl_67 (fun _ h9 => h9) rfl (by decide +kernel) rfl rfl (Nat.le_of_ble_eq_true rfl) dX6_copy_2 (fun H locs hP hD hS => ?_)
  have hP : va_P E.1 vwCl [ob g0 6 [.ref h0, .ref k0, .ref gs, .ref ht, .ref hd, .ref ho, .ref hr, .ref fo, .ref wy, .int tr, .int 0], aq E gs 4 sa, ob hs 3 [.ref qs, .int th, .int la, .int (nI ln)], ar E qs 60 ce, ob hs2 3 [.ref qs2, .int th2, .int la2, .int (nI ln2)], ar E qs2 60 ce2] H := hP
  have hD : va_D A [ob g0 6 [.ref h0, .ref k0, .ref gs, .ref ht, .ref hd, .ref ho, .ref hr, .ref fo, .ref wy, .int tr, .int 0], aq E gs 4 sa, ob hs 3 [.ref qs, .int th, .int la, .int (nI ln)], ar E qs 60 ce, ob hs2 3 [.ref qs2, .int th2, .int la2, .int (nI ln2)], ar E qs2 60 ce2] := hD
  refine lv_iload_n hx hb dX6_copy_5 rfl (lv_at hl 1 rfl) ?_
  refine crS (As := [.int k]) (rest := []) ⟨hx, hb, hml, hown, hts⟩ (c_X6_isSheet l E k) (va_cwS 1 hts gX6_copy_X6_isSheet rfl rfl rfl (by decide +kernel) ⟨Nat.le_of_ble_eq_true rfl, Nat.le_of_ble_eq_true rfl⟩) hK hP [] rfl rfl hl.1 rfl (catLe (Nat.le_of_ble_eq_true rfl)) dX6_copy_6 ⟨Nat.zero_le _, Nat.zero_le _⟩ (fun r_1 hr_1 => ?_)
  subst hr_1
  refine ifB_eq (P := shP k) (tgt := 19) hx hb dX6_copy_9 (by decide) (fun c_2 => ?_) (fun c_2 => ?_)
  ·
    refine lv_iconst (v := (-1)) hx hb dX6_copy_19 (by decide) ?_
    have e0 : spCopy k i o x n th la th2 la2 ln ln2 = -1 := by rw [spCopy, if_pos c_2]
    have e1 : fltF (spCopy k i o x n th la th2 la2 ln ln2) = 0 := by rw [e0]; rfl
    have hno : ¬ cpOk k i o x n th la th2 la2 ln ln2 := fun h => c_2 h.1
    exact hret _ _ _ _ _ () dX6_copy_20 hS (by rw [e1, if_neg hno]; exact hP) e0.symm
  ·
    have hsh := hjs c_2
    subst hsh
    refine lv_iload_n hx hb dX6_copy_12 rfl (lv_at hl 3 rfl) ?_
    refine crS (As := [.int o]) (rest := []) ⟨hx, hb, hml, hown, hts⟩ (c_X6_isSheet l E o) (va_cwS 1 hts gX6_copy_X6_isSheet rfl rfl rfl (by decide +kernel) ⟨Nat.le_of_ble_eq_true rfl, Nat.le_of_ble_eq_true rfl⟩) hK hP [] rfl rfl hl.1 rfl (catLe (Nat.le_of_ble_eq_true rfl)) dX6_copy_13 ⟨Nat.zero_le _, Nat.zero_le _⟩ (fun r_3 hr_3 => ?_)
    subst hr_3
    refine ifB_ne (P := shP o) (tgt := 21) hx hb dX6_copy_16 (by decide) (fun c_4 => ?_) (fun c_4 => ?_)
    ·
      have hsh2 := hjs2 c_4
      subst hsh2
      refine lv_aload_n hx hb dX6_copy_21 rfl (lv_at hl 0 rfl) ?_
      refine va_get (D := E.1) (ci := 6) (v := .ref gs) (C := RX6) (T := TX6) (N := 11) hx hb hts hinX6 hown hK.1 hP 0 rfl rfl 2 (by decide) fl_23 (fun _ h9 => h9) rfl dX6_copy_22 ?_
      refine lv_iload_n hx hb dX6_copy_25 rfl (lv_at hl 1 rfl) ?_
      refine ald hx hb hK hP 1 rfl (j := j) rfl (by omega) (by decide) (v := hs) hsa dX6_copy_26 ?_
      refine lv_astore (lv' := [(6, .ref hs), (0, .ref g0), (1, .int (nI j)), (2, .int i), (3, .int (nI j2)), (4, .int x), (5, .int n)]) hx hb dX6_copy_27 hl (by decide) rfl (fun ls hl => ?_)
      refine lv_aload_n hx hb dX6_copy_29 rfl (lv_at hl 1 rfl) ?_
      refine va_get (D := E.1) (ci := 6) (v := .ref gs) (C := RX6) (T := TX6) (N := 11) hx hb hts hinX6 hown hK.1 hP 0 rfl rfl 2 (by decide) fl_23 (fun _ h9 => h9) rfl dX6_copy_30 ?_
      refine lv_iload_n hx hb dX6_copy_33 rfl (lv_at hl 4 rfl) ?_
      refine ald hx hb hK hP 1 rfl (j := j2) rfl (by omega) (by decide) (v := hs2) hsa2 dX6_copy_34 ?_
      refine lv_astore (lv' := [(7, .ref hs2), (6, .ref hs), (0, .ref g0), (1, .int (nI j)), (2, .int i), (3, .int (nI j2)), (4, .int x), (5, .int n)]) hx hb dX6_copy_35 hl (by decide) rfl (fun ls hl => ?_)
      refine lv_aload hx hb dX6_copy_37 (lv_at hl 1 rfl) ?_
      refine va_get (D := E.1) (ci := 3) (v := .int th) (C := RX3) (T := TX3) (N := 4) hx hb hts hinX3 hown hK.1 hP 2 rfl rfl 1 (by decide) fl_237 (fun _ h9 => h9) rfl dX6_copy_39 ?_
      refine lv_if_eq (tgt := 53) hx hb dX6_copy_42 (by decide) (fun c_5 => ?_) (fun c_5 => ?_)
      ·
        refine lv_aload_n hx hb dX6_copy_53 rfl (lv_at hl 2 rfl) ?_
        refine lv_iconst (v := 1) hx hb dX6_copy_54 (by decide) ?_
        refine cwVi (As := [.int 1]) (rest := []) ⟨hx, hb, hml, hown, hts⟩ (c_X6_faulted l E _ g0 h0 k0 gs ht hd ho hr fo wy tr 0 1) (cwV 1 hts gX6_copy_X6_faulted rfl rfl rfl (by decide +kernel) ⟨Nat.le_of_ble_eq_true rfl, Nat.le_of_ble_eq_true rfl⟩) hK hP hD hS hA [0] (by decide) rfl [g0] (fun _ => rfl) rfl 0 rfl rfl rfl rfl hl.1 rfl (catLe (Nat.le_of_ble_eq_true rfl)) dX6_copy_55 ⟨Nat.zero_le _, Nat.zero_le _⟩ (fun r_6 u_7 H locs hwr_6 hP hD hS => ?_)
        have hP : va_P E.1 vwCl [ob g0 6 [.ref h0, .ref k0, .ref gs, .ref ht, .ref hd, .ref ho, .ref hr, .ref fo, .ref wy, .int tr, .int 1], aq E gs 4 sa, ob hs 3 [.ref qs, .int th, .int la, .int (nI ln)], ar E qs 60 ce, ob hs2 3 [.ref qs2, .int th2, .int la2, .int (nI ln2)], ar E qs2 60 ce2] H := hP
        have hD : va_D A [ob g0 6 [.ref h0, .ref k0, .ref gs, .ref ht, .ref hd, .ref ho, .ref hr, .ref fo, .ref wy, .int tr, .int 1], aq E gs 4 sa, ob hs 3 [.ref qs, .int th, .int la, .int (nI ln)], ar E qs 60 ce, ob hs2 3 [.ref qs2, .int th2, .int la2, .int (nI ln2)], ar E qs2 60 ce2] := hD
        subst hwr_6
        have e0 : spCopy (nI j) i (nI j2) x n th la th2 la2 ln ln2 = -11 := by rw [spCopy, if_neg (not_not_intro c_2), if_neg (not_not_intro c_4), if_pos c_5]
        have e1 : fltF (spCopy (nI j) i (nI j2) x n th la th2 la2 ln ln2) = 1 := by rw [e0]; rfl
        have hno : ¬ cpOk (nI j) i (nI j2) x n th la th2 la2 ln ln2 := fun h => h.2.2.1 c_5
        exact hret _ _ _ _ _ () dX6_copy_58 hS (by rw [e1, if_neg hno]; exact hP) e0.symm
      ·
        refine lv_aload hx hb dX6_copy_45 (lv_at hl 0 rfl) ?_
        refine va_get (D := E.1) (ci := 3) (v := .int th2) (C := RX3) (T := TX3) (N := 4) hx hb hts hinX3 hown hK.1 hP 4 rfl rfl 1 (by decide) fl_237 (fun _ h9 => h9) rfl dX6_copy_47 ?_
        refine lv_if_ne (tgt := 59) hx hb dX6_copy_50 (by decide) (fun c_8 => ?_) (fun c_8 => ?_)
        ·
          refine lv_aload hx hb dX6_copy_59 (lv_at hl 1 rfl) ?_
          refine va_get (D := E.1) (ci := 3) (v := .int la) (C := RX3) (T := TX3) (N := 4) hx hb hts hinX3 hown hK.1 hP 2 rfl rfl 2 (by decide) fl_248 (fun _ h9 => h9) rfl dX6_copy_61 ?_
          refine lv_aload hx hb dX6_copy_64 (lv_at hl 0 rfl) ?_
          refine va_get (D := E.1) (ci := 3) (v := .int la2) (C := RX3) (T := TX3) (N := 4) hx hb hts hinX3 hown hK.1 hP 4 rfl rfl 2 (by decide) fl_248 (fun _ h9 => h9) rfl dX6_copy_66 ?_
          refine lv_icmp_eq (tgt := 78) hx hb dX6_copy_69 (by decide) (fun c_9 => ?_) (fun c_9 => ?_)
          ·
            refine lv_aload hx hb dX6_copy_78 (lv_at hl 1 rfl) ?_
            refine lv_iload_n hx hb dX6_copy_80 rfl (lv_at hl 4 rfl) ?_
            refine lv_iload hx hb dX6_copy_81 (lv_at hl 7 rfl) ?_
            refine crV (As := [.int i, .int n]) (rest := []) ⟨hx, hb, hml, hown, hts⟩ (c_X3_reaches l E hs qs th la ln i n) (cwV 2 hts gX6_copy_X3_reaches rfl rfl rfl (by decide +kernel) ⟨Nat.le_of_ble_eq_true rfl, Nat.le_of_ble_eq_true rfl⟩) hK hP [2] rfl 0 rfl rfl rfl rfl hl.1 rfl (catLe (Nat.le_of_ble_eq_true rfl)) dX6_copy_83 ⟨Nat.zero_le _, Nat.zero_le _⟩ (fun r_10 hr_10 => ?_)
            subst hr_10
            refine ifB_eq (P := reachP ln i n) (tgt := 101) hx hb dX6_copy_86 (by decide) (fun c_11 => ?_) (fun c_11 => ?_)
            ·
              refine lv_aload_n hx hb dX6_copy_101 rfl (lv_at hl 2 rfl) ?_
              refine lv_iconst (v := 3) hx hb dX6_copy_102 (by decide) ?_
              refine cwVi (As := [.int 3]) (rest := []) ⟨hx, hb, hml, hown, hts⟩ (c_X6_faulted l E _ g0 h0 k0 gs ht hd ho hr fo wy tr 0 3) (cwV 1 hts gX6_copy_X6_faulted rfl rfl rfl (by decide +kernel) ⟨Nat.le_of_ble_eq_true rfl, Nat.le_of_ble_eq_true rfl⟩) hK hP hD hS hA [0] (by decide) rfl [g0] (fun _ => rfl) rfl 0 rfl rfl rfl rfl hl.1 rfl (catLe (Nat.le_of_ble_eq_true rfl)) dX6_copy_103 ⟨Nat.zero_le _, Nat.zero_le _⟩ (fun r_12 u_13 H locs hwr_12 hP hD hS => ?_)
              have hP : va_P E.1 vwCl [ob g0 6 [.ref h0, .ref k0, .ref gs, .ref ht, .ref hd, .ref ho, .ref hr, .ref fo, .ref wy, .int tr, .int 3], aq E gs 4 sa, ob hs 3 [.ref qs, .int th, .int la, .int (nI ln)], ar E qs 60 ce, ob hs2 3 [.ref qs2, .int th2, .int la2, .int (nI ln2)], ar E qs2 60 ce2] H := hP
              have hD : va_D A [ob g0 6 [.ref h0, .ref k0, .ref gs, .ref ht, .ref hd, .ref ho, .ref hr, .ref fo, .ref wy, .int tr, .int 3], aq E gs 4 sa, ob hs 3 [.ref qs, .int th, .int la, .int (nI ln)], ar E qs 60 ce, ob hs2 3 [.ref qs2, .int th2, .int la2, .int (nI ln2)], ar E qs2 60 ce2] := hD
              subst hwr_12
              have e0 : spCopy (nI j) i (nI j2) x n th la th2 la2 ln ln2 = -13 := by rw [spCopy, if_neg (not_not_intro c_2), if_neg (not_not_intro c_4), if_neg c_5, if_neg c_8, if_neg (not_not_intro c_9), if_pos c_11]
              have e1 : fltF (spCopy (nI j) i (nI j2) x n th la th2 la2 ln ln2) = 3 := by rw [e0]; rfl
              have hno : ¬ cpOk (nI j) i (nI j2) x n th la th2 la2 ln ln2 := fun h => c_11 h.2.2.2.2.2.1
              exact hret _ _ _ _ _ () dX6_copy_106 hS (by rw [e1, if_neg hno]; exact hP) e0.symm
            ·
              refine lv_aload hx hb dX6_copy_89 (lv_at hl 0 rfl) ?_
              refine lv_iload hx hb dX6_copy_91 (lv_at hl 6 rfl) ?_
              refine lv_iload hx hb dX6_copy_93 (lv_at hl 7 rfl) ?_
              refine crV (As := [.int x, .int n]) (rest := []) ⟨hx, hb, hml, hown, hts⟩ (c_X3_reaches l E hs2 qs2 th2 la2 ln2 x n) (cwV 2 hts gX6_copy_X3_reaches rfl rfl rfl (by decide +kernel) ⟨Nat.le_of_ble_eq_true rfl, Nat.le_of_ble_eq_true rfl⟩) hK hP [4] rfl 0 rfl rfl rfl rfl hl.1 rfl (catLe (Nat.le_of_ble_eq_true rfl)) dX6_copy_95 ⟨Nat.zero_le _, Nat.zero_le _⟩ (fun r_14 hr_14 => ?_)
              subst hr_14
              refine ifB_ne (P := reachP ln2 x n) (tgt := 107) hx hb dX6_copy_98 (by decide) (fun c_15 => ?_) (fun c_15 => ?_)
              ·
                have hok : cpOk (nI j) i (nI j2) x n th la th2 la2 ln ln2 := ⟨c_2, c_4, c_5, c_8, c_9, c_11, c_15⟩
                obtain ⟨a, b, rfl, rfl, hab⟩ := reach_nat c_11 h60
                obtain ⟨a2, rfl, hab2⟩ := reach2 c_15 h602 (by omega)
                have hixa : ix (nI a) = a := ix_nI (by omega)
                have hixb : ix (nI b) = b := ix_nI (by omega)
                have hixa2 : ix (nI a2) = a2 := ix_nI (by omega)
                refine lv_aload hx hb dX6_copy_107 (lv_at hl 1 rfl) ?_
                refine va_get (D := E.1) (ci := 3) (v := .ref qs) (C := RX3) (T := TX3) (N := 4) hx hb hts hinX3 hown hK.1 hP 2 rfl rfl 0 (by decide) fl_251 (fun _ h9 => h9) rfl dX6_copy_109 ?_
                refine lv_iload_n hx hb dX6_copy_112 rfl (lv_at hl 4 rfl) ?_
                refine lv_aload hx hb dX6_copy_113 (lv_at hl 0 rfl) ?_
                refine va_get (D := E.1) (ci := 3) (v := .ref qs2) (C := RX3) (T := TX3) (N := 4) hx hb hts hinX3 hown hK.1 hP 4 rfl rfl 0 (by decide) fl_251 (fun _ h9 => h9) rfl dX6_copy_115 ?_
                refine lv_iload hx hb dX6_copy_118 (lv_at hl 6 rfl) ?_
                refine lv_iload hx hb dX6_copy_120 (lv_at hl 7 rfl) ?_
                refine va_copyi hx hb (hml.trans hl.1.symm) hown (hts (.methodLink RX6 254 arraycopyName) (by decide +kernel)) (hts (.native arraycopyName) (by decide +kernel)) (hts (.static arraycopyName) (by decide +kernel)) (hts (.initialized "java/lang/System") (by decide +kernel)) hK.1 hP hD hS 3 5 0 0 (ty := .int) rfl rfl rfl rfl rfl (nI_pos (by omega)) (nI_pos (by omega)) (nI_pos (by omega)) (by rw [nI_clamp (by omega), nI_clamp (by omega)]; omega) (by rw [nI_clamp (by omega), nI_clamp (by omega)]; omega) (fun _ _ => rfl) (Nat.le_of_ble_eq_true rfl) (Nat.le_of_ble_eq_true rfl) dX6_copy_122 (fun H locs hP hD hS => ?_)
                have hP : va_P E.1 vwCl [ob g0 6 [.ref h0, .ref k0, .ref gs, .ref ht, .ref hd, .ref ho, .ref hr, .ref fo, .ref wy, .int tr, .int 0], aq E gs 4 sa, ob hs 3 [.ref qs, .int th, .int la, .int (nI ln)], ar E qs 60 ce, ob hs2 3 [.ref qs2, .int th2, .int la2, .int (nI ln2)], ar E qs2 60 (va_cpy ce ce2 (ix (nI a)) (ix (nI a2)) (ix (nI b)))] H := hP
                have hD : va_D A [ob g0 6 [.ref h0, .ref k0, .ref gs, .ref ht, .ref hd, .ref ho, .ref hr, .ref fo, .ref wy, .int tr, .int 0], aq E gs 4 sa, ob hs 3 [.ref qs, .int th, .int la, .int (nI ln)], ar E qs 60 ce, ob hs2 3 [.ref qs2, .int th2, .int la2, .int (nI ln2)], ar E qs2 60 (va_cpy ce ce2 (ix (nI a)) (ix (nI a2)) (ix (nI b)))] := hD
                refine lv_iload hx hb dX6_copy_125 (lv_at hl 7 rfl) ?_
                have e0 : spCopy (nI j) (nI a) (nI j2) (nI a2) (nI b) th la th2 la2 ln ln2 = nI b := by rw [spCopy, if_neg (not_not_intro c_2), if_neg (not_not_intro c_4), if_neg c_5, if_neg c_8, if_neg (not_not_intro c_9), if_neg (not_not_intro c_11), if_neg (not_not_intro c_15)]
                have e1 : fltF (spCopy (nI j) (nI a) (nI j2) (nI a2) (nI b) th la th2 la2 ln ln2) = 0 := by rw [e0]; exact flt_nI (by omega)
                exact hret _ _ _ _ _ () dX6_copy_127 hS (by rw [e1, if_pos hok]; exact hP) e0.symm
              ·
                refine lv_aload_n hx hb dX6_copy_101 rfl (lv_at hl 2 rfl) ?_
                refine lv_iconst (v := 3) hx hb dX6_copy_102 (by decide) ?_
                refine cwVi (As := [.int 3]) (rest := []) ⟨hx, hb, hml, hown, hts⟩ (c_X6_faulted l E _ g0 h0 k0 gs ht hd ho hr fo wy tr 0 3) (cwV 1 hts gX6_copy_X6_faulted rfl rfl rfl (by decide +kernel) ⟨Nat.le_of_ble_eq_true rfl, Nat.le_of_ble_eq_true rfl⟩) hK hP hD hS hA [0] (by decide) rfl [g0] (fun _ => rfl) rfl 0 rfl rfl rfl rfl hl.1 rfl (catLe (Nat.le_of_ble_eq_true rfl)) dX6_copy_103 ⟨Nat.zero_le _, Nat.zero_le _⟩ (fun r_16 u_17 H locs hwr_16 hP hD hS => ?_)
                have hP : va_P E.1 vwCl [ob g0 6 [.ref h0, .ref k0, .ref gs, .ref ht, .ref hd, .ref ho, .ref hr, .ref fo, .ref wy, .int tr, .int 3], aq E gs 4 sa, ob hs 3 [.ref qs, .int th, .int la, .int (nI ln)], ar E qs 60 ce, ob hs2 3 [.ref qs2, .int th2, .int la2, .int (nI ln2)], ar E qs2 60 ce2] H := hP
                have hD : va_D A [ob g0 6 [.ref h0, .ref k0, .ref gs, .ref ht, .ref hd, .ref ho, .ref hr, .ref fo, .ref wy, .int tr, .int 3], aq E gs 4 sa, ob hs 3 [.ref qs, .int th, .int la, .int (nI ln)], ar E qs 60 ce, ob hs2 3 [.ref qs2, .int th2, .int la2, .int (nI ln2)], ar E qs2 60 ce2] := hD
                subst hwr_16
                have e0 : spCopy (nI j) i (nI j2) x n th la th2 la2 ln ln2 = -13 := by rw [spCopy, if_neg (not_not_intro c_2), if_neg (not_not_intro c_4), if_neg c_5, if_neg c_8, if_neg (not_not_intro c_9), if_neg (not_not_intro c_11), if_pos c_15]
                have e1 : fltF (spCopy (nI j) i (nI j2) x n th la th2 la2 ln ln2) = 3 := by rw [e0]; rfl
                have hno : ¬ cpOk (nI j) i (nI j2) x n th la th2 la2 ln ln2 := fun h => c_15 h.2.2.2.2.2.2
                exact hret _ _ _ _ _ () dX6_copy_106 hS (by rw [e1, if_neg hno]; exact hP) e0.symm
          ·
            refine lv_aload_n hx hb dX6_copy_72 rfl (lv_at hl 2 rfl) ?_
            refine lv_iconst (v := 2) hx hb dX6_copy_73 (by decide) ?_
            refine cwVi (As := [.int 2]) (rest := []) ⟨hx, hb, hml, hown, hts⟩ (c_X6_faulted l E _ g0 h0 k0 gs ht hd ho hr fo wy tr 0 2) (cwV 1 hts gX6_copy_X6_faulted rfl rfl rfl (by decide +kernel) ⟨Nat.le_of_ble_eq_true rfl, Nat.le_of_ble_eq_true rfl⟩) hK hP hD hS hA [0] (by decide) rfl [g0] (fun _ => rfl) rfl 0 rfl rfl rfl rfl hl.1 rfl (catLe (Nat.le_of_ble_eq_true rfl)) dX6_copy_74 ⟨Nat.zero_le _, Nat.zero_le _⟩ (fun r_18 u_19 H locs hwr_18 hP hD hS => ?_)
            have hP : va_P E.1 vwCl [ob g0 6 [.ref h0, .ref k0, .ref gs, .ref ht, .ref hd, .ref ho, .ref hr, .ref fo, .ref wy, .int tr, .int 2], aq E gs 4 sa, ob hs 3 [.ref qs, .int th, .int la, .int (nI ln)], ar E qs 60 ce, ob hs2 3 [.ref qs2, .int th2, .int la2, .int (nI ln2)], ar E qs2 60 ce2] H := hP
            have hD : va_D A [ob g0 6 [.ref h0, .ref k0, .ref gs, .ref ht, .ref hd, .ref ho, .ref hr, .ref fo, .ref wy, .int tr, .int 2], aq E gs 4 sa, ob hs 3 [.ref qs, .int th, .int la, .int (nI ln)], ar E qs 60 ce, ob hs2 3 [.ref qs2, .int th2, .int la2, .int (nI ln2)], ar E qs2 60 ce2] := hD
            subst hwr_18
            have e0 : spCopy (nI j) i (nI j2) x n th la th2 la2 ln ln2 = -12 := by rw [spCopy, if_neg (not_not_intro c_2), if_neg (not_not_intro c_4), if_neg c_5, if_neg c_8, if_pos c_9]
            have e1 : fltF (spCopy (nI j) i (nI j2) x n th la th2 la2 ln ln2) = 2 := by rw [e0]; rfl
            have hno : ¬ cpOk (nI j) i (nI j2) x n th la th2 la2 ln ln2 := fun h => c_9 h.2.2.2.2.1
            exact hret _ _ _ _ _ () dX6_copy_77 hS (by rw [e1, if_neg hno]; exact hP) e0.symm
        ·
          refine lv_aload_n hx hb dX6_copy_53 rfl (lv_at hl 2 rfl) ?_
          refine lv_iconst (v := 1) hx hb dX6_copy_54 (by decide) ?_
          refine cwVi (As := [.int 1]) (rest := []) ⟨hx, hb, hml, hown, hts⟩ (c_X6_faulted l E _ g0 h0 k0 gs ht hd ho hr fo wy tr 0 1) (cwV 1 hts gX6_copy_X6_faulted rfl rfl rfl (by decide +kernel) ⟨Nat.le_of_ble_eq_true rfl, Nat.le_of_ble_eq_true rfl⟩) hK hP hD hS hA [0] (by decide) rfl [g0] (fun _ => rfl) rfl 0 rfl rfl rfl rfl hl.1 rfl (catLe (Nat.le_of_ble_eq_true rfl)) dX6_copy_55 ⟨Nat.zero_le _, Nat.zero_le _⟩ (fun r_20 u_21 H locs hwr_20 hP hD hS => ?_)
          have hP : va_P E.1 vwCl [ob g0 6 [.ref h0, .ref k0, .ref gs, .ref ht, .ref hd, .ref ho, .ref hr, .ref fo, .ref wy, .int tr, .int 1], aq E gs 4 sa, ob hs 3 [.ref qs, .int th, .int la, .int (nI ln)], ar E qs 60 ce, ob hs2 3 [.ref qs2, .int th2, .int la2, .int (nI ln2)], ar E qs2 60 ce2] H := hP
          have hD : va_D A [ob g0 6 [.ref h0, .ref k0, .ref gs, .ref ht, .ref hd, .ref ho, .ref hr, .ref fo, .ref wy, .int tr, .int 1], aq E gs 4 sa, ob hs 3 [.ref qs, .int th, .int la, .int (nI ln)], ar E qs 60 ce, ob hs2 3 [.ref qs2, .int th2, .int la2, .int (nI ln2)], ar E qs2 60 ce2] := hD
          subst hwr_20
          have e0 : spCopy (nI j) i (nI j2) x n th la th2 la2 ln ln2 = -11 := by rw [spCopy, if_neg (not_not_intro c_2), if_neg (not_not_intro c_4), if_neg c_5, if_pos c_8]
          have e1 : fltF (spCopy (nI j) i (nI j2) x n th la th2 la2 ln ln2) = 1 := by rw [e0]; rfl
          have hno : ¬ cpOk (nI j) i (nI j2) x n th la th2 la2 ln ln2 := fun h => h.2.2.2.1 c_8
          exact hret _ _ _ _ _ () dX6_copy_58 hS (by rw [e1, if_neg hno]; exact hP) e0.symm
    ·
      refine lv_iconst (v := (-1)) hx hb dX6_copy_19 (by decide) ?_
      have e0 : spCopy (nI j) i o x n th la th2 la2 ln ln2 = -1 := by rw [spCopy, if_neg (not_not_intro c_2), if_pos c_4]
      have e1 : fltF (spCopy (nI j) i o x n th la th2 la2 ln ln2) = 0 := by rw [e0]; rfl
      have hno : ¬ cpOk (nI j) i o x n th la th2 la2 ln ln2 := fun h => c_4 h.2.1
      exact hret _ _ _ _ _ () dX6_copy_20 hS (by rw [e1, if_neg hno]; exact hP) e0.symm
