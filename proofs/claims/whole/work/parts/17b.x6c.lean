set_option maxHeartbeats 4000000 in
set_option maxRecDepth 100000 in
theorem c_X6_frame (l : Launch) (E : gE) (sz : Nat) (g0 : Nat) (h0 : Nat) (k0 : Nat) (gs : Nat) (ht : Nat) (hd : Nat) (ho : Nat) (hr : Nat) (fo : Nat) (wy : Nat) (tr : Int32) (lf : Int32) (sa : Nat → Option Nat) (hs : Nat) (qs : Nat) (th : Int32) (la : Int32) (ln : Nat) (ce : Nat → Int32) (v0 : Nat) (v1 : Nat) (v2 : Nat) (v3 : Nat) (v4 : Nat) (v5 : Nat) (n3 : Nat) (mo3 : Int32) (kd3 : Nat → Int32) (mn3 : Nat → Int32) (pu3 : Nat → Int32) (a0 : Nat) (a1 : Nat) (a2 : Nat) (a3 : Nat) (a4 : Nat) (nw : Nat) (mo : Int32) (kd : Nat → Int32) (mn : Nat → Int32) (pu : Nat → Int32) (ro : Nat → Int32) (wo : Nat → Int32) (s0 : Nat) (s1 : Nat) (s2 : Nat) (rc : Nat) (j : Nat) (sheet : Int32) (lane : Int32) (i : Int32) (n : Int32) (hj4 : j < 4) (hsa : sa j = some hs) (hjs : shP sheet → sheet = nI j) (h60 : ln ≤ 60) : Met l yX6_frame wsX6_frame ({ frames := 3, cells := 0, slots := 0, locals := 68 }) (PW E [.ref g0, .int sheet, .int lane, .int i, .int n] [ob g0 6 [.ref h0, .ref k0, .ref gs, .ref ht, .ref hd, .ref ho, .ref hr, .ref fo, .ref wy, .int tr, .int lf], aq E gs 4 sa, ob hs 3 [.ref qs, .int th, .int la, .int (nI ln)], ar E qs 60 ce, ob ht 4 [.ref v0], ob v0 5 [.ref v1, .ref v2, .ref v3, .ref v4, .ref v5, .int (nI n3), .int mo3], ar E v1 6 kd3, ar E v2 6 mn3, ar E v3 6 pu3, ob h0 5 [.ref a0, .ref a1, .ref a2, .ref a3, .ref a4, .int (nI nw), .int mo], ar E a0 6 kd, ar E a1 6 mn, ar E a2 6 pu, ar E a3 6 ro, ar E a4 6 wo, ob hr 2 [.ref s0, .ref s1, .ref s2, .int (nI rc)]] sz) (QWi E (fun r _ => r = if ¬ rtK sheet lane i n 1 th la ln = 0 then rtK sheet lane i n 1 th la ln else if ¬ frV ce i n kd3 mn3 pu3 = -9 then -100 - frV ce i n kd3 mn3 pu3 else nI (frT ce i n kd3 mn3 pu3).1) (fun (_ : Unit) => [ob g0 6 [.ref h0, .ref k0, .ref gs, .ref ht, .ref hd, .ref ho, .ref hr, .ref fo, .ref wy, .int tr, .int (fltF (rtK sheet lane i n 1 th la ln))], aq E gs 4 sa, ob hs 3 [.ref qs, .int th, .int la, .int (nI ln)], ar E qs 60 ce, ob ht 4 [.ref v0], ob v0 5 [.ref v1, .ref v2, .ref v3, .ref v4, .ref v5, .int (nI (if rtK sheet lane i n 1 th la ln = 0 then (frT ce i n kd3 mn3 pu3).1 else n3)), .int mo3], ar E v1 6 (if rtK sheet lane i n 1 th la ln = 0 then (frT ce i n kd3 mn3 pu3).2.1 else kd3), ar E v2 6 (if rtK sheet lane i n 1 th la ln = 0 then (frT ce i n kd3 mn3 pu3).2.2.1 else mn3), ar E v3 6 (if rtK sheet lane i n 1 th la ln = 0 then (frT ce i n kd3 mn3 pu3).2.2.2 else pu3), ob h0 5 [.ref a0, .ref a1, .ref a2, .ref a3, .ref a4, .int (nI (if rtK sheet lane i n 1 th la ln = 0 ∧ frV ce i n kd3 mn3 pu3 = -9 then (frT ce i n kd3 mn3 pu3).1 else nw)), .int (if rtK sheet lane i n 1 th la ln = 0 ∧ frV ce i n kd3 mn3 pu3 = -9 then woF (frT ce i n kd3 mn3 pu3).2.1 (frT ce i n kd3 mn3 pu3).2.2.1 (frT ce i n kd3 mn3 pu3).1 - 1 else mo)], ar E a0 6 (if rtK sheet lane i n 1 th la ln = 0 ∧ frV ce i n kd3 mn3 pu3 = -9 then (frT ce i n kd3 mn3 pu3).2.1 else kd), ar E a1 6 (if rtK sheet lane i n 1 th la ln = 0 ∧ frV ce i n kd3 mn3 pu3 = -9 then (frT ce i n kd3 mn3 pu3).2.2.1 else mn), ar E a2 6 (if rtK sheet lane i n 1 th la ln = 0 ∧ frV ce i n kd3 mn3 pu3 = -9 then (frT ce i n kd3 mn3 pu3).2.2.2 else pu), ar E a3 6 (if rtK sheet lane i n 1 th la ln = 0 ∧ frV ce i n kd3 mn3 pu3 = -9 then fil (rmF (frT ce i n kd3 mn3 pu3).2.1 (frT ce i n kd3 mn3 pu3).2.2.1) ro (frT ce i n kd3 mn3 pu3).1 else ro), ar E a4 6 (if rtK sheet lane i n 1 th la ln = 0 ∧ frV ce i n kd3 mn3 pu3 = -9 then fil (woF (frT ce i n kd3 mn3 pu3).2.1 (frT ce i n kd3 mn3 pu3).2.2.1) wo (frT ce i n kd3 mn3 pu3).1 else wo), ob hr 2 [.ref s0, .ref s1, .ref s2, .int (nI (if rtK sheet lane i n 1 th la ln = 0 ∧ frV ce i n kd3 mn3 pu3 = -9 then 0 else rc))]]) (va_A [ob g0 6 [.ref h0, .ref k0, .ref gs, .ref ht, .ref hd, .ref ho, .ref hr, .ref fo, .ref wy, .int tr, .int lf], aq E gs 4 sa, ob hs 3 [.ref qs, .int th, .int la, .int (nI ln)], ar E qs 60 ce, ob ht 4 [.ref v0], ob v0 5 [.ref v1, .ref v2, .ref v3, .ref v4, .ref v5, .int (nI n3), .int mo3], ar E v1 6 kd3, ar E v2 6 mn3, ar E v3 6 pu3, ob h0 5 [.ref a0, .ref a1, .ref a2, .ref a3, .ref a4, .int (nI nw), .int mo], ar E a0 6 kd, ar E a1 6 mn, ar E a2 6 pu, ar E a3 6 ro, ar E a4 6 wo, ob hr 2 [.ref s0, .ref s1, .ref s2, .int (nI rc)]] sz)) 0 0 (va_A [ob g0 6 [.ref h0, .ref k0, .ref gs, .ref ht, .ref hd, .ref ho, .ref hr, .ref fo, .ref wy, .int tr, .int lf], aq E gs 4 sa, ob hs 3 [.ref qs, .int th, .int la, .int (nI ln)], ar E qs 60 ce, ob ht 4 [.ref v0], ob v0 5 [.ref v1, .ref v2, .ref v3, .ref v4, .ref v5, .int (nI n3), .int mo3], ar E v1 6 kd3, ar E v2 6 mn3, ar E v3 6 pu3, ob h0 5 [.ref a0, .ref a1, .ref a2, .ref a3, .ref a4, .int (nI nw), .int mo], ar E a0 6 kd, ar E a1 6 mn, ar E a2 6 pu, ar E a3 6 ro, ar E a4 6 wo, ob hr 2 [.ref s0, .ref s1, .ref s2, .int (nI rc)]] sz) := by
  refine mkWi (cc := cX6_frame) (maxL := 7) (by decide) rfl (Nat.le_of_ble_eq_true rfl) ?_
  intro p e s m args below meth c QQ A hx hb hml hown hmn hts hK hA hP hD hS hret ls hl
  have hown : s.vm.findClass RX6 = some m.cls := hown
  have hl : lv_has ls 7 [(0, .ref g0), (1, .int sheet), (2, .int lane), (3, .int i), (4, .int n)] := hl
  have hinX2 : ∀ w ∈ wsX20, w ∈ wsX6_frame := by decide +kernel
  have hinX4 : ∀ w ∈ wsX40, w ∈ wsX6_frame := by decide +kernel
  have hinX5 : ∀ w ∈ wsX50, w ∈ wsX6_frame := by decide +kernel
  have hinX6 : ∀ w ∈ wsX60, w ∈ wsX6_frame := by decide +kernel
  have fl_12 := hts (.fieldLink RX6 12 "GuardAbacus" "wires" "LGuardAbacus$Wires;") (by decide +kernel)
  have fl_23 := hts (.fieldLink RX6 23 "GuardAbacus" "sheets" "[LGuardAbacus$Sheet;") (by decide +kernel)
  have fl_30 := hts (.fieldLink RX6 30 "GuardAbacus" "text" "LGuardAbacus$Text;") (by decide +kernel)
  have fl_51 := hts (.fieldLink RX6 51 "GuardAbacus" "readings" "LGuardAbacus$Readings;") (by decide +kernel)
  have fl_79 := hts (.fieldLink RX6 79 "GuardAbacus$Text" "made" "LGuardAbacus$Wires;") (by decide +kernel)
  have fl_86 := hts (.fieldLink RX6 86 "GuardAbacus$Readings" "count" "I") (by decide +kernel)
  have fl_89 := hts (.fieldLink RX6 89 "GuardAbacus$Wires" "count" "I") (by decide +kernel)
  refine lv_aload_n hx hb dX6_frame_0 rfl (lv_at hl 0 rfl) ?_
  refine lv_iload_n hx hb dX6_frame_1 rfl (lv_at hl 1 rfl) ?_
  refine lv_iload_n hx hb dX6_frame_2 rfl (lv_at hl 2 rfl) ?_
  refine lv_iload_n hx hb dX6_frame_3 rfl (lv_at hl 3 rfl) ?_
  refine lv_iload hx hb dX6_frame_4 (lv_at hl 4 rfl) ?_
  refine lv_iconst (v := 1) hx hb dX6_frame_6 (by decide) ?_
  refine cwVi (As := [.int sheet, .int lane, .int i, .int n, .int 1]) (rest := []) ⟨hx, hb, hml, hown, hts⟩ (c_X6_rowTrouble l E _ g0 h0 k0 gs ht hd ho hr fo wy tr lf sa hs qs th la ln j sheet lane i n 1 (by first | assumption | omega) (by first | assumption | omega) (by first | assumption | omega)) (cwV 5 hts gX6_frame_X6_rowTrouble rfl rfl rfl (by decide +kernel) ⟨Nat.le_of_ble_eq_true rfl, Nat.le_of_ble_eq_true rfl⟩) hK hP hD hS hA [0, 1, 2] (by decide) rfl [g0, gs, hs] (fun _ => rfl) rfl 0 rfl rfl rfl rfl hl.1 rfl (catLe (Nat.le_of_ble_eq_true rfl)) dX6_frame_7 ⟨Nat.zero_le _, Nat.zero_le _⟩ (fun r_1 u_2 H locs hwr_1 hP hD hS => ?_)
  have hP : va_P E.1 vwCl [ob g0 6 [.ref h0, .ref k0, .ref gs, .ref ht, .ref hd, .ref ho, .ref hr, .ref fo, .ref wy, .int tr, .int (fltF (rtK sheet lane i n 1 th la ln))], aq E gs 4 sa, ob hs 3 [.ref qs, .int th, .int la, .int (nI ln)], ar E qs 60 ce, ob ht 4 [.ref v0], ob v0 5 [.ref v1, .ref v2, .ref v3, .ref v4, .ref v5, .int (nI n3), .int mo3], ar E v1 6 kd3, ar E v2 6 mn3, ar E v3 6 pu3, ob h0 5 [.ref a0, .ref a1, .ref a2, .ref a3, .ref a4, .int (nI nw), .int mo], ar E a0 6 kd, ar E a1 6 mn, ar E a2 6 pu, ar E a3 6 ro, ar E a4 6 wo, ob hr 2 [.ref s0, .ref s1, .ref s2, .int (nI rc)]] H := hP
  have hD : va_D A [ob g0 6 [.ref h0, .ref k0, .ref gs, .ref ht, .ref hd, .ref ho, .ref hr, .ref fo, .ref wy, .int tr, .int (fltF (rtK sheet lane i n 1 th la ln))], aq E gs 4 sa, ob hs 3 [.ref qs, .int th, .int la, .int (nI ln)], ar E qs 60 ce, ob ht 4 [.ref v0], ob v0 5 [.ref v1, .ref v2, .ref v3, .ref v4, .ref v5, .int (nI n3), .int mo3], ar E v1 6 kd3, ar E v2 6 mn3, ar E v3 6 pu3, ob h0 5 [.ref a0, .ref a1, .ref a2, .ref a3, .ref a4, .int (nI nw), .int mo], ar E a0 6 kd, ar E a1 6 mn, ar E a2 6 pu, ar E a3 6 ro, ar E a4 6 wo, ob hr 2 [.ref s0, .ref s1, .ref s2, .int (nI rc)]] := hD
  subst hwr_1
  refine lv_istore (lv' := [(5, .int (rtK sheet lane i n 1 th la ln)), (0, .ref g0), (1, .int sheet), (2, .int lane), (3, .int i), (4, .int n)]) hx hb dX6_frame_10 hl (by decide) rfl (fun ls hl => ?_)
  refine lv_iload hx hb dX6_frame_12 (lv_at hl 0 rfl) ?_
  refine lv_if_eq (tgt := 20) hx hb dX6_frame_14 (by decide) (fun c_3 => ?_) (fun c_3 => ?_)
  ·
    have hz := rtK_0 c_3
    have hsh := hjs hz.1
    subst hsh
    obtain ⟨a, b, rfl, rfl, hab⟩ := reach_nat hz.2.2.2.2.2 h60
    have hixa : ix (nI a) = a := ix_nI (by omega)
    have hixb : ix (nI b) = b := ix_nI (by omega)
    have hgg : frG ce (nI a) = (fun q => ce (a + q)) := by show (fun q => ce (ix (nI a) + q)) = _; rw [hixa]
    have hT : frT ce (nI a) (nI b) kd3 mn3 pu3 = tS (fun q => ce (a + q)) kd3 mn3 pu3 (tN (fun q => ce (a + q)) kd3 mn3 pu3 b) := by rw [frT, hgg, hixb]
    have hV : frV ce (nI a) (nI b) kd3 mn3 pu3 = tRes (fun q => ce (a + q)) kd3 mn3 pu3 b := by rw [frV, hgg, hixb]
    have h6 := tS_le (fun q => ce (a + q)) kd3 mn3 pu3 (tN (fun q => ce (a + q)) kd3 mn3 pu3 b)
    refine lv_aload_n hx hb dX6_frame_20 rfl (lv_at hl 1 rfl) ?_
    refine va_get (D := E.1) (ci := 6) (v := .ref ht) (C := RX6) (T := TX6) (N := 11) hx hb hts hinX6 hown hK.1 hP 0 rfl rfl 3 (by decide) fl_30 (fun _ h9 => h9) rfl dX6_frame_21 ?_
    refine lv_aload_n hx hb dX6_frame_24 rfl (lv_at hl 1 rfl) ?_
    refine va_get (D := E.1) (ci := 6) (v := .ref gs) (C := RX6) (T := TX6) (N := 11) hx hb hts hinX6 hown hK.1 hP 0 rfl rfl 2 (by decide) fl_23 (fun _ h9 => h9) rfl dX6_frame_25 ?_
    refine lv_iload_n hx hb dX6_frame_28 rfl (lv_at hl 2 rfl) ?_
    refine ald hx hb hK hP 1 rfl (j := j) rfl (by omega) (by decide) (v := hs) hsa dX6_frame_29 ?_
    refine lv_iload_n hx hb dX6_frame_30 rfl (lv_at hl 4 rfl) ?_
    refine lv_iload hx hb dX6_frame_31 (lv_at hl 5 rfl) ?_
    refine cwVi (As := [.ref hs, .int (nI a), .int (nI b)]) (rest := []) ⟨hx, hb, hml, hown, hts⟩ (c_X4_firstFault l E _ ht v0 v1 v2 v3 v4 v5 n3 mo3 kd3 mn3 pu3 hs qs th la ln ce a b (by first | assumption | omega) (by first | assumption | omega)) (cwV 3 hts gX6_frame_X4_firstFault rfl rfl rfl (by decide +kernel) ⟨Nat.le_of_ble_eq_true rfl, Nat.le_of_ble_eq_true rfl⟩) hK hP hD hS hA [4, 5, 6, 7, 8, 2, 3] (by decide) rfl [ht, v0, v1, v2, v3, hs, qs] (fun _ => rfl) rfl 0 rfl rfl rfl rfl hl.1 rfl (catLe (Nat.le_of_ble_eq_true rfl)) dX6_frame_33 ⟨Nat.zero_le _, Nat.zero_le _⟩ (fun r_4 u_5 H locs hwr_4 hP hD hS => ?_)
    have hP : va_P E.1 vwCl [ob g0 6 [.ref h0, .ref k0, .ref gs, .ref ht, .ref hd, .ref ho, .ref hr, .ref fo, .ref wy, .int tr, .int (fltF (rtK (nI j) lane (nI a) (nI b) 1 th la ln))], aq E gs 4 sa, ob hs 3 [.ref qs, .int th, .int la, .int (nI ln)], ar E qs 60 ce, ob ht 4 [.ref v0], ob v0 5 [.ref v1, .ref v2, .ref v3, .ref v4, .ref v5, .int (nI ((tS (fun q => ce (a + q)) kd3 mn3 pu3 (tN (fun q => ce (a + q)) kd3 mn3 pu3 b)).1)), .int mo3], ar E v1 6 ((tS (fun q => ce (a + q)) kd3 mn3 pu3 (tN (fun q => ce (a + q)) kd3 mn3 pu3 b)).2.1), ar E v2 6 ((tS (fun q => ce (a + q)) kd3 mn3 pu3 (tN (fun q => ce (a + q)) kd3 mn3 pu3 b)).2.2.1), ar E v3 6 ((tS (fun q => ce (a + q)) kd3 mn3 pu3 (tN (fun q => ce (a + q)) kd3 mn3 pu3 b)).2.2.2), ob h0 5 [.ref a0, .ref a1, .ref a2, .ref a3, .ref a4, .int (nI nw), .int mo], ar E a0 6 kd, ar E a1 6 mn, ar E a2 6 pu, ar E a3 6 ro, ar E a4 6 wo, ob hr 2 [.ref s0, .ref s1, .ref s2, .int (nI rc)]] H := hP
    have hD : va_D A [ob g0 6 [.ref h0, .ref k0, .ref gs, .ref ht, .ref hd, .ref ho, .ref hr, .ref fo, .ref wy, .int tr, .int (fltF (rtK (nI j) lane (nI a) (nI b) 1 th la ln))], aq E gs 4 sa, ob hs 3 [.ref qs, .int th, .int la, .int (nI ln)], ar E qs 60 ce, ob ht 4 [.ref v0], ob v0 5 [.ref v1, .ref v2, .ref v3, .ref v4, .ref v5, .int (nI ((tS (fun q => ce (a + q)) kd3 mn3 pu3 (tN (fun q => ce (a + q)) kd3 mn3 pu3 b)).1)), .int mo3], ar E v1 6 ((tS (fun q => ce (a + q)) kd3 mn3 pu3 (tN (fun q => ce (a + q)) kd3 mn3 pu3 b)).2.1), ar E v2 6 ((tS (fun q => ce (a + q)) kd3 mn3 pu3 (tN (fun q => ce (a + q)) kd3 mn3 pu3 b)).2.2.1), ar E v3 6 ((tS (fun q => ce (a + q)) kd3 mn3 pu3 (tN (fun q => ce (a + q)) kd3 mn3 pu3 b)).2.2.2), ob h0 5 [.ref a0, .ref a1, .ref a2, .ref a3, .ref a4, .int (nI nw), .int mo], ar E a0 6 kd, ar E a1 6 mn, ar E a2 6 pu, ar E a3 6 ro, ar E a4 6 wo, ob hr 2 [.ref s0, .ref s1, .ref s2, .int (nI rc)]] := hD
    subst hwr_4
    refine lv_istore (lv' := [(6, .int (tRes (fun q => ce (a + q)) kd3 mn3 pu3 b)), (5, .int (rtK (nI j) lane (nI a) (nI b) 1 th la ln)), (0, .ref g0), (1, .int (nI j)), (2, .int lane), (3, .int (nI a)), (4, .int (nI b))]) hx hb dX6_frame_36 hl (by decide) rfl (fun ls hl => ?_)
    refine lv_iload hx hb dX6_frame_38 (lv_at hl 0 rfl) ?_
    refine lv_bipush (v := (-9)) hx hb dX6_frame_40 (by decide) ?_
    refine lv_icmp_eq (tgt := 51) hx hb dX6_frame_42 (by decide) (fun c_6 => ?_) (fun c_6 => ?_)
    ·
      refine lv_aload_n hx hb dX6_frame_51 rfl (lv_at hl 2 rfl) ?_
      refine va_get (D := E.1) (ci := 6) (v := .ref h0) (C := RX6) (T := TX6) (N := 11) hx hb hts hinX6 hown hK.1 hP 0 rfl rfl 0 (by decide) fl_12 (fun _ h9 => h9) rfl dX6_frame_52 ?_
      refine lv_aload_n hx hb dX6_frame_55 rfl (lv_at hl 2 rfl) ?_
      refine va_get (D := E.1) (ci := 6) (v := .ref ht) (C := RX6) (T := TX6) (N := 11) hx hb hts hinX6 hown hK.1 hP 0 rfl rfl 3 (by decide) fl_30 (fun _ h9 => h9) rfl dX6_frame_56 ?_
      refine va_get (D := E.1) (ci := 4) (v := .ref v0) (C := RX4) (T := TX4) (N := 1) hx hb hts hinX4 hown hK.1 hP 4 rfl rfl 0 (by decide) fl_79 (fun _ h9 => h9) rfl dX6_frame_59 ?_
      refine cwVv (As := [.ref v0]) (rest := []) ⟨hx, hb, hml, hown, hts⟩ (c_X5_become l E _ h0 a0 a1 a2 a3 a4 nw mo kd mn pu ro wo v0 v1 v2 v3 v4 v5 ((tS (fun q => ce (a + q)) kd3 mn3 pu3 (tN (fun q => ce (a + q)) kd3 mn3 pu3 b)).1) mo3 ((tS (fun q => ce (a + q)) kd3 mn3 pu3 (tN (fun q => ce (a + q)) kd3 mn3 pu3 b)).2.1) ((tS (fun q => ce (a + q)) kd3 mn3 pu3 (tN (fun q => ce (a + q)) kd3 mn3 pu3 b)).2.2.1) ((tS (fun q => ce (a + q)) kd3 mn3 pu3 (tN (fun q => ce (a + q)) kd3 mn3 pu3 b)).2.2.2) (by first | assumption | omega)) (cwV 1 hts gX6_frame_X5_become rfl rfl rfl (by decide +kernel) ⟨Nat.le_of_ble_eq_true rfl, Nat.le_of_ble_eq_true rfl⟩) hK hP hD hS hA [9, 10, 11, 12, 13, 14, 5, 6, 7, 8] (by decide) rfl [h0, a0, a1, a2, a3, a4, v0, v1, v2, v3] (fun _ => rfl) rfl 0 rfl rfl rfl rfl hl.1 rfl (catLe (Nat.le_of_ble_eq_true rfl)) dX6_frame_62 ⟨Nat.zero_le _, Nat.zero_le _⟩ (fun u_8 H locs hwr_7 hP hD hS => ?_)
      have hP : va_P E.1 vwCl [ob g0 6 [.ref h0, .ref k0, .ref gs, .ref ht, .ref hd, .ref ho, .ref hr, .ref fo, .ref wy, .int tr, .int (fltF (rtK (nI j) lane (nI a) (nI b) 1 th la ln))], aq E gs 4 sa, ob hs 3 [.ref qs, .int th, .int la, .int (nI ln)], ar E qs 60 ce, ob ht 4 [.ref v0], ob v0 5 [.ref v1, .ref v2, .ref v3, .ref v4, .ref v5, .int (nI ((tS (fun q => ce (a + q)) kd3 mn3 pu3 (tN (fun q => ce (a + q)) kd3 mn3 pu3 b)).1)), .int mo3], ar E v1 6 ((tS (fun q => ce (a + q)) kd3 mn3 pu3 (tN (fun q => ce (a + q)) kd3 mn3 pu3 b)).2.1), ar E v2 6 ((tS (fun q => ce (a + q)) kd3 mn3 pu3 (tN (fun q => ce (a + q)) kd3 mn3 pu3 b)).2.2.1), ar E v3 6 ((tS (fun q => ce (a + q)) kd3 mn3 pu3 (tN (fun q => ce (a + q)) kd3 mn3 pu3 b)).2.2.2), ob h0 5 [.ref a0, .ref a1, .ref a2, .ref a3, .ref a4, .int (nI ((tS (fun q => ce (a + q)) kd3 mn3 pu3 (tN (fun q => ce (a + q)) kd3 mn3 pu3 b)).1)), .int (woF ((tS (fun q => ce (a + q)) kd3 mn3 pu3 (tN (fun q => ce (a + q)) kd3 mn3 pu3 b)).2.1) ((tS (fun q => ce (a + q)) kd3 mn3 pu3 (tN (fun q => ce (a + q)) kd3 mn3 pu3 b)).2.2.1) ((tS (fun q => ce (a + q)) kd3 mn3 pu3 (tN (fun q => ce (a + q)) kd3 mn3 pu3 b)).1) - 1)], ar E a0 6 ((tS (fun q => ce (a + q)) kd3 mn3 pu3 (tN (fun q => ce (a + q)) kd3 mn3 pu3 b)).2.1), ar E a1 6 ((tS (fun q => ce (a + q)) kd3 mn3 pu3 (tN (fun q => ce (a + q)) kd3 mn3 pu3 b)).2.2.1), ar E a2 6 ((tS (fun q => ce (a + q)) kd3 mn3 pu3 (tN (fun q => ce (a + q)) kd3 mn3 pu3 b)).2.2.2), ar E a3 6 (fil (rmF ((tS (fun q => ce (a + q)) kd3 mn3 pu3 (tN (fun q => ce (a + q)) kd3 mn3 pu3 b)).2.1) ((tS (fun q => ce (a + q)) kd3 mn3 pu3 (tN (fun q => ce (a + q)) kd3 mn3 pu3 b)).2.2.1)) ro ((tS (fun q => ce (a + q)) kd3 mn3 pu3 (tN (fun q => ce (a + q)) kd3 mn3 pu3 b)).1)), ar E a4 6 (fil (woF ((tS (fun q => ce (a + q)) kd3 mn3 pu3 (tN (fun q => ce (a + q)) kd3 mn3 pu3 b)).2.1) ((tS (fun q => ce (a + q)) kd3 mn3 pu3 (tN (fun q => ce (a + q)) kd3 mn3 pu3 b)).2.2.1)) wo ((tS (fun q => ce (a + q)) kd3 mn3 pu3 (tN (fun q => ce (a + q)) kd3 mn3 pu3 b)).1)), ob hr 2 [.ref s0, .ref s1, .ref s2, .int (nI rc)]] H := hP
      have hD : va_D A [ob g0 6 [.ref h0, .ref k0, .ref gs, .ref ht, .ref hd, .ref ho, .ref hr, .ref fo, .ref wy, .int tr, .int (fltF (rtK (nI j) lane (nI a) (nI b) 1 th la ln))], aq E gs 4 sa, ob hs 3 [.ref qs, .int th, .int la, .int (nI ln)], ar E qs 60 ce, ob ht 4 [.ref v0], ob v0 5 [.ref v1, .ref v2, .ref v3, .ref v4, .ref v5, .int (nI ((tS (fun q => ce (a + q)) kd3 mn3 pu3 (tN (fun q => ce (a + q)) kd3 mn3 pu3 b)).1)), .int mo3], ar E v1 6 ((tS (fun q => ce (a + q)) kd3 mn3 pu3 (tN (fun q => ce (a + q)) kd3 mn3 pu3 b)).2.1), ar E v2 6 ((tS (fun q => ce (a + q)) kd3 mn3 pu3 (tN (fun q => ce (a + q)) kd3 mn3 pu3 b)).2.2.1), ar E v3 6 ((tS (fun q => ce (a + q)) kd3 mn3 pu3 (tN (fun q => ce (a + q)) kd3 mn3 pu3 b)).2.2.2), ob h0 5 [.ref a0, .ref a1, .ref a2, .ref a3, .ref a4, .int (nI ((tS (fun q => ce (a + q)) kd3 mn3 pu3 (tN (fun q => ce (a + q)) kd3 mn3 pu3 b)).1)), .int (woF ((tS (fun q => ce (a + q)) kd3 mn3 pu3 (tN (fun q => ce (a + q)) kd3 mn3 pu3 b)).2.1) ((tS (fun q => ce (a + q)) kd3 mn3 pu3 (tN (fun q => ce (a + q)) kd3 mn3 pu3 b)).2.2.1) ((tS (fun q => ce (a + q)) kd3 mn3 pu3 (tN (fun q => ce (a + q)) kd3 mn3 pu3 b)).1) - 1)], ar E a0 6 ((tS (fun q => ce (a + q)) kd3 mn3 pu3 (tN (fun q => ce (a + q)) kd3 mn3 pu3 b)).2.1), ar E a1 6 ((tS (fun q => ce (a + q)) kd3 mn3 pu3 (tN (fun q => ce (a + q)) kd3 mn3 pu3 b)).2.2.1), ar E a2 6 ((tS (fun q => ce (a + q)) kd3 mn3 pu3 (tN (fun q => ce (a + q)) kd3 mn3 pu3 b)).2.2.2), ar E a3 6 (fil (rmF ((tS (fun q => ce (a + q)) kd3 mn3 pu3 (tN (fun q => ce (a + q)) kd3 mn3 pu3 b)).2.1) ((tS (fun q => ce (a + q)) kd3 mn3 pu3 (tN (fun q => ce (a + q)) kd3 mn3 pu3 b)).2.2.1)) ro ((tS (fun q => ce (a + q)) kd3 mn3 pu3 (tN (fun q => ce (a + q)) kd3 mn3 pu3 b)).1)), ar E a4 6 (fil (woF ((tS (fun q => ce (a + q)) kd3 mn3 pu3 (tN (fun q => ce (a + q)) kd3 mn3 pu3 b)).2.1) ((tS (fun q => ce (a + q)) kd3 mn3 pu3 (tN (fun q => ce (a + q)) kd3 mn3 pu3 b)).2.2.1)) wo ((tS (fun q => ce (a + q)) kd3 mn3 pu3 (tN (fun q => ce (a + q)) kd3 mn3 pu3 b)).1)), ob hr 2 [.ref s0, .ref s1, .ref s2, .int (nI rc)]] := hD
      refine lv_aload_n hx hb dX6_frame_65 rfl (lv_at hl 2 rfl) ?_
      refine va_get (D := E.1) (ci := 6) (v := .ref hr) (C := RX6) (T := TX6) (N := 11) hx hb hts hinX6 hown hK.1 hP 0 rfl rfl 6 (by decide) fl_51 (fun _ h9 => h9) rfl dX6_frame_66 ?_
      refine lv_iconst (v := 0) hx hb dX6_frame_69 (by decide) ?_
      refine va_put (D := E.1) (ci := 2) (v := .int 0) (ty := .int) (C := RX2) (T := TX2) (N := 4) hx hb hts hinX2 tyX2 tyX2_ok nmX2 hown hK.1 hP hD hS 15 rfl rfl 3 (by decide) fl_86 (fun _ h9 => h9) rfl (by decide +kernel) rfl rfl (Nat.le_of_ble_eq_true rfl) dX6_frame_70 (fun H locs hP hD hS => ?_)
      have hP : va_P E.1 vwCl [ob g0 6 [.ref h0, .ref k0, .ref gs, .ref ht, .ref hd, .ref ho, .ref hr, .ref fo, .ref wy, .int tr, .int (fltF (rtK (nI j) lane (nI a) (nI b) 1 th la ln))], aq E gs 4 sa, ob hs 3 [.ref qs, .int th, .int la, .int (nI ln)], ar E qs 60 ce, ob ht 4 [.ref v0], ob v0 5 [.ref v1, .ref v2, .ref v3, .ref v4, .ref v5, .int (nI ((tS (fun q => ce (a + q)) kd3 mn3 pu3 (tN (fun q => ce (a + q)) kd3 mn3 pu3 b)).1)), .int mo3], ar E v1 6 ((tS (fun q => ce (a + q)) kd3 mn3 pu3 (tN (fun q => ce (a + q)) kd3 mn3 pu3 b)).2.1), ar E v2 6 ((tS (fun q => ce (a + q)) kd3 mn3 pu3 (tN (fun q => ce (a + q)) kd3 mn3 pu3 b)).2.2.1), ar E v3 6 ((tS (fun q => ce (a + q)) kd3 mn3 pu3 (tN (fun q => ce (a + q)) kd3 mn3 pu3 b)).2.2.2), ob h0 5 [.ref a0, .ref a1, .ref a2, .ref a3, .ref a4, .int (nI ((tS (fun q => ce (a + q)) kd3 mn3 pu3 (tN (fun q => ce (a + q)) kd3 mn3 pu3 b)).1)), .int (woF ((tS (fun q => ce (a + q)) kd3 mn3 pu3 (tN (fun q => ce (a + q)) kd3 mn3 pu3 b)).2.1) ((tS (fun q => ce (a + q)) kd3 mn3 pu3 (tN (fun q => ce (a + q)) kd3 mn3 pu3 b)).2.2.1) ((tS (fun q => ce (a + q)) kd3 mn3 pu3 (tN (fun q => ce (a + q)) kd3 mn3 pu3 b)).1) - 1)], ar E a0 6 ((tS (fun q => ce (a + q)) kd3 mn3 pu3 (tN (fun q => ce (a + q)) kd3 mn3 pu3 b)).2.1), ar E a1 6 ((tS (fun q => ce (a + q)) kd3 mn3 pu3 (tN (fun q => ce (a + q)) kd3 mn3 pu3 b)).2.2.1), ar E a2 6 ((tS (fun q => ce (a + q)) kd3 mn3 pu3 (tN (fun q => ce (a + q)) kd3 mn3 pu3 b)).2.2.2), ar E a3 6 (fil (rmF ((tS (fun q => ce (a + q)) kd3 mn3 pu3 (tN (fun q => ce (a + q)) kd3 mn3 pu3 b)).2.1) ((tS (fun q => ce (a + q)) kd3 mn3 pu3 (tN (fun q => ce (a + q)) kd3 mn3 pu3 b)).2.2.1)) ro ((tS (fun q => ce (a + q)) kd3 mn3 pu3 (tN (fun q => ce (a + q)) kd3 mn3 pu3 b)).1)), ar E a4 6 (fil (woF ((tS (fun q => ce (a + q)) kd3 mn3 pu3 (tN (fun q => ce (a + q)) kd3 mn3 pu3 b)).2.1) ((tS (fun q => ce (a + q)) kd3 mn3 pu3 (tN (fun q => ce (a + q)) kd3 mn3 pu3 b)).2.2.1)) wo ((tS (fun q => ce (a + q)) kd3 mn3 pu3 (tN (fun q => ce (a + q)) kd3 mn3 pu3 b)).1)), ob hr 2 [.ref s0, .ref s1, .ref s2, .int 0]] H := hP
      have hD : va_D A [ob g0 6 [.ref h0, .ref k0, .ref gs, .ref ht, .ref hd, .ref ho, .ref hr, .ref fo, .ref wy, .int tr, .int (fltF (rtK (nI j) lane (nI a) (nI b) 1 th la ln))], aq E gs 4 sa, ob hs 3 [.ref qs, .int th, .int la, .int (nI ln)], ar E qs 60 ce, ob ht 4 [.ref v0], ob v0 5 [.ref v1, .ref v2, .ref v3, .ref v4, .ref v5, .int (nI ((tS (fun q => ce (a + q)) kd3 mn3 pu3 (tN (fun q => ce (a + q)) kd3 mn3 pu3 b)).1)), .int mo3], ar E v1 6 ((tS (fun q => ce (a + q)) kd3 mn3 pu3 (tN (fun q => ce (a + q)) kd3 mn3 pu3 b)).2.1), ar E v2 6 ((tS (fun q => ce (a + q)) kd3 mn3 pu3 (tN (fun q => ce (a + q)) kd3 mn3 pu3 b)).2.2.1), ar E v3 6 ((tS (fun q => ce (a + q)) kd3 mn3 pu3 (tN (fun q => ce (a + q)) kd3 mn3 pu3 b)).2.2.2), ob h0 5 [.ref a0, .ref a1, .ref a2, .ref a3, .ref a4, .int (nI ((tS (fun q => ce (a + q)) kd3 mn3 pu3 (tN (fun q => ce (a + q)) kd3 mn3 pu3 b)).1)), .int (woF ((tS (fun q => ce (a + q)) kd3 mn3 pu3 (tN (fun q => ce (a + q)) kd3 mn3 pu3 b)).2.1) ((tS (fun q => ce (a + q)) kd3 mn3 pu3 (tN (fun q => ce (a + q)) kd3 mn3 pu3 b)).2.2.1) ((tS (fun q => ce (a + q)) kd3 mn3 pu3 (tN (fun q => ce (a + q)) kd3 mn3 pu3 b)).1) - 1)], ar E a0 6 ((tS (fun q => ce (a + q)) kd3 mn3 pu3 (tN (fun q => ce (a + q)) kd3 mn3 pu3 b)).2.1), ar E a1 6 ((tS (fun q => ce (a + q)) kd3 mn3 pu3 (tN (fun q => ce (a + q)) kd3 mn3 pu3 b)).2.2.1), ar E a2 6 ((tS (fun q => ce (a + q)) kd3 mn3 pu3 (tN (fun q => ce (a + q)) kd3 mn3 pu3 b)).2.2.2), ar E a3 6 (fil (rmF ((tS (fun q => ce (a + q)) kd3 mn3 pu3 (tN (fun q => ce (a + q)) kd3 mn3 pu3 b)).2.1) ((tS (fun q => ce (a + q)) kd3 mn3 pu3 (tN (fun q => ce (a + q)) kd3 mn3 pu3 b)).2.2.1)) ro ((tS (fun q => ce (a + q)) kd3 mn3 pu3 (tN (fun q => ce (a + q)) kd3 mn3 pu3 b)).1)), ar E a4 6 (fil (woF ((tS (fun q => ce (a + q)) kd3 mn3 pu3 (tN (fun q => ce (a + q)) kd3 mn3 pu3 b)).2.1) ((tS (fun q => ce (a + q)) kd3 mn3 pu3 (tN (fun q => ce (a + q)) kd3 mn3 pu3 b)).2.2.1)) wo ((tS (fun q => ce (a + q)) kd3 mn3 pu3 (tN (fun q => ce (a + q)) kd3 mn3 pu3 b)).1)), ob hr 2 [.ref s0, .ref s1, .ref s2, .int 0]] := hD
      refine lv_aload_n hx hb dX6_frame_73 rfl (lv_at hl 2 rfl) ?_
      refine va_get (D := E.1) (ci := 6) (v := .ref h0) (C := RX6) (T := TX6) (N := 11) hx hb hts hinX6 hown hK.1 hP 0 rfl rfl 0 (by decide) fl_12 (fun _ h9 => h9) rfl dX6_frame_74 ?_
      refine va_get (D := E.1) (ci := 5) (v := .int (nI ((tS (fun q => ce (a + q)) kd3 mn3 pu3 (tN (fun q => ce (a + q)) kd3 mn3 pu3 b)).1))) (C := RX5) (T := TX5) (N := 7) hx hb hts hinX5 hown hK.1 hP 9 rfl rfl 5 (by decide) fl_89 (fun _ h9 => h9) rfl dX6_frame_77 ?_
      have e0 : fltF (rtK (nI j) lane (nI a) (nI b) 1 th la ln) = 0 := by rw [c_3]; rfl
      have hok : rtK (nI j) lane (nI a) (nI b) 1 th la ln = 0 ∧ frV ce (nI a) (nI b) kd3 mn3 pu3 = -9 := ⟨c_3, by rw [hV]; exact c_6⟩
      exact hret _ _ _ _ _ () dX6_frame_80 hS (by simp only [if_pos c_3, if_pos hok, hT]; exact hP) (by rw [hV, if_neg (not_not_intro c_3), if_neg (not_not_intro c_6), hT])
    ·
      refine lv_bipush (v := (-100)) hx hb dX6_frame_45 (by decide) ?_
      refine lv_iload hx hb dX6_frame_47 (lv_at hl 0 rfl) ?_
      refine lv_isub hx hb dX6_frame_49 ?_
      have e0 : fltF (rtK (nI j) lane (nI a) (nI b) 1 th la ln) = 0 := by rw [c_3]; rfl
      have hno : ¬ (rtK (nI j) lane (nI a) (nI b) 1 th la ln = 0 ∧ frV ce (nI a) (nI b) kd3 mn3 pu3 = -9) := fun h => c_6 (by rw [← hV]; exact h.2)
      exact hret _ _ _ _ _ () dX6_frame_50 hS (by simp only [if_pos c_3, if_neg hno, hT]; exact hP) (by rw [hV, if_neg (not_not_intro c_3), if_pos c_6])
  ·
    refine lv_iload hx hb dX6_frame_17 (lv_at hl 0 rfl) ?_
    have hno : ¬ (rtK sheet lane i n 1 th la ln = 0 ∧ frV ce i n kd3 mn3 pu3 = -9) := fun h => c_3 h.1
    exact hret _ _ _ _ _ () dX6_frame_19 hS (by simp only [if_neg c_3, if_neg hno]; exact hP) (by rw [if_pos c_3])
set_option maxHeartbeats 4000000 in
set_option maxRecDepth 100000 in
theorem c_X6_isOfDay (l : Launch) (E : gE) (x : Int32) : Met l yX6_isOfDay wsX6_isOfDay ({ frames := 0, cells := 0, slots := 0, locals := 0 }) (PR E [.int x] []) (vp_Si (fun r => r = if dyP x then 1 else 0)) 0 0 (fun _ => False) := by
  refine mkRz (cc := cX6_isOfDay) (maxL := 1) (by decide) rfl (Nat.le_of_ble_eq_true rfl) ?_
  intro p e s m args below meth c QQ hx hb hml hown hmn hts hK hP hret ls hl
  have hown : s.vm.findClass RX6 = some m.cls := hown
  have hl : lv_has ls 1 [(0, .int x)] := hl
  refine lv_iload_n hx hb dX6_isOfDay_0 rfl (lv_at hl 0 rfl) ?_
  refine lv_if_lt (tgt := 9) hx hb dX6_isOfDay_1 (by decide) (fun c_1 => ?_) (fun c_1 => ?_)
  ·
    have c_1b := Int32.not_le.mpr c_1
    refine lv_iload_n hx hb dX6_isOfDay_9 rfl (lv_at hl 0 rfl) ?_
    refine lv_bipush (v := 10) hx hb dX6_isOfDay_10 (by decide) ?_
    refine lv_icmp_lt (tgt := 25) hx hb dX6_isOfDay_12 (by decide) (fun c_2 => ?_) (fun c_2 => ?_)
    ·
      have c_2b := Int32.not_le.mpr c_2
      refine lv_iconst (v := 0) hx hb dX6_isOfDay_25 (by decide) ?_
      exact hret _ _ _ dX6_isOfDay_26 rfl (if_neg (fun h => h.elim (fun q => q.1 c_1) (fun q => q.1 c_2))).symm
    ·
      have c_2b := Int32.not_lt.mp c_2
      refine lv_iload_n hx hb dX6_isOfDay_15 rfl (lv_at hl 0 rfl) ?_
      refine lv_bipush (v := 16) hx hb dX6_isOfDay_16 (by decide) ?_
      refine lv_icmp_ge (tgt := 25) hx hb dX6_isOfDay_18 (by decide) (fun c_3 => ?_) (fun c_3 => ?_)
      ·
        have c_3b := Int32.not_lt.mpr c_3
        refine lv_iconst (v := 0) hx hb dX6_isOfDay_25 (by decide) ?_
        exact hret _ _ _ dX6_isOfDay_26 rfl (if_neg (fun h => h.elim (fun q => q.1 c_1) (fun q => q.2 c_3))).symm
      ·
        have c_3b := Int32.not_le.mp c_3
        refine lv_iconst (v := 1) hx hb dX6_isOfDay_21 (by decide) ?_
        refine lv_goto (tgt := 26) hx hb dX6_isOfDay_22 (by decide) ?_
        exact hret _ _ _ dX6_isOfDay_26 rfl (if_pos (Or.inr ⟨c_2, c_3⟩)).symm
  ·
    have c_1b := Int32.not_lt.mp c_1
    refine lv_iload_n hx hb dX6_isOfDay_4 rfl (lv_at hl 0 rfl) ?_
    refine lv_iconst (v := 4) hx hb dX6_isOfDay_5 (by decide) ?_
    refine lv_icmp_le (tgt := 21) hx hb dX6_isOfDay_6 (by decide) (fun c_4 => ?_) (fun c_4 => ?_)
    ·
      have c_4b := Int32.not_lt.mpr c_4
      refine lv_iconst (v := 1) hx hb dX6_isOfDay_21 (by decide) ?_
      refine lv_goto (tgt := 26) hx hb dX6_isOfDay_22 (by decide) ?_
      exact hret _ _ _ dX6_isOfDay_26 rfl (if_pos (Or.inl ⟨c_1, c_4⟩)).symm
    ·
      have c_4b := Int32.not_le.mp c_4
      refine lv_iload_n hx hb dX6_isOfDay_9 rfl (lv_at hl 0 rfl) ?_
      refine lv_bipush (v := 10) hx hb dX6_isOfDay_10 (by decide) ?_
      refine lv_icmp_lt (tgt := 25) hx hb dX6_isOfDay_12 (by decide) (fun c_5 => ?_) (fun c_5 => ?_)
      ·
        have c_5b := Int32.not_le.mpr c_5
        refine lv_iconst (v := 0) hx hb dX6_isOfDay_25 (by decide) ?_
        exact hret _ _ _ dX6_isOfDay_26 rfl (if_neg (fun h => h.elim (fun q => c_4 q.2) (fun q => q.1 c_5))).symm
      ·
        have c_5b := Int32.not_lt.mp c_5
        refine lv_iload_n hx hb dX6_isOfDay_15 rfl (lv_at hl 0 rfl) ?_
        refine lv_bipush (v := 16) hx hb dX6_isOfDay_16 (by decide) ?_
        refine lv_icmp_ge (tgt := 25) hx hb dX6_isOfDay_18 (by decide) (fun c_6 => ?_) (fun c_6 => ?_)
        ·
          have c_6b := Int32.not_lt.mpr c_6
          refine lv_iconst (v := 0) hx hb dX6_isOfDay_25 (by decide) ?_
          exact hret _ _ _ dX6_isOfDay_26 rfl (if_neg (fun h => h.elim (fun q => c_4 q.2) (fun q => q.2 c_6))).symm
        ·
          have c_6b := Int32.not_le.mp c_6
          refine lv_iconst (v := 1) hx hb dX6_isOfDay_21 (by decide) ?_
          refine lv_goto (tgt := 26) hx hb dX6_isOfDay_22 (by decide) ?_
          exact hret _ _ _ dX6_isOfDay_26 rfl (if_pos (Or.inr ⟨c_5, c_6⟩)).symm
set_option maxHeartbeats 4000000 in
set_option maxRecDepth 100000 in
theorem c_X6_actsRefusal (l : Launch) (E : gE) (g0 : Nat) (h0 : Nat) (k0 : Nat) (gs : Nat) (ht : Nat) (hd : Nat) (ho : Nat) (hr : Nat) (fo : Nat) (wy : Nat) (tr : Int32) (lf : Int32) (a0 : Nat) (a1 : Nat) (a2 : Nat) (a3 : Nat) (a4 : Nat) (n : Nat) (mo : Int32) (hs : Nat) (qs : Nat) (th : Int32) (la : Int32) (ln : Nat) (ce : Nat → Int32) (i : Nat) (nn : Nat) (hn : n ≤ 6) (h60 : ln ≤ 60) (hin : i + 2 * nn ≤ ln) : Met l yX6_actsRefusal wsX6_actsRefusal ({ frames := 1, cells := 0, slots := 0, locals := 21 }) (PR E [.ref g0, .ref hs, .int (nI i), .int (nI nn)] [ob g0 6 [.ref h0, .ref k0, .ref gs, .ref ht, .ref hd, .ref ho, .ref hr, .ref fo, .ref wy, .int tr, .int lf], ob h0 5 [.ref a0, .ref a1, .ref a2, .ref a3, .ref a4, .int (nI n), .int mo], ob hs 3 [.ref qs, .int th, .int la, .int (nI ln)], ar E qs 60 ce]) (vp_Si (fun r => r = acR ce i n nn)) 0 0 (fun _ => False) := by
  refine mkRi (cc := cX6_actsRefusal) (maxL := 8) (by decide) rfl (Nat.le_of_ble_eq_true rfl) ?_
  intro p e s m args below meth c QQ hx hb hml hown hmn hts hK hP hret ls hl
  have hown : s.vm.findClass RX6 = some m.cls := hown
  have hl : lv_has ls 8 [(0, .ref g0), (1, .ref hs), (2, .int (nI i)), (3, .int (nI nn))] := hl
  have hinX6 : ∀ w ∈ wsX60, w ∈ wsX6_actsRefusal := by decide +kernel
  have fl_12 := hts (.fieldLink RX6 12 "GuardAbacus" "wires" "LGuardAbacus$Wires;") (by decide +kernel)
  refine lv_iconst (v := 0) hx hb dX6_actsRefusal_0 (by decide) ?_
  refine lv_istore (lv' := [(4, .int 0), (0, .ref g0), (1, .ref hs), (2, .int (nI i)), (3, .int (nI nn))]) hx hb dX6_actsRefusal_1 hl (by decide) rfl (fun ls hl => ?_)
  have L3 : ∀ (fuel : Nat) (k : Nat), (k ≤ nn) → (acR ce i n k = 0) → (nn - k) < fuel → ∀ ls : Array Slot, lv_has ls 8 [(4, .int (nI k)), (0, .ref g0), (1, .ref hs), (2, .int (nI i)), (3, .int (nI nn))] → W p l e ({ frames := 1, cells := 0, slots := 0, locals := 21 }) s m args below meth c s.heap [] 0 0 QQ (F0 m 3 ls []) := by
    intro fuel
    induction fuel with
    | zero => intro k hk hq hf; exact absurd hf (Nat.not_lt_zero _)
    | succ fuel ih3 =>
      intro k hk hq hf3 ls hl
      refine lv_iload hx hb dX6_actsRefusal_3 (lv_at hl 0 rfl) ?_
      refine lv_iload_n hx hb dX6_actsRefusal_5 rfl (lv_at hl 4 rfl) ?_
      refine icmpN_ge (tgt := 120) (a := k) (b := nn) hx hb rfl rfl (by omega) (by omega) dX6_actsRefusal_6 (by decide) (fun c_1 => ?_) (fun c_1 => ?_)
      ·
        obtain rfl : nn = k := by omega
        refine lv_iconst (v := 0) hx hb dX6_actsRefusal_120 (by decide) ?_
        exact hret _ _ _ dX6_actsRefusal_121 hq.symm
      ·
        refine lv_aload_n hx hb dX6_actsRefusal_9 rfl (lv_at hl 2 rfl) ?_
        refine lv_iload_n hx hb dX6_actsRefusal_10 rfl (lv_at hl 3 rfl) ?_
        refine lv_iconst (v := 2) hx hb dX6_actsRefusal_11 (by decide) ?_
        refine lv_iload hx hb dX6_actsRefusal_12 (lv_at hl 0 rfl) ?_
        refine N_imul (a := 2) (b := k) hx hb rfl rfl dX6_actsRefusal_14 ?_
        refine N_iadd (a := i) (b := 2 * k) hx hb rfl rfl dX6_actsRefusal_15 ?_
        refine crV (As := [.int (nI (i + (2 * k)))]) (rest := []) ⟨hx, hb, hml, hown, hts⟩ (c_X3_at l E hs qs th la ln ce (nI (i + (2 * k))) (i + (2 * k)) (by first | assumption | omega) (by first | assumption | omega) rfl) (cwV 1 hts gX6_actsRefusal_X3_at rfl rfl rfl (by decide +kernel) ⟨Nat.le_of_ble_eq_true rfl, Nat.le_of_ble_eq_true rfl⟩) hK hP [2, 3] rfl 0 rfl rfl rfl rfl hl.1 rfl (catLe (Nat.le_of_ble_eq_true rfl)) dX6_actsRefusal_16 ⟨Nat.zero_le _, Nat.zero_le _⟩ (fun r_2 hr_2 => ?_)
        subst hr_2
        refine lv_istore (lv' := [(5, .int (ce (i + (2 * k)))), (4, .int (nI k)), (0, .ref g0), (1, .ref hs), (2, .int (nI i)), (3, .int (nI nn))]) hx hb dX6_actsRefusal_19 hl (by decide) rfl (fun ls hl => ?_)
        refine lv_aload_n hx hb dX6_actsRefusal_21 rfl (lv_at hl 3 rfl) ?_
        refine lv_iload_n hx hb dX6_actsRefusal_22 rfl (lv_at hl 4 rfl) ?_
        refine lv_iconst (v := 2) hx hb dX6_actsRefusal_23 (by decide) ?_
        refine lv_iload hx hb dX6_actsRefusal_24 (lv_at hl 1 rfl) ?_
        refine N_imul (a := 2) (b := k) hx hb rfl rfl dX6_actsRefusal_26 ?_
        refine N_iadd (a := i) (b := 2 * k) hx hb rfl rfl dX6_actsRefusal_27 ?_
        refine lv_iconst (v := 1) hx hb dX6_actsRefusal_28 (by decide) ?_
        refine N_iadd (a := i + (2 * k)) (b := 1) hx hb rfl rfl dX6_actsRefusal_29 ?_
        refine crV (As := [.int (nI ((i + (2 * k)) + 1))]) (rest := []) ⟨hx, hb, hml, hown, hts⟩ (c_X3_at l E hs qs th la ln ce (nI ((i + (2 * k)) + 1)) ((i + (2 * k)) + 1) (by first | assumption | omega) (by first | assumption | omega) rfl) (cwV 1 hts gX6_actsRefusal_X3_at rfl rfl rfl (by decide +kernel) ⟨Nat.le_of_ble_eq_true rfl, Nat.le_of_ble_eq_true rfl⟩) hK hP [2, 3] rfl 0 rfl rfl rfl rfl hl.1 rfl (catLe (Nat.le_of_ble_eq_true rfl)) dX6_actsRefusal_30 ⟨Nat.zero_le _, Nat.zero_le _⟩ (fun r_3 hr_3 => ?_)
        subst hr_3
        refine lv_istore (lv' := [(6, .int (ce ((i + (2 * k)) + 1))), (5, .int (ce (i + (2 * k)))), (4, .int (nI k)), (0, .ref g0), (1, .ref hs), (2, .int (nI i)), (3, .int (nI nn))]) hx hb dX6_actsRefusal_33 hl (by decide) rfl (fun ls hl => ?_)
        refine lv_iload hx hb dX6_actsRefusal_35 (lv_at hl 0 rfl) ?_
        refine lv_if_eq (tgt := 46) hx hb dX6_actsRefusal_37 (by decide) (fun c_4 => ?_) (fun c_4 => ?_)
        ·
          refine lv_iconst (v := 1) hx hb dX6_actsRefusal_46 (by decide) ?_
          refine lv_goto (tgt := 51) hx hb dX6_actsRefusal_47 (by decide) ?_
          refine lv_istore (lv' := [(7, .int 1), (6, .int (ce ((i + (2 * k)) + 1))), (5, .int (ce (i + (2 * k)))), (4, .int (nI k)), (0, .ref g0), (1, .ref hs), (2, .int (nI i)), (3, .int (nI nn))]) hx hb dX6_actsRefusal_51 hl (by decide) rfl (fun ls hl => ?_)
          refine lv_iload hx hb dX6_actsRefusal_53 (lv_at hl 0 rfl) ?_
          refine ifN_ne (tgt := 75) (a := 1) hx hb rfl (by omega) dX6_actsRefusal_55 (by decide) (fun c_5 => ?_) (fun c_5 => ?_)
          ·
            refine lv_iload hx hb dX6_actsRefusal_75 (lv_at hl 0 rfl) ?_
            refine ifN_eq (tgt := 95) (a := 1) hx hb rfl (by omega) dX6_actsRefusal_77 (by decide) (fun c_6 => ?_) (fun c_6 => ?_)
            ·
              exact absurd c_6 (by decide)
            ·
              refine lv_iload hx hb dX6_actsRefusal_80 (lv_at hl 2 rfl) ?_
              refine lv_if_lt (tgt := 92) hx hb dX6_actsRefusal_82 (by decide) (fun c_7 => ?_) (fun c_7 => ?_)
              ·
                have c_7b := Int32.not_le.mpr c_7
                refine lv_bipush (v := (-2)) hx hb dX6_actsRefusal_92 (by decide) ?_
                exact hret _ _ _ dX6_actsRefusal_94 (acR_hit hq (by simp [acF, c_4, c_5, c_6, c_7, c_7b]) (by decide) nn (by omega)).symm
              ·
                have c_7b := Int32.not_lt.mp c_7
                refine lv_iload hx hb dX6_actsRefusal_85 (lv_at hl 2 rfl) ?_
                refine lv_ldc hx hb hown (hts (.constant RX6 155 (99999)) (by decide +kernel)) dX6_actsRefusal_87 ?_
                refine lv_icmp_le (tgt := 95) hx hb dX6_actsRefusal_89 (by decide) (fun c_8 => ?_) (fun c_8 => ?_)
                ·
                  have c_8b := Int32.not_lt.mpr c_8
                  refine lv_iload hx hb dX6_actsRefusal_95 (lv_at hl 0 rfl) ?_
                  refine ifN_ne (tgt := 114) (a := 1) hx hb rfl (by omega) dX6_actsRefusal_97 (by decide) (fun c_9 => ?_) (fun c_9 => ?_)
                  ·
                    refine lv_iinc (v := nI (k + 1)) (lv' := [(4, .int (nI (k + 1))), (7, .int 1), (6, .int (ce ((i + (2 * k)) + 1))), (5, .int (ce (i + (2 * k)))), (0, .ref g0), (1, .ref hs), (2, .int (nI i)), (3, .int (nI nn))]) hx hb dX6_actsRefusal_114 hl (k := 3) rfl (nI_inc k) (by decide) rfl (fun ls hl => ?_)
                    refine lv_goto (tgt := 3) hx hb dX6_actsRefusal_117 (by decide) ?_
                    exact ih3 (k + 1) (by omega) (by rw [acR, if_pos hq]; simp [acF, c_4, c_5, c_6, c_7, c_8, c_9, c_7b, c_8b]) (by omega) ls (lv_sub hl [0, 4, 5, 6, 7] rfl)
                  ·
                    exact absurd c_9 (by decide)
                ·
                  have c_8b := Int32.not_le.mp c_8
                  refine lv_bipush (v := (-2)) hx hb dX6_actsRefusal_92 (by decide) ?_
                  exact hret _ _ _ dX6_actsRefusal_94 (acR_hit hq (by simp [acF, c_4, c_5, c_6, c_7, c_8, c_7b, c_8b]) (by decide) nn (by omega)).symm
          ·
            exact absurd c_5 (by decide)
        ·
          refine lv_iload hx hb dX6_actsRefusal_40 (lv_at hl 0 rfl) ?_
          refine lv_iconst (v := 1) hx hb dX6_actsRefusal_42 (by decide) ?_
          refine lv_icmp_ne (tgt := 50) hx hb dX6_actsRefusal_43 (by decide) (fun c_10 => ?_) (fun c_10 => ?_)
          ·
            refine lv_iconst (v := 0) hx hb dX6_actsRefusal_50 (by decide) ?_
            refine lv_istore (lv' := [(7, .int 0), (6, .int (ce ((i + (2 * k)) + 1))), (5, .int (ce (i + (2 * k)))), (4, .int (nI k)), (0, .ref g0), (1, .ref hs), (2, .int (nI i)), (3, .int (nI nn))]) hx hb dX6_actsRefusal_51 hl (by decide) rfl (fun ls hl => ?_)
            refine lv_iload hx hb dX6_actsRefusal_53 (lv_at hl 0 rfl) ?_
            refine ifN_ne (tgt := 75) (a := 0) hx hb rfl (by omega) dX6_actsRefusal_55 (by decide) (fun c_11 => ?_) (fun c_11 => ?_)
            ·
              exact absurd c_11 (by decide)
            ·
              refine lv_iload hx hb dX6_actsRefusal_58 (lv_at hl 1 rfl) ?_
              refine lv_bipush (v := 10) hx hb dX6_actsRefusal_60 (by decide) ?_
              refine lv_icmp_lt (tgt := 72) hx hb dX6_actsRefusal_62 (by decide) (fun c_12 => ?_) (fun c_12 => ?_)
              ·
                have c_12b := Int32.not_le.mpr c_12
                refine lv_bipush (v := (-2)) hx hb dX6_actsRefusal_72 (by decide) ?_
                exact hret _ _ _ dX6_actsRefusal_74 (acR_hit hq (by simp [acF, c_4, c_10, c_11, c_12, c_12b]) (by decide) nn (by omega)).symm
              ·
                have c_12b := Int32.not_lt.mp c_12
                refine lv_iload hx hb dX6_actsRefusal_65 (lv_at hl 1 rfl) ?_
                refine lv_bipush (v := 28) hx hb dX6_actsRefusal_67 (by decide) ?_
                refine lv_icmp_le (tgt := 75) hx hb dX6_actsRefusal_69 (by decide) (fun c_13 => ?_) (fun c_13 => ?_)
                ·
                  have c_13b := Int32.not_lt.mpr c_13
                  refine lv_iload hx hb dX6_actsRefusal_75 (lv_at hl 0 rfl) ?_
                  refine ifN_eq (tgt := 95) (a := 0) hx hb rfl (by omega) dX6_actsRefusal_77 (by decide) (fun c_14 => ?_) (fun c_14 => ?_)
                  ·
                    refine lv_iload hx hb dX6_actsRefusal_95 (lv_at hl 0 rfl) ?_
                    refine ifN_ne (tgt := 114) (a := 0) hx hb rfl (by omega) dX6_actsRefusal_97 (by decide) (fun c_15 => ?_) (fun c_15 => ?_)
                    ·
                      exact absurd c_15 (by decide)
                    ·
                      refine lv_aload_n hx hb dX6_actsRefusal_100 rfl (lv_at hl 4 rfl) ?_
                      refine va_get (D := E.1) (ci := 6) (v := .ref h0) (C := RX6) (T := TX6) (N := 11) hx hb hts hinX6 hown hK.1 hP 0 rfl rfl 0 (by decide) fl_12 (fun _ h9 => h9) rfl dX6_actsRefusal_101 ?_
                      refine lv_iload hx hb dX6_actsRefusal_104 (lv_at hl 2 rfl) ?_
                      refine crV (As := [.int (ce (i + (2 * k)))]) (rest := []) ⟨hx, hb, hml, hown, hts⟩ (c_X5_has l E h0 a0 a1 a2 a3 a4 n mo (ce (i + (2 * k))) (by first | assumption | omega)) (cwV 1 hts gX6_actsRefusal_X5_has rfl rfl rfl (by decide +kernel) ⟨Nat.le_of_ble_eq_true rfl, Nat.le_of_ble_eq_true rfl⟩) hK hP [1] rfl 0 rfl rfl rfl rfl hl.1 rfl (catLe (Nat.le_of_ble_eq_true rfl)) dX6_actsRefusal_106 ⟨Nat.zero_le _, Nat.zero_le _⟩ (fun r_16 hr_16 => ?_)
                      subst hr_16
                      refine ifB_ne (P := hasP n (ce (i + (2 * k)))) (tgt := 114) hx hb dX6_actsRefusal_109 (by decide) (fun c_17 => ?_) (fun c_17 => ?_)
                      ·
                        refine lv_iinc (v := nI (k + 1)) (lv' := [(4, .int (nI (k + 1))), (7, .int 0), (6, .int (ce ((i + (2 * k)) + 1))), (5, .int (ce (i + (2 * k)))), (0, .ref g0), (1, .ref hs), (2, .int (nI i)), (3, .int (nI nn))]) hx hb dX6_actsRefusal_114 hl (k := 3) rfl (nI_inc k) (by decide) rfl (fun ls hl => ?_)
                        refine lv_goto (tgt := 3) hx hb dX6_actsRefusal_117 (by decide) ?_
                        exact ih3 (k + 1) (by omega) (by rw [acR, if_pos hq]; simp [acF, c_4, c_10, c_11, c_12, c_13, c_14, c_15, c_17, c_12b, c_13b]) (by omega) ls (lv_sub hl [0, 4, 5, 6, 7] rfl)
                      ·
                        refine lv_iconst (v := (-1)) hx hb dX6_actsRefusal_112 (by decide) ?_
                        exact hret _ _ _ dX6_actsRefusal_113 (acR_hit hq (by simp [acF, c_4, c_10, c_11, c_12, c_13, c_14, c_15, c_17, c_12b, c_13b]) (by decide) nn (by omega)).symm
                  ·
                    exact absurd c_14 (by decide)
                ·
                  have c_13b := Int32.not_le.mp c_13
                  refine lv_bipush (v := (-2)) hx hb dX6_actsRefusal_72 (by decide) ?_
                  exact hret _ _ _ dX6_actsRefusal_74 (acR_hit hq (by simp [acF, c_4, c_10, c_11, c_12, c_13, c_12b, c_13b]) (by decide) nn (by omega)).symm
          ·
            refine lv_iconst (v := 1) hx hb dX6_actsRefusal_46 (by decide) ?_
            refine lv_goto (tgt := 51) hx hb dX6_actsRefusal_47 (by decide) ?_
            refine lv_istore (lv' := [(7, .int 1), (6, .int (ce ((i + (2 * k)) + 1))), (5, .int (ce (i + (2 * k)))), (4, .int (nI k)), (0, .ref g0), (1, .ref hs), (2, .int (nI i)), (3, .int (nI nn))]) hx hb dX6_actsRefusal_51 hl (by decide) rfl (fun ls hl => ?_)
            refine lv_iload hx hb dX6_actsRefusal_53 (lv_at hl 0 rfl) ?_
            refine ifN_ne (tgt := 75) (a := 1) hx hb rfl (by omega) dX6_actsRefusal_55 (by decide) (fun c_18 => ?_) (fun c_18 => ?_)
            ·
              refine lv_iload hx hb dX6_actsRefusal_75 (lv_at hl 0 rfl) ?_
              refine ifN_eq (tgt := 95) (a := 1) hx hb rfl (by omega) dX6_actsRefusal_77 (by decide) (fun c_19 => ?_) (fun c_19 => ?_)
              ·
                exact absurd c_19 (by decide)
              ·
                refine lv_iload hx hb dX6_actsRefusal_80 (lv_at hl 2 rfl) ?_
                refine lv_if_lt (tgt := 92) hx hb dX6_actsRefusal_82 (by decide) (fun c_20 => ?_) (fun c_20 => ?_)
                ·
                  have c_20b := Int32.not_le.mpr c_20
                  refine lv_bipush (v := (-2)) hx hb dX6_actsRefusal_92 (by decide) ?_
                  exact hret _ _ _ dX6_actsRefusal_94 (acR_hit hq (by simp [acF, c_4, c_10, c_18, c_19, c_20, c_20b]) (by decide) nn (by omega)).symm
                ·
                  have c_20b := Int32.not_lt.mp c_20
                  refine lv_iload hx hb dX6_actsRefusal_85 (lv_at hl 2 rfl) ?_
                  refine lv_ldc hx hb hown (hts (.constant RX6 155 (99999)) (by decide +kernel)) dX6_actsRefusal_87 ?_
                  refine lv_icmp_le (tgt := 95) hx hb dX6_actsRefusal_89 (by decide) (fun c_21 => ?_) (fun c_21 => ?_)
                  ·
                    have c_21b := Int32.not_lt.mpr c_21
                    refine lv_iload hx hb dX6_actsRefusal_95 (lv_at hl 0 rfl) ?_
                    refine ifN_ne (tgt := 114) (a := 1) hx hb rfl (by omega) dX6_actsRefusal_97 (by decide) (fun c_22 => ?_) (fun c_22 => ?_)
                    ·
                      refine lv_iinc (v := nI (k + 1)) (lv' := [(4, .int (nI (k + 1))), (7, .int 1), (6, .int (ce ((i + (2 * k)) + 1))), (5, .int (ce (i + (2 * k)))), (0, .ref g0), (1, .ref hs), (2, .int (nI i)), (3, .int (nI nn))]) hx hb dX6_actsRefusal_114 hl (k := 3) rfl (nI_inc k) (by decide) rfl (fun ls hl => ?_)
                      refine lv_goto (tgt := 3) hx hb dX6_actsRefusal_117 (by decide) ?_
                      exact ih3 (k + 1) (by omega) (by rw [acR, if_pos hq]; simp [acF, c_4, c_10, c_18, c_19, c_20, c_21, c_22, c_20b, c_21b]) (by omega) ls (lv_sub hl [0, 4, 5, 6, 7] rfl)
                    ·
                      exact absurd c_22 (by decide)
                  ·
                    have c_21b := Int32.not_le.mp c_21
                    refine lv_bipush (v := (-2)) hx hb dX6_actsRefusal_92 (by decide) ?_
                    exact hret _ _ _ dX6_actsRefusal_94 (acR_hit hq (by simp [acF, c_4, c_10, c_18, c_19, c_20, c_21, c_20b, c_21b]) (by decide) nn (by omega)).symm
            ·
              exact absurd c_18 (by decide)
  exact L3 _ 0 (by omega) rfl (Nat.lt_succ_self _) ls (lv_sub hl [0, 1, 2, 3, 4] rfl)
set_option maxHeartbeats 4000000 in
set_option maxRecDepth 100000 in
theorem c_X6_ofDay (l : Launch) (E : gE) (g0 : Nat) (h0 : Nat) (k0 : Nat) (gs : Nat) (ht : Nat) (hd : Nat) (ho : Nat) (hr : Nat) (fo : Nat) (wy : Nat) (tr : Int32) (lf : Int32) (b0 : Nat) (b1 : Nat) (b2 : Nat) (b3 : Nat) (b4 : Nat) (n2 : Nat) (mo2 : Int32) (pu2 : Nat → Int32) (wo2 : Nat → Int32) (fw : Int32) (sl : Int32) (cr : Int32) (gr : Int32) (what : Int32) (hn2 : n2 ≤ 6) : Met l yX6_ofDay wsX6_ofDay ({ frames := 1, cells := 0, slots := 0, locals := 22 }) (PR E [.ref g0, .int what] [ob g0 6 [.ref h0, .ref k0, .ref gs, .ref ht, .ref hd, .ref ho, .ref hr, .ref fo, .ref wy, .int tr, .int lf], ob k0 5 [.ref b0, .ref b1, .ref b2, .ref b3, .ref b4, .int (nI n2), .int mo2], ar E b2 6 pu2, ar E b4 6 wo2, ob hd 0 [.int fw, .int sl, .int cr, .int gr]]) (vp_Si (fun r => r = ofD what (fw, (pu2, sl, cr), gr) n2 wo2)) 0 0 (fun _ => False) := by
  refine mkRi (cc := cX6_ofDay) (maxL := 2) (by decide) rfl (Nat.le_of_ble_eq_true rfl) ?_
  intro p e s m args below meth c QQ hx hb hml hown hmn hts hK hP hret ls hl
  have hown : s.vm.findClass RX6 = some m.cls := hown
  have hl : lv_has ls 2 [(0, .ref g0), (1, .int what)] := hl
  have hinX0 : ∀ w ∈ wsX00, w ∈ wsX6_ofDay := by decide +kernel
  have hinX5 : ∀ w ∈ wsX50, w ∈ wsX6_ofDay := by decide +kernel
  have hinX6 : ∀ w ∈ wsX60, w ∈ wsX6_ofDay := by decide +kernel
  have fl_18 := hts (.fieldLink RX6 18 "GuardAbacus" "trial" "LGuardAbacus$Wires;") (by decide +kernel)
  have fl_37 := hts (.fieldLink RX6 37 "GuardAbacus" "told" "LGuardAbacus$Day;") (by decide +kernel)
  have fl_103 := hts (.fieldLink RX6 103 "GuardAbacus$Wires" "pushed" "[I") (by decide +kernel)
  have fl_156 := hts (.fieldLink RX6 156 "GuardAbacus$Day" "firstWrong" "I") (by decide +kernel)
  have fl_159 := hts (.fieldLink RX6 159 "GuardAbacus$Day" "slid" "I") (by decide +kernel)
  have fl_162 := hts (.fieldLink RX6 162 "GuardAbacus$Day" "carried" "I") (by decide +kernel)
  have fl_165 := hts (.fieldLink RX6 165 "GuardAbacus$Day" "greatest" "I") (by decide +kernel)
  refine lv_iload_n hx hb dX6_ofDay_0 rfl (lv_at hl 1 rfl) ?_
  refine lv_iconst (v := 1) hx hb dX6_ofDay_1 (by decide) ?_
  refine lv_icmp_ne (tgt := 13) hx hb dX6_ofDay_2 (by decide) (fun c_1 => ?_) (fun c_1 => ?_)
  ·
    refine lv_aload_n hx hb dX6_ofDay_13 rfl (lv_at hl 0 rfl) ?_
    refine va_get (D := E.1) (ci := 6) (v := .ref hd) (C := RX6) (T := TX6) (N := 11) hx hb hts hinX6 hown hK.1 hP 0 rfl rfl 4 (by decide) fl_37 (fun _ h9 => h9) rfl dX6_ofDay_14 ?_
    refine va_get (D := E.1) (ci := 0) (v := .int fw) (C := RX0) (T := TX0) (N := 4) hx hb hts hinX0 hown hK.1 hP 4 rfl rfl 0 (by decide) fl_156 (fun _ h9 => h9) rfl dX6_ofDay_17 ?_
    refine lv_bipush (v := (-9)) hx hb dX6_ofDay_20 (by decide) ?_
    refine lv_icmp_eq (tgt := 36) hx hb dX6_ofDay_22 (by decide) (fun c_2 => ?_) (fun c_2 => ?_)
    ·
      refine lv_iload_n hx hb dX6_ofDay_36 rfl (lv_at hl 1 rfl) ?_
      by_cases q_3 : what = 0
      ·
        subst q_3
        refine lv_tableIn (off := 35) (tgt := 72) hx hb dX6_ofDay_37 (by decide) (by decide) rfl (by decide) ?_
        refine lv_aload_n hx hb dX6_ofDay_72 rfl (lv_at hl 0 rfl) ?_
        refine va_get (D := E.1) (ci := 6) (v := .ref k0) (C := RX6) (T := TX6) (N := 11) hx hb hts hinX6 hown hK.1 hP 0 rfl rfl 1 (by decide) fl_18 (fun _ h9 => h9) rfl dX6_ofDay_73 ?_
        refine crV (As := []) (rest := []) ⟨hx, hb, hml, hown, hts⟩ (c_X5_numberNow l E k0 b0 b1 b2 b3 b4 n2 mo2 pu2 wo2 (by first | assumption | omega)) (cwV 0 hts gX6_ofDay_X5_numberNow rfl rfl rfl (by decide +kernel) ⟨Nat.le_of_ble_eq_true rfl, Nat.le_of_ble_eq_true rfl⟩) hK hP [1, 2, 3] rfl 0 rfl rfl rfl rfl hl.1 rfl (catLe (Nat.le_of_ble_eq_true rfl)) dX6_ofDay_76 ⟨Nat.zero_le _, Nat.zero_le _⟩ (fun r_4 hr_4 => ?_)
        subst hr_4
        exact hret _ _ _ dX6_ofDay_79 (by simp [ofD, c_1, c_2])
      by_cases q_5 : what = 1
      ·
        subst q_5
        refine lv_tableIn (off := 67) (tgt := 104) hx hb dX6_ofDay_37 (by decide) (by decide) rfl (by decide) ?_
        exact absurd rfl c_1
      by_cases q_6 : what = 2
      ·
        subst q_6
        refine lv_tableIn (off := 43) (tgt := 80) hx hb dX6_ofDay_37 (by decide) (by decide) rfl (by decide) ?_
        refine lv_aload_n hx hb dX6_ofDay_80 rfl (lv_at hl 0 rfl) ?_
        refine va_get (D := E.1) (ci := 6) (v := .ref hd) (C := RX6) (T := TX6) (N := 11) hx hb hts hinX6 hown hK.1 hP 0 rfl rfl 4 (by decide) fl_37 (fun _ h9 => h9) rfl dX6_ofDay_81 ?_
        refine va_get (D := E.1) (ci := 0) (v := .int sl) (C := RX0) (T := TX0) (N := 4) hx hb hts hinX0 hown hK.1 hP 4 rfl rfl 1 (by decide) fl_159 (fun _ h9 => h9) rfl dX6_ofDay_84 ?_
        exact hret _ _ _ dX6_ofDay_87 (by simp [ofD, c_1, c_2])
      by_cases q_7 : what = 3
      ·
        subst q_7
        refine lv_tableIn (off := 51) (tgt := 88) hx hb dX6_ofDay_37 (by decide) (by decide) rfl (by decide) ?_
        refine lv_aload_n hx hb dX6_ofDay_88 rfl (lv_at hl 0 rfl) ?_
        refine va_get (D := E.1) (ci := 6) (v := .ref hd) (C := RX6) (T := TX6) (N := 11) hx hb hts hinX6 hown hK.1 hP 0 rfl rfl 4 (by decide) fl_37 (fun _ h9 => h9) rfl dX6_ofDay_89 ?_
        refine va_get (D := E.1) (ci := 0) (v := .int cr) (C := RX0) (T := TX0) (N := 4) hx hb hts hinX0 hown hK.1 hP 4 rfl rfl 2 (by decide) fl_162 (fun _ h9 => h9) rfl dX6_ofDay_92 ?_
        exact hret _ _ _ dX6_ofDay_95 (by simp [ofD, c_1, c_2])
      by_cases q_8 : what = 4
      ·
        subst q_8
        refine lv_tableIn (off := 59) (tgt := 96) hx hb dX6_ofDay_37 (by decide) (by decide) rfl (by decide) ?_
        refine lv_aload_n hx hb dX6_ofDay_96 rfl (lv_at hl 0 rfl) ?_
        refine va_get (D := E.1) (ci := 6) (v := .ref hd) (C := RX6) (T := TX6) (N := 11) hx hb hts hinX6 hown hK.1 hP 0 rfl rfl 4 (by decide) fl_37 (fun _ h9 => h9) rfl dX6_ofDay_97 ?_
        refine va_get (D := E.1) (ci := 0) (v := .int gr) (C := RX0) (T := TX0) (N := 4) hx hb hts hinX0 hown hK.1 hP 4 rfl rfl 3 (by decide) fl_165 (fun _ h9 => h9) rfl dX6_ofDay_100 ?_
        exact hret _ _ _ dX6_ofDay_103 (by simp [ofD, c_1, c_2])
      refine lv_tableOut (tgt := 104) hx hb dX6_ofDay_37 (by have z0 := lv_neT q_3 (show (0 : Int32).toInt = 0 from rfl); have z1 := lv_neT q_5 (show (1 : Int32).toInt = 1 from rfl); have z2 := lv_neT q_6 (show (2 : Int32).toInt = 2 from rfl); have z3 := lv_neT q_7 (show (3 : Int32).toInt = 3 from rfl); have z4 := lv_neT q_8 (show (4 : Int32).toInt = 4 from rfl); omega) (by decide) ?_
      refine lv_aload_n hx hb dX6_ofDay_104 rfl (lv_at hl 0 rfl) ?_
      refine va_get (D := E.1) (ci := 6) (v := .ref k0) (C := RX6) (T := TX6) (N := 11) hx hb hts hinX6 hown hK.1 hP 0 rfl rfl 1 (by decide) fl_18 (fun _ h9 => h9) rfl dX6_ofDay_105 ?_
      refine lv_iload_n hx hb dX6_ofDay_108 rfl (lv_at hl 1 rfl) ?_
      refine lv_bipush (v := 10) hx hb dX6_ofDay_109 (by decide) ?_
      refine lv_isub hx hb dX6_ofDay_111 ?_
      refine crV (As := [.int (what - 10)]) (rest := []) ⟨hx, hb, hml, hown, hts⟩ (c_X5_has l E k0 b0 b1 b2 b3 b4 n2 mo2 (what - 10) (by first | assumption | omega)) (cwV 1 hts gX6_ofDay_X5_has rfl rfl rfl (by decide +kernel) ⟨Nat.le_of_ble_eq_true rfl, Nat.le_of_ble_eq_true rfl⟩) hK hP [1] rfl 0 rfl rfl rfl rfl hl.1 rfl (catLe (Nat.le_of_ble_eq_true rfl)) dX6_ofDay_112 ⟨Nat.zero_le _, Nat.zero_le _⟩ (fun r_9 hr_9 => ?_)
      subst hr_9
      refine ifB_eq (P := hasP n2 (what - 10)) (tgt := 133) hx hb dX6_ofDay_115 (by decide) (fun c_10 => ?_) (fun c_10 => ?_)
      ·
        refine lv_bipush (v := (-9)) hx hb dX6_ofDay_133 (by decide) ?_
        exact hret _ _ _ dX6_ofDay_135 (by simp [ofD, c_1, c_2, q_3, q_5, q_6, q_7, q_8, c_10])
      ·
        refine lv_aload_n hx hb dX6_ofDay_118 rfl (lv_at hl 0 rfl) ?_
        refine va_get (D := E.1) (ci := 6) (v := .ref k0) (C := RX6) (T := TX6) (N := 11) hx hb hts hinX6 hown hK.1 hP 0 rfl rfl 1 (by decide) fl_18 (fun _ h9 => h9) rfl dX6_ofDay_119 ?_
        refine va_get (D := E.1) (ci := 5) (v := .ref b2) (C := RX5) (T := TX5) (N := 7) hx hb hts hinX5 hown hK.1 hP 1 rfl rfl 2 (by decide) fl_103 (fun _ h9 => h9) rfl dX6_ofDay_122 ?_
        refine lv_iload_n hx hb dX6_ofDay_125 rfl (lv_at hl 1 rfl) ?_
        refine lv_bipush (v := 10) hx hb dX6_ofDay_126 (by decide) ?_
        refine lv_isub hx hb dX6_ofDay_128 ?_
        obtain ⟨z, hz, ez⟩ := hasP_of c_10 hn2
        refine ild hx hb hK hP 2 rfl (j := z) ez (by omega) (by decide) dX6_ofDay_129 ?_
        refine lv_goto (tgt := 135) hx hb dX6_ofDay_130 (by decide) ?_
        exact hret _ _ _ dX6_ofDay_135 (by rw [ofD, if_neg c_1, if_neg (not_not_intro c_2), if_neg q_3, if_neg q_6, if_neg q_7, if_neg q_8, if_pos c_10, ez, ix_nI (by omega)])
    ·
      refine lv_bipush (v := (-100)) hx hb dX6_ofDay_25 (by decide) ?_
      refine lv_aload_n hx hb dX6_ofDay_27 rfl (lv_at hl 0 rfl) ?_
      refine va_get (D := E.1) (ci := 6) (v := .ref hd) (C := RX6) (T := TX6) (N := 11) hx hb hts hinX6 hown hK.1 hP 0 rfl rfl 4 (by decide) fl_37 (fun _ h9 => h9) rfl dX6_ofDay_28 ?_
      refine va_get (D := E.1) (ci := 0) (v := .int fw) (C := RX0) (T := TX0) (N := 4) hx hb hts hinX0 hown hK.1 hP 4 rfl rfl 0 (by decide) fl_156 (fun _ h9 => h9) rfl dX6_ofDay_31 ?_
      refine lv_isub hx hb dX6_ofDay_34 ?_
      exact hret _ _ _ dX6_ofDay_35 (by simp [ofD, c_1, c_2])
  ·
    refine lv_aload_n hx hb dX6_ofDay_5 rfl (lv_at hl 0 rfl) ?_
    refine va_get (D := E.1) (ci := 6) (v := .ref hd) (C := RX6) (T := TX6) (N := 11) hx hb hts hinX6 hown hK.1 hP 0 rfl rfl 4 (by decide) fl_37 (fun _ h9 => h9) rfl dX6_ofDay_6 ?_
    refine va_get (D := E.1) (ci := 0) (v := .int fw) (C := RX0) (T := TX0) (N := 4) hx hb hts hinX0 hown hK.1 hP 4 rfl rfl 0 (by decide) fl_156 (fun _ h9 => h9) rfl dX6_ofDay_9 ?_
    exact hret _ _ _ dX6_ofDay_12 (by simp [ofD, c_1])
set_option maxHeartbeats 4000000 in
set_option maxRecDepth 100000 in
theorem c_X6_day (l : Launch) (E : gE) (sz : Nat) (g0 : Nat) (h0 : Nat) (k0 : Nat) (gs : Nat) (ht : Nat) (hd : Nat) (ho : Nat) (hr : Nat) (fo : Nat) (wy : Nat) (tr : Int32) (lf : Int32) (sa : Nat → Option Nat) (hs : Nat) (qs : Nat) (th : Int32) (la : Int32) (ln : Nat) (ce : Nat → Int32) (a0 : Nat) (a1 : Nat) (a2 : Nat) (a3 : Nat) (a4 : Nat) (nw : Nat) (mo : Int32) (kd : Nat → Int32) (mn : Nat → Int32) (pu : Nat → Int32) (ro : Nat → Int32) (wo : Nat → Int32) (b0 : Nat) (b1 : Nat) (b2 : Nat) (b3 : Nat) (b4 : Nat) (n2 : Nat) (mo2 : Int32) (kd2 : Nat → Int32) (mn2 : Nat → Int32) (pu2 : Nat → Int32) (ro2 : Nat → Int32) (wo2 : Nat → Int32) (fw : Int32) (sl : Int32) (cr : Int32) (gr : Int32) (j : Nat) (sheet : Int32) (lane : Int32) (i : Int32) (n : Int32) (what : Int32) (hj4 : j < 4) (hsa : sa j = some hs) (hjs : shP sheet → sheet = nI j) (h60 : ln ≤ 60) (hFR : FR nw kd mn) : Met l yX6_day wsX6_day ({ frames := 7, cells := 0, slots := 0, locals := 161 }) (PW E [.ref g0, .int sheet, .int lane, .int i, .int n, .int what] [ob g0 6 [.ref h0, .ref k0, .ref gs, .ref ht, .ref hd, .ref ho, .ref hr, .ref fo, .ref wy, .int tr, .int lf], aq E gs 4 sa, ob hs 3 [.ref qs, .int th, .int la, .int (nI ln)], ar E qs 60 ce, ob h0 5 [.ref a0, .ref a1, .ref a2, .ref a3, .ref a4, .int (nI nw), .int mo], ar E a0 6 kd, ar E a1 6 mn, ar E a2 6 pu, ar E a3 6 ro, ar E a4 6 wo, ob k0 5 [.ref b0, .ref b1, .ref b2, .ref b3, .ref b4, .int (nI n2), .int mo2], ar E b0 6 kd2, ar E b1 6 mn2, ar E b2 6 pu2, ar E b3 6 ro2, ar E b4 6 wo2, ob hd 0 [.int fw, .int sl, .int cr, .int gr]] sz) (QWi E (fun r _ => r = spDay sheet lane i n what th la ln ce nw kd mn pu) (fun (u : (Nat) × (Int32) × (Nat → Int32) × (Nat → Int32) × (Nat → Int32) × (Nat → Int32) × (Nat → Int32) × (Int32) × (Int32) × (Int32) × (Int32)) => [ob g0 6 [.ref h0, .ref k0, .ref gs, .ref ht, .ref hd, .ref ho, .ref hr, .ref fo, .ref wy, .int tr, .int (fltF (rtK sheet lane i (2 * n) (if dyT n what then 1 else 0) th la ln))], aq E gs 4 sa, ob hs 3 [.ref qs, .int th, .int la, .int (nI ln)], ar E qs 60 ce, ob h0 5 [.ref a0, .ref a1, .ref a2, .ref a3, .ref a4, .int (nI nw), .int mo], ar E a0 6 kd, ar E a1 6 mn, ar E a2 6 pu, ar E a3 6 ro, ar E a4 6 wo, ob k0 5 [.ref b0, .ref b1, .ref b2, .ref b3, .ref b4, .int (nI u.1), .int u.2.1], ar E b0 6 u.2.2.1, ar E b1 6 u.2.2.2.1, ar E b2 6 u.2.2.2.2.1, ar E b3 6 u.2.2.2.2.2.1, ar E b4 6 u.2.2.2.2.2.2.1, ob hd 0 [.int u.2.2.2.2.2.2.2.1, .int u.2.2.2.2.2.2.2.2.1, .int u.2.2.2.2.2.2.2.2.2.1, .int u.2.2.2.2.2.2.2.2.2.2]]) (va_A [ob g0 6 [.ref h0, .ref k0, .ref gs, .ref ht, .ref hd, .ref ho, .ref hr, .ref fo, .ref wy, .int tr, .int lf], aq E gs 4 sa, ob hs 3 [.ref qs, .int th, .int la, .int (nI ln)], ar E qs 60 ce, ob h0 5 [.ref a0, .ref a1, .ref a2, .ref a3, .ref a4, .int (nI nw), .int mo], ar E a0 6 kd, ar E a1 6 mn, ar E a2 6 pu, ar E a3 6 ro, ar E a4 6 wo, ob k0 5 [.ref b0, .ref b1, .ref b2, .ref b3, .ref b4, .int (nI n2), .int mo2], ar E b0 6 kd2, ar E b1 6 mn2, ar E b2 6 pu2, ar E b3 6 ro2, ar E b4 6 wo2, ob hd 0 [.int fw, .int sl, .int cr, .int gr]] sz)) 0 0 (va_A [ob g0 6 [.ref h0, .ref k0, .ref gs, .ref ht, .ref hd, .ref ho, .ref hr, .ref fo, .ref wy, .int tr, .int lf], aq E gs 4 sa, ob hs 3 [.ref qs, .int th, .int la, .int (nI ln)], ar E qs 60 ce, ob h0 5 [.ref a0, .ref a1, .ref a2, .ref a3, .ref a4, .int (nI nw), .int mo], ar E a0 6 kd, ar E a1 6 mn, ar E a2 6 pu, ar E a3 6 ro, ar E a4 6 wo, ob k0 5 [.ref b0, .ref b1, .ref b2, .ref b3, .ref b4, .int (nI n2), .int mo2], ar E b0 6 kd2, ar E b1 6 mn2, ar E b2 6 pu2, ar E b3 6 ro2, ar E b4 6 wo2, ob hd 0 [.int fw, .int sl, .int cr, .int gr]] sz) := by
  refine mkWi (cc := cX6_day) (maxL := 10) (by decide) rfl (Nat.le_of_ble_eq_true rfl) ?_
  intro p e s m args below meth c QQ A hx hb hml hown hmn hts hK hA hP hD hS hret ls hl
  have hown : s.vm.findClass RX6 = some m.cls := hown
  have hl : lv_has ls 10 [(0, .ref g0), (1, .int sheet), (2, .int lane), (3, .int i), (4, .int n), (5, .int what)] := hl
  have hinX5 : ∀ w ∈ wsX50, w ∈ wsX6_day := by decide +kernel
  have hinX6 : ∀ w ∈ wsX60, w ∈ wsX6_day := by decide +kernel
  have fl_12 := hts (.fieldLink RX6 12 "GuardAbacus" "wires" "LGuardAbacus$Wires;") (by decide +kernel)
  have fl_18 := hts (.fieldLink RX6 18 "GuardAbacus" "trial" "LGuardAbacus$Wires;") (by decide +kernel)
  have fl_23 := hts (.fieldLink RX6 23 "GuardAbacus" "sheets" "[LGuardAbacus$Sheet;") (by decide +kernel)
  have fl_37 := hts (.fieldLink RX6 37 "GuardAbacus" "told" "LGuardAbacus$Day;") (by decide +kernel)
  have fl_89 := hts (.fieldLink RX6 89 "GuardAbacus$Wires" "count" "I") (by decide +kernel)
  refine lv_iload hx hb dX6_day_0 (lv_at hl 4 rfl) ?_
  refine lv_if_lt (tgt := 24) hx hb dX6_day_2 (by decide) (fun c_1 => ?_) (fun c_1 => ?_)
  ·
    have c_1b := Int32.not_le.mpr c_1
    refine lv_iconst (v := 0) hx hb dX6_day_24 (by decide) ?_
    refine lv_istore (lv' := [(6, .int 0), (0, .ref g0), (1, .int sheet), (2, .int lane), (3, .int i), (4, .int n), (5, .int what)]) hx hb dX6_day_25 hl (by decide) rfl (fun ls hl => ?_)
    refine lv_aload_n hx hb dX6_day_27 rfl (lv_at hl 1 rfl) ?_
    refine lv_iload_n hx hb dX6_day_28 rfl (lv_at hl 2 rfl) ?_
    refine lv_iload_n hx hb dX6_day_29 rfl (lv_at hl 3 rfl) ?_
    refine lv_iload_n hx hb dX6_day_30 rfl (lv_at hl 4 rfl) ?_
    refine lv_iconst (v := 2) hx hb dX6_day_31 (by decide) ?_
    refine lv_iload hx hb dX6_day_32 (lv_at hl 5 rfl) ?_
    refine lv_imul hx hb dX6_day_34 ?_
    refine lv_iload hx hb dX6_day_35 (lv_at hl 0 rfl) ?_
    have ha : (if dyT n what then (1 : Int32) else 0) = 0 := if_neg (fun h => h.1 c_1)
    refine cwVi (As := [.int sheet, .int lane, .int i, .int (2 * n), .int 0]) (rest := []) ⟨hx, hb, hml, hown, hts⟩ (c_X6_rowTrouble l E _ g0 h0 k0 gs ht hd ho hr fo wy tr lf sa hs qs th la ln j sheet lane i (2 * n) 0 (by first | assumption | omega) (by first | assumption | omega) (by first | assumption | omega)) (cwV 5 hts gX6_day_X6_rowTrouble rfl rfl rfl (by decide +kernel) ⟨Nat.le_of_ble_eq_true rfl, Nat.le_of_ble_eq_true rfl⟩) hK hP hD hS hA [0, 1, 2] (by decide) rfl [g0, gs, hs] (fun _ => rfl) rfl 0 rfl rfl rfl rfl hl.1 rfl (catLe (Nat.le_of_ble_eq_true rfl)) dX6_day_37 ⟨Nat.zero_le _, Nat.zero_le _⟩ (fun r_2 u_3 H locs hwr_2 hP hD hS => ?_)
    have hP : va_P E.1 vwCl [ob g0 6 [.ref h0, .ref k0, .ref gs, .ref ht, .ref hd, .ref ho, .ref hr, .ref fo, .ref wy, .int tr, .int (fltF (rtK sheet lane i (2 * n) 0 th la ln))], aq E gs 4 sa, ob hs 3 [.ref qs, .int th, .int la, .int (nI ln)], ar E qs 60 ce, ob h0 5 [.ref a0, .ref a1, .ref a2, .ref a3, .ref a4, .int (nI nw), .int mo], ar E a0 6 kd, ar E a1 6 mn, ar E a2 6 pu, ar E a3 6 ro, ar E a4 6 wo, ob k0 5 [.ref b0, .ref b1, .ref b2, .ref b3, .ref b4, .int (nI n2), .int mo2], ar E b0 6 kd2, ar E b1 6 mn2, ar E b2 6 pu2, ar E b3 6 ro2, ar E b4 6 wo2, ob hd 0 [.int fw, .int sl, .int cr, .int gr]] H := hP
    have hD : va_D A [ob g0 6 [.ref h0, .ref k0, .ref gs, .ref ht, .ref hd, .ref ho, .ref hr, .ref fo, .ref wy, .int tr, .int (fltF (rtK sheet lane i (2 * n) 0 th la ln))], aq E gs 4 sa, ob hs 3 [.ref qs, .int th, .int la, .int (nI ln)], ar E qs 60 ce, ob h0 5 [.ref a0, .ref a1, .ref a2, .ref a3, .ref a4, .int (nI nw), .int mo], ar E a0 6 kd, ar E a1 6 mn, ar E a2 6 pu, ar E a3 6 ro, ar E a4 6 wo, ob k0 5 [.ref b0, .ref b1, .ref b2, .ref b3, .ref b4, .int (nI n2), .int mo2], ar E b0 6 kd2, ar E b1 6 mn2, ar E b2 6 pu2, ar E b3 6 ro2, ar E b4 6 wo2, ob hd 0 [.int fw, .int sl, .int cr, .int gr]] := hD
    subst hwr_2
    refine lv_istore (lv' := [(7, .int (rtK sheet lane i (2 * n) 0 th la ln)), (6, .int 0), (0, .ref g0), (1, .int sheet), (2, .int lane), (3, .int i), (4, .int n), (5, .int what)]) hx hb dX6_day_40 hl (by decide) rfl (fun ls hl => ?_)
    refine lv_iload hx hb dX6_day_42 (lv_at hl 0 rfl) ?_
    refine lv_if_eq (tgt := 50) hx hb dX6_day_44 (by decide) (fun c_4 => ?_) (fun c_4 => ?_)
    ·
      have hz := rtK_0 c_4
      exact absurd rfl hz.2.2.1
    ·
      refine lv_iload hx hb dX6_day_47 (lv_at hl 0 rfl) ?_
      exact hret _ _ _ _ _ (n2, mo2, kd2, mn2, pu2, ro2, wo2, fw, sl, cr, gr) dX6_day_49 hS (by rw [ha]; exact hP) (by rw [spDay, ha, if_pos c_4])
  ·
    have c_1b := Int32.not_lt.mp c_1
    refine lv_iload hx hb dX6_day_5 (lv_at hl 4 rfl) ?_
    refine lv_bipush (v := 20) hx hb dX6_day_7 (by decide) ?_
    refine lv_icmp_gt (tgt := 24) hx hb dX6_day_9 (by decide) (fun c_5 => ?_) (fun c_5 => ?_)
    ·
      have c_5b := Int32.not_le.mpr c_5
      refine lv_iconst (v := 0) hx hb dX6_day_24 (by decide) ?_
      refine lv_istore (lv' := [(6, .int 0), (0, .ref g0), (1, .int sheet), (2, .int lane), (3, .int i), (4, .int n), (5, .int what)]) hx hb dX6_day_25 hl (by decide) rfl (fun ls hl => ?_)
      refine lv_aload_n hx hb dX6_day_27 rfl (lv_at hl 1 rfl) ?_
      refine lv_iload_n hx hb dX6_day_28 rfl (lv_at hl 2 rfl) ?_
      refine lv_iload_n hx hb dX6_day_29 rfl (lv_at hl 3 rfl) ?_
      refine lv_iload_n hx hb dX6_day_30 rfl (lv_at hl 4 rfl) ?_
      refine lv_iconst (v := 2) hx hb dX6_day_31 (by decide) ?_
      refine lv_iload hx hb dX6_day_32 (lv_at hl 5 rfl) ?_
      refine lv_imul hx hb dX6_day_34 ?_
      refine lv_iload hx hb dX6_day_35 (lv_at hl 0 rfl) ?_
      have ha : (if dyT n what then (1 : Int32) else 0) = 0 := if_neg (fun h => absurd h.2.1 c_5b)
      refine cwVi (As := [.int sheet, .int lane, .int i, .int (2 * n), .int 0]) (rest := []) ⟨hx, hb, hml, hown, hts⟩ (c_X6_rowTrouble l E _ g0 h0 k0 gs ht hd ho hr fo wy tr lf sa hs qs th la ln j sheet lane i (2 * n) 0 (by first | assumption | omega) (by first | assumption | omega) (by first | assumption | omega)) (cwV 5 hts gX6_day_X6_rowTrouble rfl rfl rfl (by decide +kernel) ⟨Nat.le_of_ble_eq_true rfl, Nat.le_of_ble_eq_true rfl⟩) hK hP hD hS hA [0, 1, 2] (by decide) rfl [g0, gs, hs] (fun _ => rfl) rfl 0 rfl rfl rfl rfl hl.1 rfl (catLe (Nat.le_of_ble_eq_true rfl)) dX6_day_37 ⟨Nat.zero_le _, Nat.zero_le _⟩ (fun r_6 u_7 H locs hwr_6 hP hD hS => ?_)
      have hP : va_P E.1 vwCl [ob g0 6 [.ref h0, .ref k0, .ref gs, .ref ht, .ref hd, .ref ho, .ref hr, .ref fo, .ref wy, .int tr, .int (fltF (rtK sheet lane i (2 * n) 0 th la ln))], aq E gs 4 sa, ob hs 3 [.ref qs, .int th, .int la, .int (nI ln)], ar E qs 60 ce, ob h0 5 [.ref a0, .ref a1, .ref a2, .ref a3, .ref a4, .int (nI nw), .int mo], ar E a0 6 kd, ar E a1 6 mn, ar E a2 6 pu, ar E a3 6 ro, ar E a4 6 wo, ob k0 5 [.ref b0, .ref b1, .ref b2, .ref b3, .ref b4, .int (nI n2), .int mo2], ar E b0 6 kd2, ar E b1 6 mn2, ar E b2 6 pu2, ar E b3 6 ro2, ar E b4 6 wo2, ob hd 0 [.int fw, .int sl, .int cr, .int gr]] H := hP
      have hD : va_D A [ob g0 6 [.ref h0, .ref k0, .ref gs, .ref ht, .ref hd, .ref ho, .ref hr, .ref fo, .ref wy, .int tr, .int (fltF (rtK sheet lane i (2 * n) 0 th la ln))], aq E gs 4 sa, ob hs 3 [.ref qs, .int th, .int la, .int (nI ln)], ar E qs 60 ce, ob h0 5 [.ref a0, .ref a1, .ref a2, .ref a3, .ref a4, .int (nI nw), .int mo], ar E a0 6 kd, ar E a1 6 mn, ar E a2 6 pu, ar E a3 6 ro, ar E a4 6 wo, ob k0 5 [.ref b0, .ref b1, .ref b2, .ref b3, .ref b4, .int (nI n2), .int mo2], ar E b0 6 kd2, ar E b1 6 mn2, ar E b2 6 pu2, ar E b3 6 ro2, ar E b4 6 wo2, ob hd 0 [.int fw, .int sl, .int cr, .int gr]] := hD
      subst hwr_6
      refine lv_istore (lv' := [(7, .int (rtK sheet lane i (2 * n) 0 th la ln)), (6, .int 0), (0, .ref g0), (1, .int sheet), (2, .int lane), (3, .int i), (4, .int n), (5, .int what)]) hx hb dX6_day_40 hl (by decide) rfl (fun ls hl => ?_)
      refine lv_iload hx hb dX6_day_42 (lv_at hl 0 rfl) ?_
      refine lv_if_eq (tgt := 50) hx hb dX6_day_44 (by decide) (fun c_8 => ?_) (fun c_8 => ?_)
      ·
        have hz := rtK_0 c_8
        exact absurd rfl hz.2.2.1
      ·
        refine lv_iload hx hb dX6_day_47 (lv_at hl 0 rfl) ?_
        exact hret _ _ _ _ _ (n2, mo2, kd2, mn2, pu2, ro2, wo2, fw, sl, cr, gr) dX6_day_49 hS (by rw [ha]; exact hP) (by rw [spDay, ha, if_pos c_8])
    ·
      have c_5b := Int32.not_lt.mp c_5
      refine lv_iload hx hb dX6_day_12 (lv_at hl 5 rfl) ?_
      refine crS (As := [.int what]) (rest := []) ⟨hx, hb, hml, hown, hts⟩ (c_X6_isOfDay l E what) (va_cwS 1 hts gX6_day_X6_isOfDay rfl rfl rfl (by decide +kernel) ⟨Nat.le_of_ble_eq_true rfl, Nat.le_of_ble_eq_true rfl⟩) hK hP [] rfl rfl hl.1 rfl (catLe (Nat.le_of_ble_eq_true rfl)) dX6_day_14 ⟨Nat.zero_le _, Nat.zero_le _⟩ (fun r_9 hr_9 => ?_)
      subst hr_9
      refine ifB_eq (P := dyP what) (tgt := 24) hx hb dX6_day_17 (by decide) (fun c_10 => ?_) (fun c_10 => ?_)
      ·
        refine lv_iconst (v := 0) hx hb dX6_day_24 (by decide) ?_
        refine lv_istore (lv' := [(6, .int 0), (0, .ref g0), (1, .int sheet), (2, .int lane), (3, .int i), (4, .int n), (5, .int what)]) hx hb dX6_day_25 hl (by decide) rfl (fun ls hl => ?_)
        refine lv_aload_n hx hb dX6_day_27 rfl (lv_at hl 1 rfl) ?_
        refine lv_iload_n hx hb dX6_day_28 rfl (lv_at hl 2 rfl) ?_
        refine lv_iload_n hx hb dX6_day_29 rfl (lv_at hl 3 rfl) ?_
        refine lv_iload_n hx hb dX6_day_30 rfl (lv_at hl 4 rfl) ?_
        refine lv_iconst (v := 2) hx hb dX6_day_31 (by decide) ?_
        refine lv_iload hx hb dX6_day_32 (lv_at hl 5 rfl) ?_
        refine lv_imul hx hb dX6_day_34 ?_
        refine lv_iload hx hb dX6_day_35 (lv_at hl 0 rfl) ?_
        have ha : (if dyT n what then (1 : Int32) else 0) = 0 := if_neg (fun h => c_10 h.2.2)
        refine cwVi (As := [.int sheet, .int lane, .int i, .int (2 * n), .int 0]) (rest := []) ⟨hx, hb, hml, hown, hts⟩ (c_X6_rowTrouble l E _ g0 h0 k0 gs ht hd ho hr fo wy tr lf sa hs qs th la ln j sheet lane i (2 * n) 0 (by first | assumption | omega) (by first | assumption | omega) (by first | assumption | omega)) (cwV 5 hts gX6_day_X6_rowTrouble rfl rfl rfl (by decide +kernel) ⟨Nat.le_of_ble_eq_true rfl, Nat.le_of_ble_eq_true rfl⟩) hK hP hD hS hA [0, 1, 2] (by decide) rfl [g0, gs, hs] (fun _ => rfl) rfl 0 rfl rfl rfl rfl hl.1 rfl (catLe (Nat.le_of_ble_eq_true rfl)) dX6_day_37 ⟨Nat.zero_le _, Nat.zero_le _⟩ (fun r_11 u_12 H locs hwr_11 hP hD hS => ?_)
        have hP : va_P E.1 vwCl [ob g0 6 [.ref h0, .ref k0, .ref gs, .ref ht, .ref hd, .ref ho, .ref hr, .ref fo, .ref wy, .int tr, .int (fltF (rtK sheet lane i (2 * n) 0 th la ln))], aq E gs 4 sa, ob hs 3 [.ref qs, .int th, .int la, .int (nI ln)], ar E qs 60 ce, ob h0 5 [.ref a0, .ref a1, .ref a2, .ref a3, .ref a4, .int (nI nw), .int mo], ar E a0 6 kd, ar E a1 6 mn, ar E a2 6 pu, ar E a3 6 ro, ar E a4 6 wo, ob k0 5 [.ref b0, .ref b1, .ref b2, .ref b3, .ref b4, .int (nI n2), .int mo2], ar E b0 6 kd2, ar E b1 6 mn2, ar E b2 6 pu2, ar E b3 6 ro2, ar E b4 6 wo2, ob hd 0 [.int fw, .int sl, .int cr, .int gr]] H := hP
        have hD : va_D A [ob g0 6 [.ref h0, .ref k0, .ref gs, .ref ht, .ref hd, .ref ho, .ref hr, .ref fo, .ref wy, .int tr, .int (fltF (rtK sheet lane i (2 * n) 0 th la ln))], aq E gs 4 sa, ob hs 3 [.ref qs, .int th, .int la, .int (nI ln)], ar E qs 60 ce, ob h0 5 [.ref a0, .ref a1, .ref a2, .ref a3, .ref a4, .int (nI nw), .int mo], ar E a0 6 kd, ar E a1 6 mn, ar E a2 6 pu, ar E a3 6 ro, ar E a4 6 wo, ob k0 5 [.ref b0, .ref b1, .ref b2, .ref b3, .ref b4, .int (nI n2), .int mo2], ar E b0 6 kd2, ar E b1 6 mn2, ar E b2 6 pu2, ar E b3 6 ro2, ar E b4 6 wo2, ob hd 0 [.int fw, .int sl, .int cr, .int gr]] := hD
        subst hwr_11
        refine lv_istore (lv' := [(7, .int (rtK sheet lane i (2 * n) 0 th la ln)), (6, .int 0), (0, .ref g0), (1, .int sheet), (2, .int lane), (3, .int i), (4, .int n), (5, .int what)]) hx hb dX6_day_40 hl (by decide) rfl (fun ls hl => ?_)
        refine lv_iload hx hb dX6_day_42 (lv_at hl 0 rfl) ?_
        refine lv_if_eq (tgt := 50) hx hb dX6_day_44 (by decide) (fun c_13 => ?_) (fun c_13 => ?_)
        ·
          have hz := rtK_0 c_13
          exact absurd rfl hz.2.2.1
        ·
          refine lv_iload hx hb dX6_day_47 (lv_at hl 0 rfl) ?_
          exact hret _ _ _ _ _ (n2, mo2, kd2, mn2, pu2, ro2, wo2, fw, sl, cr, gr) dX6_day_49 hS (by rw [ha]; exact hP) (by rw [spDay, ha, if_pos c_13])
      ·
        refine lv_iconst (v := 1) hx hb dX6_day_20 (by decide) ?_
        refine lv_goto (tgt := 25) hx hb dX6_day_21 (by decide) ?_
        refine lv_istore (lv' := [(6, .int 1), (0, .ref g0), (1, .int sheet), (2, .int lane), (3, .int i), (4, .int n), (5, .int what)]) hx hb dX6_day_25 hl (by decide) rfl (fun ls hl => ?_)
        refine lv_aload_n hx hb dX6_day_27 rfl (lv_at hl 1 rfl) ?_
        refine lv_iload_n hx hb dX6_day_28 rfl (lv_at hl 2 rfl) ?_
        refine lv_iload_n hx hb dX6_day_29 rfl (lv_at hl 3 rfl) ?_
        refine lv_iload_n hx hb dX6_day_30 rfl (lv_at hl 4 rfl) ?_
        refine lv_iconst (v := 2) hx hb dX6_day_31 (by decide) ?_
        refine lv_iload hx hb dX6_day_32 (lv_at hl 5 rfl) ?_
        refine lv_imul hx hb dX6_day_34 ?_
        refine lv_iload hx hb dX6_day_35 (lv_at hl 0 rfl) ?_
        have ha : (if dyT n what then (1 : Int32) else 0) = 1 := if_pos ⟨c_1, c_5b, c_10⟩
        refine cwVi (As := [.int sheet, .int lane, .int i, .int (2 * n), .int 1]) (rest := []) ⟨hx, hb, hml, hown, hts⟩ (c_X6_rowTrouble l E _ g0 h0 k0 gs ht hd ho hr fo wy tr lf sa hs qs th la ln j sheet lane i (2 * n) 1 (by first | assumption | omega) (by first | assumption | omega) (by first | assumption | omega)) (cwV 5 hts gX6_day_X6_rowTrouble rfl rfl rfl (by decide +kernel) ⟨Nat.le_of_ble_eq_true rfl, Nat.le_of_ble_eq_true rfl⟩) hK hP hD hS hA [0, 1, 2] (by decide) rfl [g0, gs, hs] (fun _ => rfl) rfl 0 rfl rfl rfl rfl hl.1 rfl (catLe (Nat.le_of_ble_eq_true rfl)) dX6_day_37 ⟨Nat.zero_le _, Nat.zero_le _⟩ (fun r_14 u_15 H locs hwr_14 hP hD hS => ?_)
        have hP : va_P E.1 vwCl [ob g0 6 [.ref h0, .ref k0, .ref gs, .ref ht, .ref hd, .ref ho, .ref hr, .ref fo, .ref wy, .int tr, .int (fltF (rtK sheet lane i (2 * n) 1 th la ln))], aq E gs 4 sa, ob hs 3 [.ref qs, .int th, .int la, .int (nI ln)], ar E qs 60 ce, ob h0 5 [.ref a0, .ref a1, .ref a2, .ref a3, .ref a4, .int (nI nw), .int mo], ar E a0 6 kd, ar E a1 6 mn, ar E a2 6 pu, ar E a3 6 ro, ar E a4 6 wo, ob k0 5 [.ref b0, .ref b1, .ref b2, .ref b3, .ref b4, .int (nI n2), .int mo2], ar E b0 6 kd2, ar E b1 6 mn2, ar E b2 6 pu2, ar E b3 6 ro2, ar E b4 6 wo2, ob hd 0 [.int fw, .int sl, .int cr, .int gr]] H := hP
        have hD : va_D A [ob g0 6 [.ref h0, .ref k0, .ref gs, .ref ht, .ref hd, .ref ho, .ref hr, .ref fo, .ref wy, .int tr, .int (fltF (rtK sheet lane i (2 * n) 1 th la ln))], aq E gs 4 sa, ob hs 3 [.ref qs, .int th, .int la, .int (nI ln)], ar E qs 60 ce, ob h0 5 [.ref a0, .ref a1, .ref a2, .ref a3, .ref a4, .int (nI nw), .int mo], ar E a0 6 kd, ar E a1 6 mn, ar E a2 6 pu, ar E a3 6 ro, ar E a4 6 wo, ob k0 5 [.ref b0, .ref b1, .ref b2, .ref b3, .ref b4, .int (nI n2), .int mo2], ar E b0 6 kd2, ar E b1 6 mn2, ar E b2 6 pu2, ar E b3 6 ro2, ar E b4 6 wo2, ob hd 0 [.int fw, .int sl, .int cr, .int gr]] := hD
        subst hwr_14
        refine lv_istore (lv' := [(7, .int (rtK sheet lane i (2 * n) 1 th la ln)), (6, .int 1), (0, .ref g0), (1, .int sheet), (2, .int lane), (3, .int i), (4, .int n), (5, .int what)]) hx hb dX6_day_40 hl (by decide) rfl (fun ls hl => ?_)
        refine lv_iload hx hb dX6_day_42 (lv_at hl 0 rfl) ?_
        refine lv_if_eq (tgt := 50) hx hb dX6_day_44 (by decide) (fun c_16 => ?_) (fun c_16 => ?_)
        ·
          have hz := rtK_0 c_16
          have hsh := hjs hz.1
          subst hsh
          obtain ⟨m_, hm, rfl⟩ := le_nat (n := 20) (M := 20) rfl c_1 c_5b
          obtain ⟨a, rfl, hab⟩ := reach2 (b := 2 * m_) (by have h := hz.2.2.2.2.2; rwa [show (2 : Int32) * nI m_ = nI (2 * m_) from pk_mul 2 m_] at h) h60 (by omega)
          have hixa : ix (nI a) = a := ix_nI (by omega)
          have hixm : ix (nI m_) = m_ := ix_nI (by omega)
          have hn6 := hFR.1
          refine lv_aload_n hx hb dX6_day_50 rfl (lv_at hl 2 rfl) ?_
          refine va_get (D := E.1) (ci := 6) (v := .ref h0) (C := RX6) (T := TX6) (N := 11) hx hb hts hinX6 hown hK.1 hP 0 rfl rfl 0 (by decide) fl_12 (fun _ h9 => h9) rfl dX6_day_51 ?_
          refine va_get (D := E.1) (ci := 5) (v := .int (nI nw)) (C := RX5) (T := TX5) (N := 7) hx hb hts hinX5 hown hK.1 hP 4 rfl rfl 5 (by decide) fl_89 (fun _ h9 => h9) rfl dX6_day_54 ?_
          refine ifN_ne (tgt := 63) (a := nw) hx hb rfl (by omega) dX6_day_57 (by decide) (fun c_17 => ?_) (fun c_17 => ?_)
          ·
            refine lv_aload_n hx hb dX6_day_63 rfl (lv_at hl 2 rfl) ?_
            refine va_get (D := E.1) (ci := 6) (v := .ref gs) (C := RX6) (T := TX6) (N := 11) hx hb hts hinX6 hown hK.1 hP 0 rfl rfl 2 (by decide) fl_23 (fun _ h9 => h9) rfl dX6_day_64 ?_
            refine lv_iload_n hx hb dX6_day_67 rfl (lv_at hl 3 rfl) ?_
            refine ald hx hb hK hP 1 rfl (j := j) rfl (by omega) (by decide) (v := hs) hsa dX6_day_68 ?_
            refine lv_astore (lv' := [(8, .ref hs), (7, .int (rtK (nI j) lane (nI a) (2 * (nI m_)) 1 th la ln)), (6, .int 1), (0, .ref g0), (1, .int (nI j)), (2, .int lane), (3, .int (nI a)), (4, .int (nI m_)), (5, .int what)]) hx hb dX6_day_69 hl (by decide) rfl (fun ls hl => ?_)
            refine lv_aload_n hx hb dX6_day_71 rfl (lv_at hl 3 rfl) ?_
            refine lv_aload hx hb dX6_day_72 (lv_at hl 0 rfl) ?_
            refine lv_iload_n hx hb dX6_day_74 rfl (lv_at hl 6 rfl) ?_
            refine lv_iload hx hb dX6_day_75 (lv_at hl 7 rfl) ?_
            refine crV (As := [.ref hs, .int (nI a), .int (nI m_)]) (rest := []) ⟨hx, hb, hml, hown, hts⟩ (c_X6_actsRefusal l E g0 h0 k0 gs ht hd ho hr fo wy tr (fltF (rtK (nI j) lane (nI a) (2 * (nI m_)) 1 th la ln)) a0 a1 a2 a3 a4 nw mo hs qs th la ln ce a m_ (by first | assumption | omega) (by first | assumption | omega) (by omega)) (cwV 3 hts gX6_day_X6_actsRefusal rfl rfl rfl (by decide +kernel) ⟨Nat.le_of_ble_eq_true rfl, Nat.le_of_ble_eq_true rfl⟩) hK hP [0, 4, 2, 3] rfl 0 rfl rfl rfl rfl hl.1 rfl (catLe (Nat.le_of_ble_eq_true rfl)) dX6_day_77 ⟨Nat.zero_le _, Nat.zero_le _⟩ (fun r_18 hr_18 => ?_)
            subst hr_18
            refine lv_istore (lv' := [(9, .int (acR ce a nw m_)), (8, .ref hs), (7, .int (rtK (nI j) lane (nI a) (2 * (nI m_)) 1 th la ln)), (6, .int 1), (0, .ref g0), (1, .int (nI j)), (2, .int lane), (3, .int (nI a)), (4, .int (nI m_)), (5, .int what)]) hx hb dX6_day_80 hl (by decide) rfl (fun ls hl => ?_)
            refine lv_iload hx hb dX6_day_82 (lv_at hl 0 rfl) ?_
            refine lv_if_eq (tgt := 90) hx hb dX6_day_84 (by decide) (fun c_19 => ?_) (fun c_19 => ?_)
            ·
              refine lv_aload_n hx hb dX6_day_90 rfl (lv_at hl 4 rfl) ?_
              refine va_get (D := E.1) (ci := 6) (v := .ref k0) (C := RX6) (T := TX6) (N := 11) hx hb hts hinX6 hown hK.1 hP 0 rfl rfl 1 (by decide) fl_18 (fun _ h9 => h9) rfl dX6_day_91 ?_
              refine lv_aload_n hx hb dX6_day_94 rfl (lv_at hl 4 rfl) ?_
              refine va_get (D := E.1) (ci := 6) (v := .ref h0) (C := RX6) (T := TX6) (N := 11) hx hb hts hinX6 hown hK.1 hP 0 rfl rfl 0 (by decide) fl_12 (fun _ h9 => h9) rfl dX6_day_95 ?_
              refine cwVv (As := [.ref h0]) (rest := []) ⟨hx, hb, hml, hown, hts⟩ (c_X5_become l E _ k0 b0 b1 b2 b3 b4 n2 mo2 kd2 mn2 pu2 ro2 wo2 h0 a0 a1 a2 a3 a4 nw mo kd mn pu (by first | assumption | omega)) (cwV 1 hts gX6_day_X5_become rfl rfl rfl (by decide +kernel) ⟨Nat.le_of_ble_eq_true rfl, Nat.le_of_ble_eq_true rfl⟩) hK hP hD hS hA [10, 11, 12, 13, 14, 15, 4, 5, 6, 7] (by decide) rfl [k0, b0, b1, b2, b3, b4, h0, a0, a1, a2] (fun _ => rfl) rfl 0 rfl rfl rfl rfl hl.1 rfl (catLe (Nat.le_of_ble_eq_true rfl)) dX6_day_98 ⟨Nat.zero_le _, Nat.zero_le _⟩ (fun u_21 H locs hwr_20 hP hD hS => ?_)
              have hP : va_P E.1 vwCl [ob g0 6 [.ref h0, .ref k0, .ref gs, .ref ht, .ref hd, .ref ho, .ref hr, .ref fo, .ref wy, .int tr, .int (fltF (rtK (nI j) lane (nI a) (2 * (nI m_)) 1 th la ln))], aq E gs 4 sa, ob hs 3 [.ref qs, .int th, .int la, .int (nI ln)], ar E qs 60 ce, ob h0 5 [.ref a0, .ref a1, .ref a2, .ref a3, .ref a4, .int (nI nw), .int mo], ar E a0 6 kd, ar E a1 6 mn, ar E a2 6 pu, ar E a3 6 ro, ar E a4 6 wo, ob k0 5 [.ref b0, .ref b1, .ref b2, .ref b3, .ref b4, .int (nI nw), .int (woF kd mn nw - 1)], ar E b0 6 kd, ar E b1 6 mn, ar E b2 6 pu, ar E b3 6 (fil (rmF kd mn) ro2 nw), ar E b4 6 (fil (woF kd mn) wo2 nw), ob hd 0 [.int fw, .int sl, .int cr, .int gr]] H := hP
              have hD : va_D A [ob g0 6 [.ref h0, .ref k0, .ref gs, .ref ht, .ref hd, .ref ho, .ref hr, .ref fo, .ref wy, .int tr, .int (fltF (rtK (nI j) lane (nI a) (2 * (nI m_)) 1 th la ln))], aq E gs 4 sa, ob hs 3 [.ref qs, .int th, .int la, .int (nI ln)], ar E qs 60 ce, ob h0 5 [.ref a0, .ref a1, .ref a2, .ref a3, .ref a4, .int (nI nw), .int mo], ar E a0 6 kd, ar E a1 6 mn, ar E a2 6 pu, ar E a3 6 ro, ar E a4 6 wo, ob k0 5 [.ref b0, .ref b1, .ref b2, .ref b3, .ref b4, .int (nI nw), .int (woF kd mn nw - 1)], ar E b0 6 kd, ar E b1 6 mn, ar E b2 6 pu, ar E b3 6 (fil (rmF kd mn) ro2 nw), ar E b4 6 (fil (woF kd mn) wo2 nw), ob hd 0 [.int fw, .int sl, .int cr, .int gr]] := hD
              refine lv_aload_n hx hb dX6_day_101 rfl (lv_at hl 4 rfl) ?_
              refine va_get (D := E.1) (ci := 6) (v := .ref hd) (C := RX6) (T := TX6) (N := 11) hx hb hts hinX6 hown hK.1 hP 0 rfl rfl 4 (by decide) fl_37 (fun _ h9 => h9) rfl dX6_day_102 ?_
              refine lv_aload_n hx hb dX6_day_105 rfl (lv_at hl 4 rfl) ?_
              refine va_get (D := E.1) (ci := 6) (v := .ref k0) (C := RX6) (T := TX6) (N := 11) hx hb hts hinX6 hown hK.1 hP 0 rfl rfl 1 (by decide) fl_18 (fun _ h9 => h9) rfl dX6_day_106 ?_
              refine lv_aload hx hb dX6_day_109 (lv_at hl 1 rfl) ?_
              refine lv_iload_n hx hb dX6_day_111 rfl (lv_at hl 7 rfl) ?_
              refine lv_iload hx hb dX6_day_112 (lv_at hl 8 rfl) ?_
              have hgT : WG nw (fil (rmF kd mn) ro2 nw) (fil (woF kd mn) wo2 nw) := hFR.WG (fun w h => fil_in h) (fun w h => fil_in h)
              refine cwVv (As := [.ref k0, .ref hs, .int (nI a), .int (nI m_)]) (rest := []) ⟨hx, hb, hml, hown, hts⟩ (c_X0_run l E _ hd fw sl cr gr k0 b0 b1 b2 b3 b4 nw (woF kd mn nw - 1) pu (fil (rmF kd mn) ro2 nw) (fil (woF kd mn) wo2 nw) hs qs th la ln ce a m_ hgT (by first | assumption | omega) (by omega)) (cwV 4 hts gX6_day_X0_run rfl rfl rfl (by decide +kernel) ⟨Nat.le_of_ble_eq_true rfl, Nat.le_of_ble_eq_true rfl⟩) hK hP hD hS hA [16, 10, 13, 14, 15, 2, 3] (by decide) rfl [hd, k0, b2, b3, b4, hs, qs] (fun _ => rfl) rfl 0 rfl rfl rfl rfl hl.1 rfl (catLe (Nat.le_of_ble_eq_true rfl)) dX6_day_114 ⟨Nat.zero_le _, Nat.zero_le _⟩ (fun u_23 H locs hwr_22 hP hD hS => ?_)
              have hP : va_P E.1 vwCl [ob g0 6 [.ref h0, .ref k0, .ref gs, .ref ht, .ref hd, .ref ho, .ref hr, .ref fo, .ref wy, .int tr, .int (fltF (rtK (nI j) lane (nI a) (2 * (nI m_)) 1 th la ln))], aq E gs 4 sa, ob hs 3 [.ref qs, .int th, .int la, .int (nI ln)], ar E qs 60 ce, ob h0 5 [.ref a0, .ref a1, .ref a2, .ref a3, .ref a4, .int (nI nw), .int mo], ar E a0 6 kd, ar E a1 6 mn, ar E a2 6 pu, ar E a3 6 ro, ar E a4 6 wo, ob k0 5 [.ref b0, .ref b1, .ref b2, .ref b3, .ref b4, .int (nI nw), .int (woF kd mn nw - 1)], ar E b0 6 kd, ar E b1 6 mn, ar E b2 6 ((dRun nw (woF kd mn nw - 1) (fil (rmF kd mn) ro2 nw) (fil (woF kd mn) wo2 nw) ce a pu m_).2.1.1), ar E b3 6 (fil (rmF kd mn) ro2 nw), ar E b4 6 (fil (woF kd mn) wo2 nw), ob hd 0 [.int ((dRun nw (woF kd mn nw - 1) (fil (rmF kd mn) ro2 nw) (fil (woF kd mn) wo2 nw) ce a pu m_).1), .int ((dRun nw (woF kd mn nw - 1) (fil (rmF kd mn) ro2 nw) (fil (woF kd mn) wo2 nw) ce a pu m_).2.1.2.1), .int ((dRun nw (woF kd mn nw - 1) (fil (rmF kd mn) ro2 nw) (fil (woF kd mn) wo2 nw) ce a pu m_).2.1.2.2), .int ((dRun nw (woF kd mn nw - 1) (fil (rmF kd mn) ro2 nw) (fil (woF kd mn) wo2 nw) ce a pu m_).2.2)]] H := hP
              have hD : va_D A [ob g0 6 [.ref h0, .ref k0, .ref gs, .ref ht, .ref hd, .ref ho, .ref hr, .ref fo, .ref wy, .int tr, .int (fltF (rtK (nI j) lane (nI a) (2 * (nI m_)) 1 th la ln))], aq E gs 4 sa, ob hs 3 [.ref qs, .int th, .int la, .int (nI ln)], ar E qs 60 ce, ob h0 5 [.ref a0, .ref a1, .ref a2, .ref a3, .ref a4, .int (nI nw), .int mo], ar E a0 6 kd, ar E a1 6 mn, ar E a2 6 pu, ar E a3 6 ro, ar E a4 6 wo, ob k0 5 [.ref b0, .ref b1, .ref b2, .ref b3, .ref b4, .int (nI nw), .int (woF kd mn nw - 1)], ar E b0 6 kd, ar E b1 6 mn, ar E b2 6 ((dRun nw (woF kd mn nw - 1) (fil (rmF kd mn) ro2 nw) (fil (woF kd mn) wo2 nw) ce a pu m_).2.1.1), ar E b3 6 (fil (rmF kd mn) ro2 nw), ar E b4 6 (fil (woF kd mn) wo2 nw), ob hd 0 [.int ((dRun nw (woF kd mn nw - 1) (fil (rmF kd mn) ro2 nw) (fil (woF kd mn) wo2 nw) ce a pu m_).1), .int ((dRun nw (woF kd mn nw - 1) (fil (rmF kd mn) ro2 nw) (fil (woF kd mn) wo2 nw) ce a pu m_).2.1.2.1), .int ((dRun nw (woF kd mn nw - 1) (fil (rmF kd mn) ro2 nw) (fil (woF kd mn) wo2 nw) ce a pu m_).2.1.2.2), .int ((dRun nw (woF kd mn nw - 1) (fil (rmF kd mn) ro2 nw) (fil (woF kd mn) wo2 nw) ce a pu m_).2.2)]] := hD
              refine lv_aload_n hx hb dX6_day_117 rfl (lv_at hl 4 rfl) ?_
              refine lv_iload hx hb dX6_day_118 (lv_at hl 9 rfl) ?_
              refine crV (As := [.int what]) (rest := []) ⟨hx, hb, hml, hown, hts⟩ (c_X6_ofDay l E g0 h0 k0 gs ht hd ho hr fo wy tr (fltF (rtK (nI j) lane (nI a) (2 * (nI m_)) 1 th la ln)) b0 b1 b2 b3 b4 nw (woF kd mn nw - 1) ((dRun nw (woF kd mn nw - 1) (fil (rmF kd mn) ro2 nw) (fil (woF kd mn) wo2 nw) ce a pu m_).2.1.1) (fil (woF kd mn) wo2 nw) ((dRun nw (woF kd mn nw - 1) (fil (rmF kd mn) ro2 nw) (fil (woF kd mn) wo2 nw) ce a pu m_).1) ((dRun nw (woF kd mn nw - 1) (fil (rmF kd mn) ro2 nw) (fil (woF kd mn) wo2 nw) ce a pu m_).2.1.2.1) ((dRun nw (woF kd mn nw - 1) (fil (rmF kd mn) ro2 nw) (fil (woF kd mn) wo2 nw) ce a pu m_).2.1.2.2) ((dRun nw (woF kd mn nw - 1) (fil (rmF kd mn) ro2 nw) (fil (woF kd mn) wo2 nw) ce a pu m_).2.2) what (by first | assumption | omega)) (cwV 1 hts gX6_day_X6_ofDay rfl rfl rfl (by decide +kernel) ⟨Nat.le_of_ble_eq_true rfl, Nat.le_of_ble_eq_true rfl⟩) hK hP [0, 10, 13, 15, 16] rfl 0 rfl rfl rfl rfl hl.1 rfl (catLe (Nat.le_of_ble_eq_true rfl)) dX6_day_120 ⟨Nat.zero_le _, Nat.zero_le _⟩ (fun r_24 hr_24 => ?_)
              subst hr_24
              exact hret _ _ _ _ _ (nw, (woF kd mn nw - 1), kd, mn, (dRun nw (woF kd mn nw - 1) (fil (rmF kd mn) ro2 nw) (fil (woF kd mn) wo2 nw) ce a pu m_).2.1.1, (fil (rmF kd mn) ro2 nw), (fil (woF kd mn) wo2 nw), (dRun nw (woF kd mn nw - 1) (fil (rmF kd mn) ro2 nw) (fil (woF kd mn) wo2 nw) ce a pu m_).1, (dRun nw (woF kd mn nw - 1) (fil (rmF kd mn) ro2 nw) (fil (woF kd mn) wo2 nw) ce a pu m_).2.1.2.1, (dRun nw (woF kd mn nw - 1) (fil (rmF kd mn) ro2 nw) (fil (woF kd mn) wo2 nw) ce a pu m_).2.1.2.2, (dRun nw (woF kd mn nw - 1) (fil (rmF kd mn) ro2 nw) (fil (woF kd mn) wo2 nw) ce a pu m_).2.2) dX6_day_123 hS (by rw [ha]; exact hP) (by rw [spDay, ha, if_neg (not_not_intro c_16), if_neg (by omega), hixa, hixm, if_neg (not_not_intro c_19), dRun_congr hn6 (ro' := rmF kd mn) (wo' := woF kd mn) (fun w h => fil_in h) (fun w h => fil_in h)]; simp only [ofD]; rw [numF_congr (wo := fil (woF kd mn) wo2 nw) (wo' := woF kd mn) (fun _ _ => rfl) (fun w h => fil_in h)])
            ·
              refine lv_iload hx hb dX6_day_87 (lv_at hl 0 rfl) ?_
              exact hret _ _ _ _ _ (n2, mo2, kd2, mn2, pu2, ro2, wo2, fw, sl, cr, gr) dX6_day_89 hS (by rw [ha]; exact hP) (by rw [spDay, ha, if_neg (not_not_intro c_16), if_neg (by omega), hixa, hixm, if_pos c_19])
          ·
            refine lv_bipush (v := (-3)) hx hb dX6_day_60 (by decide) ?_
            exact hret _ _ _ _ _ (n2, mo2, kd2, mn2, pu2, ro2, wo2, fw, sl, cr, gr) dX6_day_62 hS (by rw [ha]; exact hP) (by rw [spDay, ha, if_neg (not_not_intro c_16), if_pos (by omega)])
        ·
          refine lv_iload hx hb dX6_day_47 (lv_at hl 0 rfl) ?_
          exact hret _ _ _ _ _ (n2, mo2, kd2, mn2, pu2, ro2, wo2, fw, sl, cr, gr) dX6_day_49 hS (by rw [ha]; exact hP) (by rw [spDay, ha, if_pos c_16])
