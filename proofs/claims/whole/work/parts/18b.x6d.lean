set_option maxHeartbeats 4000000 in
set_option maxRecDepth 100000 in
theorem c_X6_order (l : Launch) (E : gE) (sz : Nat) (g0 : Nat) (h0 : Nat) (k0 : Nat) (gs : Nat) (ht : Nat) (hd : Nat) (ho : Nat) (hr : Nat) (fo : Nat) (wy : Nat) (tr : Int32) (lf : Int32) (sa : Nat → Option Nat) (hs : Nat) (qs : Nat) (th : Int32) (la : Int32) (ln : Nat) (ce : Nat → Int32) (a0 : Nat) (a1 : Nat) (a2 : Nat) (a3 : Nat) (a4 : Nat) (nw : Nat) (mo : Int32) (pu : Nat → Int32) (ro : Nat → Int32) (wo : Nat → Int32) (o0 : Nat) (o1 : Nat) (o2 : Nat) (sm : Nat → Int32) (nx : Nat → Int32) (sb : Nat → Int32) (j : Nat) (sheet : Int32) (lane : Int32) (i : Int32) (n : Int32) (k : Int32) (hj4 : j < 4) (hsa : sa j = some hs) (hjs : shP sheet → sheet = nI j) (h60 : ln ≤ 60) (hg : WG nw ro wo) : Met l yX6_order wsX6_order ({ frames := 5, cells := 0, slots := 0, locals := 122 }) (PW E [.ref g0, .int sheet, .int lane, .int i, .int n, .int k] [ob g0 6 [.ref h0, .ref k0, .ref gs, .ref ht, .ref hd, .ref ho, .ref hr, .ref fo, .ref wy, .int tr, .int lf], aq E gs 4 sa, ob hs 3 [.ref qs, .int th, .int la, .int (nI ln)], ar E qs 60 ce, ob h0 5 [.ref a0, .ref a1, .ref a2, .ref a3, .ref a4, .int (nI nw), .int mo], ar E a2 6 pu, ar E a3 6 ro, ar E a4 6 wo, ob ho 1 [.ref o0, .ref o1, .ref o2], ar E o0 64 sm, ar E o1 64 nx, ar E o2 64 sb] sz) (QWi E (fun r _ => r = spOrder sheet lane i n k th la ln ce nw mo pu ro wo sm nx sb) (fun (u : (Nat → Int32) × (Nat → Int32) × (Nat → Int32)) => [ob g0 6 [.ref h0, .ref k0, .ref gs, .ref ht, .ref hd, .ref ho, .ref hr, .ref fo, .ref wy, .int tr, .int (fltF (rtK sheet lane i n (if orT n k then 1 else 0) th la ln))], aq E gs 4 sa, ob hs 3 [.ref qs, .int th, .int la, .int (nI ln)], ar E qs 60 ce, ob h0 5 [.ref a0, .ref a1, .ref a2, .ref a3, .ref a4, .int (nI nw), .int mo], ar E a2 6 pu, ar E a3 6 ro, ar E a4 6 wo, ob ho 1 [.ref o0, .ref o1, .ref o2], ar E o0 64 u.1, ar E o1 64 u.2.1, ar E o2 64 u.2.2]) (va_A [ob g0 6 [.ref h0, .ref k0, .ref gs, .ref ht, .ref hd, .ref ho, .ref hr, .ref fo, .ref wy, .int tr, .int lf], aq E gs 4 sa, ob hs 3 [.ref qs, .int th, .int la, .int (nI ln)], ar E qs 60 ce, ob h0 5 [.ref a0, .ref a1, .ref a2, .ref a3, .ref a4, .int (nI nw), .int mo], ar E a2 6 pu, ar E a3 6 ro, ar E a4 6 wo, ob ho 1 [.ref o0, .ref o1, .ref o2], ar E o0 64 sm, ar E o1 64 nx, ar E o2 64 sb] sz)) 0 0 (va_A [ob g0 6 [.ref h0, .ref k0, .ref gs, .ref ht, .ref hd, .ref ho, .ref hr, .ref fo, .ref wy, .int tr, .int lf], aq E gs 4 sa, ob hs 3 [.ref qs, .int th, .int la, .int (nI ln)], ar E qs 60 ce, ob h0 5 [.ref a0, .ref a1, .ref a2, .ref a3, .ref a4, .int (nI nw), .int mo], ar E a2 6 pu, ar E a3 6 ro, ar E a4 6 wo, ob ho 1 [.ref o0, .ref o1, .ref o2], ar E o0 64 sm, ar E o1 64 nx, ar E o2 64 sb] sz) := by
  refine mkWi (cc := cX6_order) (maxL := 9) (by decide) rfl (Nat.le_of_ble_eq_true rfl) ?_
  intro p e s m args below meth c QQ A hx hb hml hown hmn hts hK hA hP hD hS hret ls hl
  have hown : s.vm.findClass RX6 = some m.cls := hown
  have hl : lv_has ls 9 [(0, .ref g0), (1, .int sheet), (2, .int lane), (3, .int i), (4, .int n), (5, .int k)] := hl
  have hinX5 : ∀ w ∈ wsX50, w ∈ wsX6_order := by decide +kernel
  have hinX6 : ∀ w ∈ wsX60, w ∈ wsX6_order := by decide +kernel
  have fl_12 := hts (.fieldLink RX6 12 "GuardAbacus" "wires" "LGuardAbacus$Wires;") (by decide +kernel)
  have fl_23 := hts (.fieldLink RX6 23 "GuardAbacus" "sheets" "[LGuardAbacus$Sheet;") (by decide +kernel)
  have fl_44 := hts (.fieldLink RX6 44 "GuardAbacus" "least" "LGuardAbacus$Order;") (by decide +kernel)
  have fl_89 := hts (.fieldLink RX6 89 "GuardAbacus$Wires" "count" "I") (by decide +kernel)
  refine lv_iload hx hb dX6_order_0 (lv_at hl 4 rfl) ?_
  refine lv_if_lt (tgt := 29) hx hb dX6_order_2 (by decide) (fun c_1 => ?_) (fun c_1 => ?_)
  ·
    have c_1b := Int32.not_le.mpr c_1
    refine lv_iconst (v := 0) hx hb dX6_order_29 (by decide) ?_
    refine lv_istore (lv' := [(6, .int 0), (0, .ref g0), (1, .int sheet), (2, .int lane), (3, .int i), (4, .int n), (5, .int k)]) hx hb dX6_order_30 hl (by decide) rfl (fun ls hl => ?_)
    refine lv_aload_n hx hb dX6_order_32 rfl (lv_at hl 1 rfl) ?_
    refine lv_iload_n hx hb dX6_order_33 rfl (lv_at hl 2 rfl) ?_
    refine lv_iload_n hx hb dX6_order_34 rfl (lv_at hl 3 rfl) ?_
    refine lv_iload_n hx hb dX6_order_35 rfl (lv_at hl 4 rfl) ?_
    refine lv_iload hx hb dX6_order_36 (lv_at hl 5 rfl) ?_
    refine lv_iload hx hb dX6_order_38 (lv_at hl 0 rfl) ?_
    have ha : (if orT n k then (1 : Int32) else 0) = 0 := if_neg (fun h => h.1 c_1)
    refine cwVi (As := [.int sheet, .int lane, .int i, .int n, .int 0]) (rest := []) ⟨hx, hb, hml, hown, hts⟩ (c_X6_rowTrouble l E _ g0 h0 k0 gs ht hd ho hr fo wy tr lf sa hs qs th la ln j sheet lane i n 0 (by first | assumption | omega) (by first | assumption | omega) (by first | assumption | omega)) (cwV 5 hts gX6_order_X6_rowTrouble rfl rfl rfl (by decide +kernel) ⟨Nat.le_of_ble_eq_true rfl, Nat.le_of_ble_eq_true rfl⟩) hK hP hD hS hA [0, 1, 2] (by decide) rfl [g0, gs, hs] (fun _ => rfl) rfl 0 rfl rfl rfl rfl hl.1 rfl (catLe (Nat.le_of_ble_eq_true rfl)) dX6_order_40 ⟨Nat.zero_le _, Nat.zero_le _⟩ (fun r_2 u_3 H locs hwr_2 hP hD hS => ?_)
    have hP : va_P E.1 vwCl [ob g0 6 [.ref h0, .ref k0, .ref gs, .ref ht, .ref hd, .ref ho, .ref hr, .ref fo, .ref wy, .int tr, .int (fltF (rtK sheet lane i n 0 th la ln))], aq E gs 4 sa, ob hs 3 [.ref qs, .int th, .int la, .int (nI ln)], ar E qs 60 ce, ob h0 5 [.ref a0, .ref a1, .ref a2, .ref a3, .ref a4, .int (nI nw), .int mo], ar E a2 6 pu, ar E a3 6 ro, ar E a4 6 wo, ob ho 1 [.ref o0, .ref o1, .ref o2], ar E o0 64 sm, ar E o1 64 nx, ar E o2 64 sb] H := hP
    have hD : va_D A [ob g0 6 [.ref h0, .ref k0, .ref gs, .ref ht, .ref hd, .ref ho, .ref hr, .ref fo, .ref wy, .int tr, .int (fltF (rtK sheet lane i n 0 th la ln))], aq E gs 4 sa, ob hs 3 [.ref qs, .int th, .int la, .int (nI ln)], ar E qs 60 ce, ob h0 5 [.ref a0, .ref a1, .ref a2, .ref a3, .ref a4, .int (nI nw), .int mo], ar E a2 6 pu, ar E a3 6 ro, ar E a4 6 wo, ob ho 1 [.ref o0, .ref o1, .ref o2], ar E o0 64 sm, ar E o1 64 nx, ar E o2 64 sb] := hD
    subst hwr_2
    refine lv_istore (lv' := [(7, .int (rtK sheet lane i n 0 th la ln)), (6, .int 0), (0, .ref g0), (1, .int sheet), (2, .int lane), (3, .int i), (4, .int n), (5, .int k)]) hx hb dX6_order_43 hl (by decide) rfl (fun ls hl => ?_)
    refine lv_iload hx hb dX6_order_45 (lv_at hl 0 rfl) ?_
    refine lv_if_eq (tgt := 53) hx hb dX6_order_47 (by decide) (fun c_4 => ?_) (fun c_4 => ?_)
    ·
      have hz := rtK_0 c_4
      exact absurd rfl hz.2.2.1
    ·
      refine lv_iload hx hb dX6_order_50 (lv_at hl 0 rfl) ?_
      exact hret _ _ _ _ _ (sm, nx, sb) dX6_order_52 hS (by rw [ha]; exact hP) (by rw [spOrder, ha, if_pos c_4])
  ·
    have c_1b := Int32.not_lt.mp c_1
    refine lv_iload hx hb dX6_order_5 (lv_at hl 4 rfl) ?_
    refine lv_bipush (v := 6) hx hb dX6_order_7 (by decide) ?_
    refine lv_icmp_gt (tgt := 29) hx hb dX6_order_9 (by decide) (fun c_5 => ?_) (fun c_5 => ?_)
    ·
      have c_5b := Int32.not_le.mpr c_5
      refine lv_iconst (v := 0) hx hb dX6_order_29 (by decide) ?_
      refine lv_istore (lv' := [(6, .int 0), (0, .ref g0), (1, .int sheet), (2, .int lane), (3, .int i), (4, .int n), (5, .int k)]) hx hb dX6_order_30 hl (by decide) rfl (fun ls hl => ?_)
      refine lv_aload_n hx hb dX6_order_32 rfl (lv_at hl 1 rfl) ?_
      refine lv_iload_n hx hb dX6_order_33 rfl (lv_at hl 2 rfl) ?_
      refine lv_iload_n hx hb dX6_order_34 rfl (lv_at hl 3 rfl) ?_
      refine lv_iload_n hx hb dX6_order_35 rfl (lv_at hl 4 rfl) ?_
      refine lv_iload hx hb dX6_order_36 (lv_at hl 5 rfl) ?_
      refine lv_iload hx hb dX6_order_38 (lv_at hl 0 rfl) ?_
      have ha : (if orT n k then (1 : Int32) else 0) = 0 := if_neg (fun h => absurd h.2.1 c_5b)
      refine cwVi (As := [.int sheet, .int lane, .int i, .int n, .int 0]) (rest := []) ⟨hx, hb, hml, hown, hts⟩ (c_X6_rowTrouble l E _ g0 h0 k0 gs ht hd ho hr fo wy tr lf sa hs qs th la ln j sheet lane i n 0 (by first | assumption | omega) (by first | assumption | omega) (by first | assumption | omega)) (cwV 5 hts gX6_order_X6_rowTrouble rfl rfl rfl (by decide +kernel) ⟨Nat.le_of_ble_eq_true rfl, Nat.le_of_ble_eq_true rfl⟩) hK hP hD hS hA [0, 1, 2] (by decide) rfl [g0, gs, hs] (fun _ => rfl) rfl 0 rfl rfl rfl rfl hl.1 rfl (catLe (Nat.le_of_ble_eq_true rfl)) dX6_order_40 ⟨Nat.zero_le _, Nat.zero_le _⟩ (fun r_6 u_7 H locs hwr_6 hP hD hS => ?_)
      have hP : va_P E.1 vwCl [ob g0 6 [.ref h0, .ref k0, .ref gs, .ref ht, .ref hd, .ref ho, .ref hr, .ref fo, .ref wy, .int tr, .int (fltF (rtK sheet lane i n 0 th la ln))], aq E gs 4 sa, ob hs 3 [.ref qs, .int th, .int la, .int (nI ln)], ar E qs 60 ce, ob h0 5 [.ref a0, .ref a1, .ref a2, .ref a3, .ref a4, .int (nI nw), .int mo], ar E a2 6 pu, ar E a3 6 ro, ar E a4 6 wo, ob ho 1 [.ref o0, .ref o1, .ref o2], ar E o0 64 sm, ar E o1 64 nx, ar E o2 64 sb] H := hP
      have hD : va_D A [ob g0 6 [.ref h0, .ref k0, .ref gs, .ref ht, .ref hd, .ref ho, .ref hr, .ref fo, .ref wy, .int tr, .int (fltF (rtK sheet lane i n 0 th la ln))], aq E gs 4 sa, ob hs 3 [.ref qs, .int th, .int la, .int (nI ln)], ar E qs 60 ce, ob h0 5 [.ref a0, .ref a1, .ref a2, .ref a3, .ref a4, .int (nI nw), .int mo], ar E a2 6 pu, ar E a3 6 ro, ar E a4 6 wo, ob ho 1 [.ref o0, .ref o1, .ref o2], ar E o0 64 sm, ar E o1 64 nx, ar E o2 64 sb] := hD
      subst hwr_6
      refine lv_istore (lv' := [(7, .int (rtK sheet lane i n 0 th la ln)), (6, .int 0), (0, .ref g0), (1, .int sheet), (2, .int lane), (3, .int i), (4, .int n), (5, .int k)]) hx hb dX6_order_43 hl (by decide) rfl (fun ls hl => ?_)
      refine lv_iload hx hb dX6_order_45 (lv_at hl 0 rfl) ?_
      refine lv_if_eq (tgt := 53) hx hb dX6_order_47 (by decide) (fun c_8 => ?_) (fun c_8 => ?_)
      ·
        have hz := rtK_0 c_8
        exact absurd rfl hz.2.2.1
      ·
        refine lv_iload hx hb dX6_order_50 (lv_at hl 0 rfl) ?_
        exact hret _ _ _ _ _ (sm, nx, sb) dX6_order_52 hS (by rw [ha]; exact hP) (by rw [spOrder, ha, if_pos c_8])
    ·
      have c_5b := Int32.not_lt.mp c_5
      refine lv_iload hx hb dX6_order_12 (lv_at hl 5 rfl) ?_
      refine lv_iconst (v := (-1)) hx hb dX6_order_14 (by decide) ?_
      refine lv_icmp_lt (tgt := 29) hx hb dX6_order_15 (by decide) (fun c_9 => ?_) (fun c_9 => ?_)
      ·
        have c_9b := Int32.not_le.mpr c_9
        refine lv_iconst (v := 0) hx hb dX6_order_29 (by decide) ?_
        refine lv_istore (lv' := [(6, .int 0), (0, .ref g0), (1, .int sheet), (2, .int lane), (3, .int i), (4, .int n), (5, .int k)]) hx hb dX6_order_30 hl (by decide) rfl (fun ls hl => ?_)
        refine lv_aload_n hx hb dX6_order_32 rfl (lv_at hl 1 rfl) ?_
        refine lv_iload_n hx hb dX6_order_33 rfl (lv_at hl 2 rfl) ?_
        refine lv_iload_n hx hb dX6_order_34 rfl (lv_at hl 3 rfl) ?_
        refine lv_iload_n hx hb dX6_order_35 rfl (lv_at hl 4 rfl) ?_
        refine lv_iload hx hb dX6_order_36 (lv_at hl 5 rfl) ?_
        refine lv_iload hx hb dX6_order_38 (lv_at hl 0 rfl) ?_
        have ha : (if orT n k then (1 : Int32) else 0) = 0 := if_neg (fun h => h.2.2.1 c_9)
        refine cwVi (As := [.int sheet, .int lane, .int i, .int n, .int 0]) (rest := []) ⟨hx, hb, hml, hown, hts⟩ (c_X6_rowTrouble l E _ g0 h0 k0 gs ht hd ho hr fo wy tr lf sa hs qs th la ln j sheet lane i n 0 (by first | assumption | omega) (by first | assumption | omega) (by first | assumption | omega)) (cwV 5 hts gX6_order_X6_rowTrouble rfl rfl rfl (by decide +kernel) ⟨Nat.le_of_ble_eq_true rfl, Nat.le_of_ble_eq_true rfl⟩) hK hP hD hS hA [0, 1, 2] (by decide) rfl [g0, gs, hs] (fun _ => rfl) rfl 0 rfl rfl rfl rfl hl.1 rfl (catLe (Nat.le_of_ble_eq_true rfl)) dX6_order_40 ⟨Nat.zero_le _, Nat.zero_le _⟩ (fun r_10 u_11 H locs hwr_10 hP hD hS => ?_)
        have hP : va_P E.1 vwCl [ob g0 6 [.ref h0, .ref k0, .ref gs, .ref ht, .ref hd, .ref ho, .ref hr, .ref fo, .ref wy, .int tr, .int (fltF (rtK sheet lane i n 0 th la ln))], aq E gs 4 sa, ob hs 3 [.ref qs, .int th, .int la, .int (nI ln)], ar E qs 60 ce, ob h0 5 [.ref a0, .ref a1, .ref a2, .ref a3, .ref a4, .int (nI nw), .int mo], ar E a2 6 pu, ar E a3 6 ro, ar E a4 6 wo, ob ho 1 [.ref o0, .ref o1, .ref o2], ar E o0 64 sm, ar E o1 64 nx, ar E o2 64 sb] H := hP
        have hD : va_D A [ob g0 6 [.ref h0, .ref k0, .ref gs, .ref ht, .ref hd, .ref ho, .ref hr, .ref fo, .ref wy, .int tr, .int (fltF (rtK sheet lane i n 0 th la ln))], aq E gs 4 sa, ob hs 3 [.ref qs, .int th, .int la, .int (nI ln)], ar E qs 60 ce, ob h0 5 [.ref a0, .ref a1, .ref a2, .ref a3, .ref a4, .int (nI nw), .int mo], ar E a2 6 pu, ar E a3 6 ro, ar E a4 6 wo, ob ho 1 [.ref o0, .ref o1, .ref o2], ar E o0 64 sm, ar E o1 64 nx, ar E o2 64 sb] := hD
        subst hwr_10
        refine lv_istore (lv' := [(7, .int (rtK sheet lane i n 0 th la ln)), (6, .int 0), (0, .ref g0), (1, .int sheet), (2, .int lane), (3, .int i), (4, .int n), (5, .int k)]) hx hb dX6_order_43 hl (by decide) rfl (fun ls hl => ?_)
        refine lv_iload hx hb dX6_order_45 (lv_at hl 0 rfl) ?_
        refine lv_if_eq (tgt := 53) hx hb dX6_order_47 (by decide) (fun c_12 => ?_) (fun c_12 => ?_)
        ·
          have hz := rtK_0 c_12
          exact absurd rfl hz.2.2.1
        ·
          refine lv_iload hx hb dX6_order_50 (lv_at hl 0 rfl) ?_
          exact hret _ _ _ _ _ (sm, nx, sb) dX6_order_52 hS (by rw [ha]; exact hP) (by rw [spOrder, ha, if_pos c_12])
      ·
        have c_9b := Int32.not_lt.mp c_9
        refine lv_iload hx hb dX6_order_18 (lv_at hl 5 rfl) ?_
        refine lv_bipush (v := 6) hx hb dX6_order_20 (by decide) ?_
        refine lv_icmp_ge (tgt := 29) hx hb dX6_order_22 (by decide) (fun c_13 => ?_) (fun c_13 => ?_)
        ·
          have c_13b := Int32.not_lt.mpr c_13
          refine lv_iconst (v := 0) hx hb dX6_order_29 (by decide) ?_
          refine lv_istore (lv' := [(6, .int 0), (0, .ref g0), (1, .int sheet), (2, .int lane), (3, .int i), (4, .int n), (5, .int k)]) hx hb dX6_order_30 hl (by decide) rfl (fun ls hl => ?_)
          refine lv_aload_n hx hb dX6_order_32 rfl (lv_at hl 1 rfl) ?_
          refine lv_iload_n hx hb dX6_order_33 rfl (lv_at hl 2 rfl) ?_
          refine lv_iload_n hx hb dX6_order_34 rfl (lv_at hl 3 rfl) ?_
          refine lv_iload_n hx hb dX6_order_35 rfl (lv_at hl 4 rfl) ?_
          refine lv_iload hx hb dX6_order_36 (lv_at hl 5 rfl) ?_
          refine lv_iload hx hb dX6_order_38 (lv_at hl 0 rfl) ?_
          have ha : (if orT n k then (1 : Int32) else 0) = 0 := if_neg (fun h => c_13b h.2.2.2)
          refine cwVi (As := [.int sheet, .int lane, .int i, .int n, .int 0]) (rest := []) ⟨hx, hb, hml, hown, hts⟩ (c_X6_rowTrouble l E _ g0 h0 k0 gs ht hd ho hr fo wy tr lf sa hs qs th la ln j sheet lane i n 0 (by first | assumption | omega) (by first | assumption | omega) (by first | assumption | omega)) (cwV 5 hts gX6_order_X6_rowTrouble rfl rfl rfl (by decide +kernel) ⟨Nat.le_of_ble_eq_true rfl, Nat.le_of_ble_eq_true rfl⟩) hK hP hD hS hA [0, 1, 2] (by decide) rfl [g0, gs, hs] (fun _ => rfl) rfl 0 rfl rfl rfl rfl hl.1 rfl (catLe (Nat.le_of_ble_eq_true rfl)) dX6_order_40 ⟨Nat.zero_le _, Nat.zero_le _⟩ (fun r_14 u_15 H locs hwr_14 hP hD hS => ?_)
          have hP : va_P E.1 vwCl [ob g0 6 [.ref h0, .ref k0, .ref gs, .ref ht, .ref hd, .ref ho, .ref hr, .ref fo, .ref wy, .int tr, .int (fltF (rtK sheet lane i n 0 th la ln))], aq E gs 4 sa, ob hs 3 [.ref qs, .int th, .int la, .int (nI ln)], ar E qs 60 ce, ob h0 5 [.ref a0, .ref a1, .ref a2, .ref a3, .ref a4, .int (nI nw), .int mo], ar E a2 6 pu, ar E a3 6 ro, ar E a4 6 wo, ob ho 1 [.ref o0, .ref o1, .ref o2], ar E o0 64 sm, ar E o1 64 nx, ar E o2 64 sb] H := hP
          have hD : va_D A [ob g0 6 [.ref h0, .ref k0, .ref gs, .ref ht, .ref hd, .ref ho, .ref hr, .ref fo, .ref wy, .int tr, .int (fltF (rtK sheet lane i n 0 th la ln))], aq E gs 4 sa, ob hs 3 [.ref qs, .int th, .int la, .int (nI ln)], ar E qs 60 ce, ob h0 5 [.ref a0, .ref a1, .ref a2, .ref a3, .ref a4, .int (nI nw), .int mo], ar E a2 6 pu, ar E a3 6 ro, ar E a4 6 wo, ob ho 1 [.ref o0, .ref o1, .ref o2], ar E o0 64 sm, ar E o1 64 nx, ar E o2 64 sb] := hD
          subst hwr_14
          refine lv_istore (lv' := [(7, .int (rtK sheet lane i n 0 th la ln)), (6, .int 0), (0, .ref g0), (1, .int sheet), (2, .int lane), (3, .int i), (4, .int n), (5, .int k)]) hx hb dX6_order_43 hl (by decide) rfl (fun ls hl => ?_)
          refine lv_iload hx hb dX6_order_45 (lv_at hl 0 rfl) ?_
          refine lv_if_eq (tgt := 53) hx hb dX6_order_47 (by decide) (fun c_16 => ?_) (fun c_16 => ?_)
          ·
            have hz := rtK_0 c_16
            exact absurd rfl hz.2.2.1
          ·
            refine lv_iload hx hb dX6_order_50 (lv_at hl 0 rfl) ?_
            exact hret _ _ _ _ _ (sm, nx, sb) dX6_order_52 hS (by rw [ha]; exact hP) (by rw [spOrder, ha, if_pos c_16])
        ·
          have c_13b := Int32.not_le.mp c_13
          refine lv_iconst (v := 1) hx hb dX6_order_25 (by decide) ?_
          refine lv_goto (tgt := 30) hx hb dX6_order_26 (by decide) ?_
          refine lv_istore (lv' := [(6, .int 1), (0, .ref g0), (1, .int sheet), (2, .int lane), (3, .int i), (4, .int n), (5, .int k)]) hx hb dX6_order_30 hl (by decide) rfl (fun ls hl => ?_)
          refine lv_aload_n hx hb dX6_order_32 rfl (lv_at hl 1 rfl) ?_
          refine lv_iload_n hx hb dX6_order_33 rfl (lv_at hl 2 rfl) ?_
          refine lv_iload_n hx hb dX6_order_34 rfl (lv_at hl 3 rfl) ?_
          refine lv_iload_n hx hb dX6_order_35 rfl (lv_at hl 4 rfl) ?_
          refine lv_iload hx hb dX6_order_36 (lv_at hl 5 rfl) ?_
          refine lv_iload hx hb dX6_order_38 (lv_at hl 0 rfl) ?_
          have ha : (if orT n k then (1 : Int32) else 0) = 1 := if_pos ⟨c_1, c_5b, c_9, c_13b⟩
          refine cwVi (As := [.int sheet, .int lane, .int i, .int n, .int 1]) (rest := []) ⟨hx, hb, hml, hown, hts⟩ (c_X6_rowTrouble l E _ g0 h0 k0 gs ht hd ho hr fo wy tr lf sa hs qs th la ln j sheet lane i n 1 (by first | assumption | omega) (by first | assumption | omega) (by first | assumption | omega)) (cwV 5 hts gX6_order_X6_rowTrouble rfl rfl rfl (by decide +kernel) ⟨Nat.le_of_ble_eq_true rfl, Nat.le_of_ble_eq_true rfl⟩) hK hP hD hS hA [0, 1, 2] (by decide) rfl [g0, gs, hs] (fun _ => rfl) rfl 0 rfl rfl rfl rfl hl.1 rfl (catLe (Nat.le_of_ble_eq_true rfl)) dX6_order_40 ⟨Nat.zero_le _, Nat.zero_le _⟩ (fun r_17 u_18 H locs hwr_17 hP hD hS => ?_)
          have hP : va_P E.1 vwCl [ob g0 6 [.ref h0, .ref k0, .ref gs, .ref ht, .ref hd, .ref ho, .ref hr, .ref fo, .ref wy, .int tr, .int (fltF (rtK sheet lane i n 1 th la ln))], aq E gs 4 sa, ob hs 3 [.ref qs, .int th, .int la, .int (nI ln)], ar E qs 60 ce, ob h0 5 [.ref a0, .ref a1, .ref a2, .ref a3, .ref a4, .int (nI nw), .int mo], ar E a2 6 pu, ar E a3 6 ro, ar E a4 6 wo, ob ho 1 [.ref o0, .ref o1, .ref o2], ar E o0 64 sm, ar E o1 64 nx, ar E o2 64 sb] H := hP
          have hD : va_D A [ob g0 6 [.ref h0, .ref k0, .ref gs, .ref ht, .ref hd, .ref ho, .ref hr, .ref fo, .ref wy, .int tr, .int (fltF (rtK sheet lane i n 1 th la ln))], aq E gs 4 sa, ob hs 3 [.ref qs, .int th, .int la, .int (nI ln)], ar E qs 60 ce, ob h0 5 [.ref a0, .ref a1, .ref a2, .ref a3, .ref a4, .int (nI nw), .int mo], ar E a2 6 pu, ar E a3 6 ro, ar E a4 6 wo, ob ho 1 [.ref o0, .ref o1, .ref o2], ar E o0 64 sm, ar E o1 64 nx, ar E o2 64 sb] := hD
          subst hwr_17
          refine lv_istore (lv' := [(7, .int (rtK sheet lane i n 1 th la ln)), (6, .int 1), (0, .ref g0), (1, .int sheet), (2, .int lane), (3, .int i), (4, .int n), (5, .int k)]) hx hb dX6_order_43 hl (by decide) rfl (fun ls hl => ?_)
          refine lv_iload hx hb dX6_order_45 (lv_at hl 0 rfl) ?_
          refine lv_if_eq (tgt := 53) hx hb dX6_order_47 (by decide) (fun c_19 => ?_) (fun c_19 => ?_)
          ·
            have hz := rtK_0 c_19
            have hsh := hjs hz.1
            subst hsh
            obtain ⟨m_, hm, rfl⟩ := le_nat (n := 6) (M := 6) rfl c_1 c_5b
            obtain ⟨a, rfl, hab⟩ := reach2 hz.2.2.2.2.2 h60 (by omega)
            have hixa : ix (nI a) = a := ix_nI (by omega)
            have hixm : ix (nI m_) = m_ := ix_nI (by omega)
            have hn6 := hg.1
            refine lv_aload_n hx hb dX6_order_53 rfl (lv_at hl 2 rfl) ?_
            refine va_get (D := E.1) (ci := 6) (v := .ref h0) (C := RX6) (T := TX6) (N := 11) hx hb hts hinX6 hown hK.1 hP 0 rfl rfl 0 (by decide) fl_12 (fun _ h9 => h9) rfl dX6_order_54 ?_
            refine va_get (D := E.1) (ci := 5) (v := .int (nI nw)) (C := RX5) (T := TX5) (N := 7) hx hb hts hinX5 hown hK.1 hP 4 rfl rfl 5 (by decide) fl_89 (fun _ h9 => h9) rfl dX6_order_57 ?_
            refine ifN_ne (tgt := 66) (a := nw) hx hb rfl (by omega) dX6_order_60 (by decide) (fun c_20 => ?_) (fun c_20 => ?_)
            ·
              refine lv_aload_n hx hb dX6_order_66 rfl (lv_at hl 2 rfl) ?_
              refine va_get (D := E.1) (ci := 6) (v := .ref gs) (C := RX6) (T := TX6) (N := 11) hx hb hts hinX6 hown hK.1 hP 0 rfl rfl 2 (by decide) fl_23 (fun _ h9 => h9) rfl dX6_order_67 ?_
              refine lv_iload_n hx hb dX6_order_70 rfl (lv_at hl 3 rfl) ?_
              refine ald hx hb hK hP 1 rfl (j := j) rfl (by omega) (by decide) (v := hs) hsa dX6_order_71 ?_
              refine lv_astore (lv' := [(8, .ref hs), (7, .int (rtK (nI j) lane (nI a) (nI m_) 1 th la ln)), (6, .int 1), (0, .ref g0), (1, .int (nI j)), (2, .int lane), (3, .int (nI a)), (4, .int (nI m_)), (5, .int k)]) hx hb dX6_order_72 hl (by decide) rfl (fun ls hl => ?_)
              refine lv_aload hx hb dX6_order_74 (lv_at hl 0 rfl) ?_
              refine lv_iload_n hx hb dX6_order_76 rfl (lv_at hl 6 rfl) ?_
              refine lv_iload hx hb dX6_order_77 (lv_at hl 7 rfl) ?_
              refine lv_ldc hx hb hown (hts (.constant RX6 155 (99999)) (by decide +kernel)) dX6_order_79 ?_
              refine crV (As := [.int (nI a), .int (nI m_), .int 99999]) (rest := []) ⟨hx, hb, hml, hown, hts⟩ (c_X3_allWithin l E hs qs th la ln ce a m_ 99999 (by first | assumption | omega) (by omega)) (cwV 3 hts gX6_order_X3_allWithin rfl rfl rfl (by decide +kernel) ⟨Nat.le_of_ble_eq_true rfl, Nat.le_of_ble_eq_true rfl⟩) hK hP [2, 3] rfl 0 rfl rfl rfl rfl hl.1 rfl (catLe (Nat.le_of_ble_eq_true rfl)) dX6_order_81 ⟨Nat.zero_le _, Nat.zero_le _⟩ (fun r_21 hr_21 => ?_)
              subst hr_21
              refine ifB_ne (P := allP ce a m_ 99999) (tgt := 90) hx hb dX6_order_84 (by decide) (fun c_22 => ?_) (fun c_22 => ?_)
              ·
                refine lv_aload_n hx hb dX6_order_90 rfl (lv_at hl 3 rfl) ?_
                refine va_get (D := E.1) (ci := 6) (v := .ref ho) (C := RX6) (T := TX6) (N := 11) hx hb hts hinX6 hown hK.1 hP 0 rfl rfl 5 (by decide) fl_44 (fun _ h9 => h9) rfl dX6_order_91 ?_
                refine lv_aload_n hx hb dX6_order_94 rfl (lv_at hl 3 rfl) ?_
                refine va_get (D := E.1) (ci := 6) (v := .ref h0) (C := RX6) (T := TX6) (N := 11) hx hb hts hinX6 hown hK.1 hP 0 rfl rfl 0 (by decide) fl_12 (fun _ h9 => h9) rfl dX6_order_95 ?_
                refine lv_aload hx hb dX6_order_98 (lv_at hl 0 rfl) ?_
                refine lv_iload_n hx hb dX6_order_100 rfl (lv_at hl 6 rfl) ?_
                refine lv_iload hx hb dX6_order_101 (lv_at hl 7 rfl) ?_
                refine cwVi (As := [.ref h0, .ref hs, .int (nI a), .int (nI m_)]) (rest := []) ⟨hx, hb, hml, hown, hts⟩ (c_X1_find l E _ ho o0 o1 o2 sm nx sb h0 a0 a1 a2 a3 a4 nw mo pu ro wo hs qs th la ln ce a m_ (by first | assumption | omega) (by first | assumption | omega) (by omega) (by omega)) (cwV 4 hts gX6_order_X1_find rfl rfl rfl (by decide +kernel) ⟨Nat.le_of_ble_eq_true rfl, Nat.le_of_ble_eq_true rfl⟩) hK hP hD hS hA [8, 9, 10, 11, 4, 5, 6, 7, 2, 3] (by decide) rfl [ho, o0, o1, o2, h0, a2, a3, a4, hs, qs] (fun _ => rfl) rfl 0 rfl rfl rfl rfl hl.1 rfl (catLe (Nat.le_of_ble_eq_true rfl)) dX6_order_103 ⟨Nat.zero_le _, Nat.zero_le _⟩ (fun r_23 u_24 H locs hwr_23 hP hD hS => ?_)
                have hP : va_P E.1 vwCl [ob g0 6 [.ref h0, .ref k0, .ref gs, .ref ht, .ref hd, .ref ho, .ref hr, .ref fo, .ref wy, .int tr, .int (fltF (rtK (nI j) lane (nI a) (nI m_) 1 th la ln))], aq E gs 4 sa, ob hs 3 [.ref qs, .int th, .int la, .int (nI ln)], ar E qs 60 ce, ob h0 5 [.ref a0, .ref a1, .ref a2, .ref a3, .ref a4, .int (nI nw), .int mo], ar E a2 6 pu, ar E a3 6 ro, ar E a4 6 wo, ob ho 1 [.ref o0, .ref o1, .ref o2], ar E o0 64 (fil (fun st => ssF (fun q => ce (a + q)) st m_) sm (2 ^ m_)), ar E o1 64 (if canP nw mo (numF pu wo nw) (fil (fun st => ssF (fun q => ce (a + q)) st m_) sm (2 ^ m_) (2 ^ m_ - 1)) then (fO nw ro wo (fil (fun st => ssF (fun q => ce (a + q)) st m_) sm (2 ^ m_)) nx sb (numF pu wo nw) m_ (2 ^ m_ - 1)).1 else nx), ar E o2 64 (if canP nw mo (numF pu wo nw) (fil (fun st => ssF (fun q => ce (a + q)) st m_) sm (2 ^ m_) (2 ^ m_ - 1)) then (fO nw ro wo (fil (fun st => ssF (fun q => ce (a + q)) st m_) sm (2 ^ m_)) nx sb (numF pu wo nw) m_ (2 ^ m_ - 1)).2 else sb)] H := hP
                have hD : va_D A [ob g0 6 [.ref h0, .ref k0, .ref gs, .ref ht, .ref hd, .ref ho, .ref hr, .ref fo, .ref wy, .int tr, .int (fltF (rtK (nI j) lane (nI a) (nI m_) 1 th la ln))], aq E gs 4 sa, ob hs 3 [.ref qs, .int th, .int la, .int (nI ln)], ar E qs 60 ce, ob h0 5 [.ref a0, .ref a1, .ref a2, .ref a3, .ref a4, .int (nI nw), .int mo], ar E a2 6 pu, ar E a3 6 ro, ar E a4 6 wo, ob ho 1 [.ref o0, .ref o1, .ref o2], ar E o0 64 (fil (fun st => ssF (fun q => ce (a + q)) st m_) sm (2 ^ m_)), ar E o1 64 (if canP nw mo (numF pu wo nw) (fil (fun st => ssF (fun q => ce (a + q)) st m_) sm (2 ^ m_) (2 ^ m_ - 1)) then (fO nw ro wo (fil (fun st => ssF (fun q => ce (a + q)) st m_) sm (2 ^ m_)) nx sb (numF pu wo nw) m_ (2 ^ m_ - 1)).1 else nx), ar E o2 64 (if canP nw mo (numF pu wo nw) (fil (fun st => ssF (fun q => ce (a + q)) st m_) sm (2 ^ m_) (2 ^ m_ - 1)) then (fO nw ro wo (fil (fun st => ssF (fun q => ce (a + q)) st m_) sm (2 ^ m_)) nx sb (numF pu wo nw) m_ (2 ^ m_ - 1)).2 else sb)] := hD
                subst hwr_23
                refine ifB_ne (P := canP nw mo (numF pu wo nw) (fil (fun st => ssF (fun q => ce (a + q)) st m_) sm (2 ^ m_) (2 ^ m_ - 1))) (tgt := 112) hx hb dX6_order_106 (by decide) (fun c_25 => ?_) (fun c_25 => ?_)
                ·
                  rw [if_pos c_25, if_pos c_25] at hP hD
                  have hP : va_P E.1 vwCl [ob g0 6 [.ref h0, .ref k0, .ref gs, .ref ht, .ref hd, .ref ho, .ref hr, .ref fo, .ref wy, .int tr, .int (fltF (rtK (nI j) lane (nI a) (nI m_) 1 th la ln))], aq E gs 4 sa, ob hs 3 [.ref qs, .int th, .int la, .int (nI ln)], ar E qs 60 ce, ob h0 5 [.ref a0, .ref a1, .ref a2, .ref a3, .ref a4, .int (nI nw), .int mo], ar E a2 6 pu, ar E a3 6 ro, ar E a4 6 wo, ob ho 1 [.ref o0, .ref o1, .ref o2], ar E o0 64 (fil (fun st => ssF (fun q => ce (a + q)) st m_) sm (2 ^ m_)), ar E o1 64 ((fO nw ro wo (orS ce a m_ sm) nx sb (numF pu wo nw) m_ (2 ^ m_ - 1)).1), ar E o2 64 ((fO nw ro wo (orS ce a m_ sm) nx sb (numF pu wo nw) m_ (2 ^ m_ - 1)).2)] H := hP
                  have hD : va_D A [ob g0 6 [.ref h0, .ref k0, .ref gs, .ref ht, .ref hd, .ref ho, .ref hr, .ref fo, .ref wy, .int tr, .int (fltF (rtK (nI j) lane (nI a) (nI m_) 1 th la ln))], aq E gs 4 sa, ob hs 3 [.ref qs, .int th, .int la, .int (nI ln)], ar E qs 60 ce, ob h0 5 [.ref a0, .ref a1, .ref a2, .ref a3, .ref a4, .int (nI nw), .int mo], ar E a2 6 pu, ar E a3 6 ro, ar E a4 6 wo, ob ho 1 [.ref o0, .ref o1, .ref o2], ar E o0 64 (fil (fun st => ssF (fun q => ce (a + q)) st m_) sm (2 ^ m_)), ar E o1 64 ((fO nw ro wo (orS ce a m_ sm) nx sb (numF pu wo nw) m_ (2 ^ m_ - 1)).1), ar E o2 64 ((fO nw ro wo (orS ce a m_ sm) nx sb (numF pu wo nw) m_ (2 ^ m_ - 1)).2)] := hD
                  refine lv_iload hx hb dX6_order_112 (lv_at hl 8 rfl) ?_
                  refine lv_if_ge (tgt := 125) hx hb dX6_order_114 (by decide) (fun c_26 => ?_) (fun c_26 => ?_)
                  ·
                    have c_26b := Int32.not_lt.mpr c_26
                    obtain ⟨y, hy, rfl⟩ := in6 c_26b (Int32.not_le.mpr c_13b)
                    have hixy : ix (nI y) = y := ix_nI (by omega)
                    refine lv_aload_n hx hb dX6_order_125 rfl (lv_at hl 3 rfl) ?_
                    refine va_get (D := E.1) (ci := 6) (v := .ref ho) (C := RX6) (T := TX6) (N := 11) hx hb hts hinX6 hown hK.1 hP 0 rfl rfl 5 (by decide) fl_44 (fun _ h9 => h9) rfl dX6_order_126 ?_
                    refine lv_iload hx hb dX6_order_129 (lv_at hl 8 rfl) ?_
                    refine crV (As := [.int (nI y)]) (rest := []) ⟨hx, hb, hml, hown, hts⟩ (c_X1_placeAt l E ho o0 o1 o2 ((fO nw ro wo (orS ce a m_ sm) nx sb (numF pu wo nw) m_ (2 ^ m_ - 1)).1) y (by omega)) (cwV 1 hts gX6_order_X1_placeAt rfl rfl rfl (by decide +kernel) ⟨Nat.le_of_ble_eq_true rfl, Nat.le_of_ble_eq_true rfl⟩) hK hP [8, 10] rfl 0 rfl rfl rfl rfl hl.1 rfl (catLe (Nat.le_of_ble_eq_true rfl)) dX6_order_131 ⟨Nat.zero_le _, Nat.zero_le _⟩ (fun r_27 hr_27 => ?_)
                    subst hr_27
                    exact hret _ _ _ _ _ (fil (fun st => ssF (fun q => ce (a + q)) st m_) sm (2 ^ m_), (fO nw ro wo (orS ce a m_ sm) nx sb (numF pu wo nw) m_ (2 ^ m_ - 1)).1, (fO nw ro wo (orS ce a m_ sm) nx sb (numF pu wo nw) m_ (2 ^ m_ - 1)).2) dX6_order_134 hS (by rw [ha]; exact hP) (by rw [spOrder, ha, if_neg (not_not_intro c_19), if_neg (by omega), hixa, hixm, if_neg (not_not_intro c_22), if_neg (not_not_intro c_25), if_neg c_26b, hixy])
                  ·
                    have c_26b := Int32.not_le.mp c_26
                    refine lv_aload_n hx hb dX6_order_117 rfl (lv_at hl 3 rfl) ?_
                    refine va_get (D := E.1) (ci := 6) (v := .ref ho) (C := RX6) (T := TX6) (N := 11) hx hb hts hinX6 hown hK.1 hP 0 rfl rfl 5 (by decide) fl_44 (fun _ h9 => h9) rfl dX6_order_118 ?_
                    refine crV (As := []) (rest := []) ⟨hx, hb, hml, hown, hts⟩ (c_X1_slidInAll l E ho o0 o1 o2 ((fO nw ro wo (orS ce a m_ sm) nx sb (numF pu wo nw) m_ (2 ^ m_ - 1)).2)) (cwV 0 hts gX6_order_X1_slidInAll rfl rfl rfl (by decide +kernel) ⟨Nat.le_of_ble_eq_true rfl, Nat.le_of_ble_eq_true rfl⟩) hK hP [8, 11] rfl 0 rfl rfl rfl rfl hl.1 rfl (catLe (Nat.le_of_ble_eq_true rfl)) dX6_order_121 ⟨Nat.zero_le _, Nat.zero_le _⟩ (fun r_28 hr_28 => ?_)
                    subst hr_28
                    exact hret _ _ _ _ _ (fil (fun st => ssF (fun q => ce (a + q)) st m_) sm (2 ^ m_), (fO nw ro wo (orS ce a m_ sm) nx sb (numF pu wo nw) m_ (2 ^ m_ - 1)).1, (fO nw ro wo (orS ce a m_ sm) nx sb (numF pu wo nw) m_ (2 ^ m_ - 1)).2) dX6_order_124 hS (by rw [ha]; exact hP) (by rw [spOrder, ha, if_neg (not_not_intro c_19), if_neg (by omega), hixa, hixm, if_neg (not_not_intro c_22), if_neg (not_not_intro c_25), if_pos c_26b])
                ·
                  refine lv_bipush (v := (-9)) hx hb dX6_order_109 (by decide) ?_
                  exact hret _ _ _ _ _ (fil (fun st => ssF (fun q => ce (a + q)) st m_) sm (2 ^ m_), if canP nw mo (numF pu wo nw) (fil (fun st => ssF (fun q => ce (a + q)) st m_) sm (2 ^ m_) (2 ^ m_ - 1)) then (fO nw ro wo (fil (fun st => ssF (fun q => ce (a + q)) st m_) sm (2 ^ m_)) nx sb (numF pu wo nw) m_ (2 ^ m_ - 1)).1 else nx, if canP nw mo (numF pu wo nw) (fil (fun st => ssF (fun q => ce (a + q)) st m_) sm (2 ^ m_) (2 ^ m_ - 1)) then (fO nw ro wo (fil (fun st => ssF (fun q => ce (a + q)) st m_) sm (2 ^ m_)) nx sb (numF pu wo nw) m_ (2 ^ m_ - 1)).2 else sb) dX6_order_111 hS (by rw [ha]; exact hP) (by rw [spOrder, ha, if_neg (not_not_intro c_19), if_neg (by omega), hixa, hixm, if_neg (not_not_intro c_22), if_pos c_25])
              ·
                refine lv_bipush (v := (-2)) hx hb dX6_order_87 (by decide) ?_
                exact hret _ _ _ _ _ (sm, nx, sb) dX6_order_89 hS (by rw [ha]; exact hP) (by rw [spOrder, ha, if_neg (not_not_intro c_19), if_neg (by omega), hixa, hixm, if_pos c_22])
            ·
              refine lv_bipush (v := (-3)) hx hb dX6_order_63 (by decide) ?_
              exact hret _ _ _ _ _ (sm, nx, sb) dX6_order_65 hS (by rw [ha]; exact hP) (by rw [spOrder, ha, if_neg (not_not_intro c_19), if_pos (by omega)])
          ·
            refine lv_iload hx hb dX6_order_50 (lv_at hl 0 rfl) ?_
            exact hret _ _ _ _ _ (sm, nx, sb) dX6_order_52 hS (by rw [ha]; exact hP) (by rw [spOrder, ha, if_pos c_19])
set_option maxHeartbeats 4000000 in
set_option maxRecDepth 100000 in
theorem c_X6_fewestWithLast (l : Launch) (E : gE) (g0 : Nat) (h0 : Nat) (k0 : Nat) (gs : Nat) (ht : Nat) (hd : Nat) (ho : Nat) (hr : Nat) (fo : Nat) (wy : Nat) (tr : Int32) (lf : Int32) (fw : Nat → Int32) (hs : Nat) (qs : Nat) (th : Int32) (la : Int32) (ln : Nat) (ce : Nat → Int32) (i : Nat) (nn : Nat) (to : Nat) (h60 : ln ≤ 60) (hin : i + nn ≤ ln) (hto : to ≤ 999) : Met l yX6_fewestWithLast wsX6_fewestWithLast ({ frames := 1, cells := 0, slots := 0, locals := 21 }) (PR E [.ref g0, .ref hs, .int (nI i), .int (nI nn), .int (nI to)] [ob g0 6 [.ref h0, .ref k0, .ref gs, .ref ht, .ref hd, .ref ho, .ref hr, .ref fo, .ref wy, .int tr, .int lf], ar E fo 1000 fw, ob hs 3 [.ref qs, .int th, .int la, .int (nI ln)], ar E qs 60 ce]) (vp_Si (fun r => r = fwL fw (fun q => ce (i + q)) to nn)) 0 0 (fun _ => False) := by
  refine mkRi (cc := cX6_fewestWithLast) (maxL := 9) (by decide) rfl (Nat.le_of_ble_eq_true rfl) ?_
  intro p e s m args below meth c QQ hx hb hml hown hmn hts hK hP hret ls hl
  have hown : s.vm.findClass RX6 = some m.cls := hown
  have hl : lv_has ls 9 [(0, .ref g0), (1, .ref hs), (2, .int (nI i)), (3, .int (nI nn)), (4, .int (nI to))] := hl
  have hinX6 : ∀ w ∈ wsX60, w ∈ wsX6_fewestWithLast := by decide +kernel
  have fl_55 := hts (.fieldLink RX6 55 "GuardAbacus" "fewestTo" "[I") (by decide +kernel)
  refine lv_bipush (v := (-9)) hx hb dX6_fewestWithLast_0 (by decide) ?_
  refine lv_istore (lv' := [(5, .int (-9)), (0, .ref g0), (1, .ref hs), (2, .int (nI i)), (3, .int (nI nn)), (4, .int (nI to))]) hx hb dX6_fewestWithLast_2 hl (by decide) rfl (fun ls hl => ?_)
  refine lv_iconst (v := 0) hx hb dX6_fewestWithLast_4 (by decide) ?_
  refine lv_istore (lv' := [(6, .int 0), (5, .int (-9)), (0, .ref g0), (1, .ref hs), (2, .int (nI i)), (3, .int (nI nn)), (4, .int (nI to))]) hx hb dX6_fewestWithLast_5 hl (by decide) rfl (fun ls hl => ?_)
  have L7 : ∀ (fuel : Nat) (k : Nat), (k ≤ nn) → (nn - k) < fuel → ∀ ls : Array Slot, lv_has ls 9 [(6, .int (nI k)), (5, .int (fwL fw (fun q => ce (i + q)) to k)), (0, .ref g0), (1, .ref hs), (2, .int (nI i)), (3, .int (nI nn)), (4, .int (nI to))] → W p l e ({ frames := 1, cells := 0, slots := 0, locals := 21 }) s m args below meth c s.heap [] 0 0 QQ (F0 m 7 ls []) := by
    intro fuel
    induction fuel with
    | zero => intro k hk hf; exact absurd hf (Nat.not_lt_zero _)
    | succ fuel ih7 =>
      intro k hk hf7 ls hl
      refine lv_iload hx hb dX6_fewestWithLast_7 (lv_at hl 0 rfl) ?_
      refine lv_iload_n hx hb dX6_fewestWithLast_9 rfl (lv_at hl 5 rfl) ?_
      refine icmpN_ge (tgt := 91) (a := k) (b := nn) hx hb rfl rfl (by omega) (by omega) dX6_fewestWithLast_10 (by decide) (fun c_1 => ?_) (fun c_1 => ?_)
      ·
        obtain rfl : nn = k := by omega
        refine lv_iload hx hb dX6_fewestWithLast_91 (lv_at hl 1 rfl) ?_
        exact hret _ _ _ dX6_fewestWithLast_93 rfl
      ·
        refine lv_aload_n hx hb dX6_fewestWithLast_13 rfl (lv_at hl 3 rfl) ?_
        refine lv_iload_n hx hb dX6_fewestWithLast_14 rfl (lv_at hl 4 rfl) ?_
        refine lv_iload hx hb dX6_fewestWithLast_15 (lv_at hl 0 rfl) ?_
        refine N_iadd (a := i) (b := k) hx hb rfl rfl dX6_fewestWithLast_17 ?_
        refine crV (As := [.int (nI (i + k))]) (rest := []) ⟨hx, hb, hml, hown, hts⟩ (c_X3_at l E hs qs th la ln ce (nI (i + k)) (i + k) (by first | assumption | omega) (by first | assumption | omega) rfl) (cwV 1 hts gX6_fewestWithLast_X3_at rfl rfl rfl (by decide +kernel) ⟨Nat.le_of_ble_eq_true rfl, Nat.le_of_ble_eq_true rfl⟩) hK hP [2, 3] rfl 0 rfl rfl rfl rfl hl.1 rfl (catLe (Nat.le_of_ble_eq_true rfl)) dX6_fewestWithLast_18 ⟨Nat.zero_le _, Nat.zero_le _⟩ (fun r_2 hr_2 => ?_)
        subst hr_2
        refine lv_istore (lv' := [(7, .int (ce (i + k))), (6, .int (nI k)), (5, .int (fwL fw (fun q => ce (i + q)) to k)), (0, .ref g0), (1, .ref hs), (2, .int (nI i)), (3, .int (nI nn)), (4, .int (nI to))]) hx hb dX6_fewestWithLast_21 hl (by decide) rfl (fun ls hl => ?_)
        refine lv_iload hx hb dX6_fewestWithLast_23 (lv_at hl 0 rfl) ?_
        refine lv_if_le (tgt := 85) hx hb dX6_fewestWithLast_25 (by decide) (fun c_3 => ?_) (fun c_3 => ?_)
        ·
          have c_3b := Int32.not_lt.mpr c_3
          refine lv_iinc (v := nI (k + 1)) (lv' := [(6, .int (nI (k + 1))), (7, .int (ce (i + k))), (5, .int (fwL fw (fun q => ce (i + q)) to k)), (0, .ref g0), (1, .ref hs), (2, .int (nI i)), (3, .int (nI nn)), (4, .int (nI to))]) hx hb dX6_fewestWithLast_85 hl (k := 1) rfl (nI_inc k) (by decide) rfl (fun ls hl => ?_)
          refine lv_goto (tgt := 7) hx hb dX6_fewestWithLast_88 (by decide) ?_
          have eL : fwL fw (fun q => ce (i + q)) to (k + 1) = (fwL fw (fun q => ce (i + q)) to k) := if_neg (fun h => h.1 c_3)
          have hl : lv_has ls 9 [(6, .int (nI (k + 1))), (5, .int (fwL fw (fun q => ce (i + q)) to (k + 1))), (0, .ref g0), (1, .ref hs), (2, .int (nI i)), (3, .int (nI nn)), (4, .int (nI to))] := by rw [eL]; exact lv_sub hl [0, 2, 3, 4, 5, 6, 7] rfl
          exact ih7 (k + 1) (by omega) (by omega) ls (lv_sub hl [0, 1, 2, 3, 4, 5, 6] rfl)
        ·
          have c_3b := Int32.not_le.mp c_3
          refine lv_iload hx hb dX6_fewestWithLast_28 (lv_at hl 0 rfl) ?_
          refine lv_iload hx hb dX6_fewestWithLast_30 (lv_at hl 7 rfl) ?_
          refine lv_icmp_gt (tgt := 85) hx hb dX6_fewestWithLast_32 (by decide) (fun c_4 => ?_) (fun c_4 => ?_)
          ·
            have c_4b := Int32.not_le.mpr c_4
            refine lv_iinc (v := nI (k + 1)) (lv' := [(6, .int (nI (k + 1))), (7, .int (ce (i + k))), (5, .int (fwL fw (fun q => ce (i + q)) to k)), (0, .ref g0), (1, .ref hs), (2, .int (nI i)), (3, .int (nI nn)), (4, .int (nI to))]) hx hb dX6_fewestWithLast_85 hl (k := 1) rfl (nI_inc k) (by decide) rfl (fun ls hl => ?_)
            refine lv_goto (tgt := 7) hx hb dX6_fewestWithLast_88 (by decide) ?_
            have eL : fwL fw (fun q => ce (i + q)) to (k + 1) = (fwL fw (fun q => ce (i + q)) to k) := if_neg (fun h => absurd h.2.1 c_4b)
            have hl : lv_has ls 9 [(6, .int (nI (k + 1))), (5, .int (fwL fw (fun q => ce (i + q)) to (k + 1))), (0, .ref g0), (1, .ref hs), (2, .int (nI i)), (3, .int (nI nn)), (4, .int (nI to))] := by rw [eL]; exact lv_sub hl [0, 2, 3, 4, 5, 6, 7] rfl
            exact ih7 (k + 1) (by omega) (by omega) ls (lv_sub hl [0, 1, 2, 3, 4, 5, 6] rfl)
          ·
            have c_4b := Int32.not_lt.mp c_4
            obtain ⟨y, hy, ey⟩ := le_nat (n := to) (M := nI to) (nI_toInt (by omega)) (Int32.not_lt.mpr (Int32.le_of_lt c_3b)) c_4b
            have hiy : ix (ce (i + k)) = y := by rw [ey]; exact ix_nI (by omega)
            refine lv_aload_n hx hb dX6_fewestWithLast_35 rfl (lv_at hl 3 rfl) ?_
            refine va_get (D := E.1) (ci := 6) (v := .ref fo) (C := RX6) (T := TX6) (N := 11) hx hb hts hinX6 hown hK.1 hP 0 rfl rfl 7 (by decide) fl_55 (fun _ h9 => h9) rfl dX6_fewestWithLast_36 ?_
            refine lv_iload hx hb dX6_fewestWithLast_39 (lv_at hl 7 rfl) ?_
            refine lv_iload hx hb dX6_fewestWithLast_41 (lv_at hl 0 rfl) ?_
            rw [ey]
            refine N_isub (a := to) (b := y) hx hb rfl rfl (by omega) dX6_fewestWithLast_43 ?_
            refine ild hx hb hK hP 1 rfl (j := to - y) rfl (by omega) (by decide) dX6_fewestWithLast_44 ?_
            refine lv_bipush (v := (-9)) hx hb dX6_fewestWithLast_45 (by decide) ?_
            refine lv_icmp_eq (tgt := 85) hx hb dX6_fewestWithLast_47 (by decide) (fun c_5 => ?_) (fun c_5 => ?_)
            ·
              refine lv_iinc (v := nI (k + 1)) (lv' := [(6, .int (nI (k + 1))), (7, .int (ce (i + k))), (5, .int (fwL fw (fun q => ce (i + q)) to k)), (0, .ref g0), (1, .ref hs), (2, .int (nI i)), (3, .int (nI nn)), (4, .int (nI to))]) hx hb dX6_fewestWithLast_85 hl (k := 1) rfl (nI_inc k) (by decide) rfl (fun ls hl => ?_)
              refine lv_goto (tgt := 7) hx hb dX6_fewestWithLast_88 (by decide) ?_
              have eL : fwL fw (fun q => ce (i + q)) to (k + 1) = (fwL fw (fun q => ce (i + q)) to k) := if_neg (fun h => h.2.2 (by show fw (to - ix (ce (i + k))) = -9; rw [hiy]; exact c_5))
              have hl : lv_has ls 9 [(6, .int (nI (k + 1))), (5, .int (fwL fw (fun q => ce (i + q)) to (k + 1))), (0, .ref g0), (1, .ref hs), (2, .int (nI i)), (3, .int (nI nn)), (4, .int (nI to))] := by rw [eL]; exact lv_sub hl [0, 2, 3, 4, 5, 6, 7] rfl
              exact ih7 (k + 1) (by omega) (by omega) ls (lv_sub hl [0, 1, 2, 3, 4, 5, 6] rfl)
            ·
              refine lv_aload_n hx hb dX6_fewestWithLast_50 rfl (lv_at hl 3 rfl) ?_
              refine va_get (D := E.1) (ci := 6) (v := .ref fo) (C := RX6) (T := TX6) (N := 11) hx hb hts hinX6 hown hK.1 hP 0 rfl rfl 7 (by decide) fl_55 (fun _ h9 => h9) rfl dX6_fewestWithLast_51 ?_
              refine lv_iload hx hb dX6_fewestWithLast_54 (lv_at hl 7 rfl) ?_
              refine lv_iload hx hb dX6_fewestWithLast_56 (lv_at hl 0 rfl) ?_
              rw [ey]
              refine N_isub (a := to) (b := y) hx hb rfl rfl (by omega) dX6_fewestWithLast_58 ?_
              refine ild hx hb hK hP 1 rfl (j := to - y) rfl (by omega) (by decide) dX6_fewestWithLast_59 ?_
              refine lv_iconst (v := 1) hx hb dX6_fewestWithLast_60 (by decide) ?_
              refine lv_iadd hx hb dX6_fewestWithLast_61 ?_
              refine lv_istore (lv' := [(8, .int ((fw (to - y)) + 1)), (7, .int (ce (i + k))), (6, .int (nI k)), (5, .int (fwL fw (fun q => ce (i + q)) to k)), (0, .ref g0), (1, .ref hs), (2, .int (nI i)), (3, .int (nI nn)), (4, .int (nI to))]) hx hb dX6_fewestWithLast_62 hl (by decide) rfl (fun ls hl => ?_)
              refine lv_iload hx hb dX6_fewestWithLast_64 (lv_at hl 3 rfl) ?_
              refine lv_bipush (v := (-9)) hx hb dX6_fewestWithLast_66 (by decide) ?_
              refine lv_icmp_ne (tgt := 76) hx hb dX6_fewestWithLast_68 (by decide) (fun c_6 => ?_) (fun c_6 => ?_)
              ·
                refine lv_iload hx hb dX6_fewestWithLast_76 (lv_at hl 3 rfl) ?_
                refine lv_iload hx hb dX6_fewestWithLast_78 (lv_at hl 0 rfl) ?_
                refine va_mmin hx hb (hml.trans hl.1.symm) hown (hts (.methodLink RX6 186 Lib.Math.min.name) (by decide +kernel)) (hts (.static Lib.Math.min.name) (by decide +kernel)) (hts (.initialized "java/lang/Math") (by decide +kernel)) (hts (.code Lib.Math.min.name Lib.Math.min.code 2 (some .int)) (by decide +kernel)) (Nat.le_of_ble_eq_true rfl) (Nat.le_of_ble_eq_true rfl) (Nat.zero_le _) (Nat.zero_le _) dX6_fewestWithLast_80 ?_
                refine lv_istore (lv' := [(5, .int (if ((fw (to - y)) + 1) < (fwL fw (fun q => ce (i + q)) to k) then (fw (to - y)) + 1 else fwL fw (fun q => ce (i + q)) to k)), (8, .int ((fw (to - y)) + 1)), (7, .int (ce (i + k))), (6, .int (nI k)), (0, .ref g0), (1, .ref hs), (2, .int (nI i)), (3, .int (nI nn)), (4, .int (nI to))]) hx hb dX6_fewestWithLast_83 hl (by decide) rfl (fun ls hl => ?_)
                refine lv_iinc (v := nI (k + 1)) (lv' := [(6, .int (nI (k + 1))), (5, .int (if ((fw (to - y)) + 1) < (fwL fw (fun q => ce (i + q)) to k) then (fw (to - y)) + 1 else fwL fw (fun q => ce (i + q)) to k)), (8, .int ((fw (to - y)) + 1)), (7, .int (ce (i + k))), (0, .ref g0), (1, .ref hs), (2, .int (nI i)), (3, .int (nI nn)), (4, .int (nI to))]) hx hb dX6_fewestWithLast_85 hl (k := 3) rfl (nI_inc k) (by decide) rfl (fun ls hl => ?_)
                refine lv_goto (tgt := 7) hx hb dX6_fewestWithLast_88 (by decide) ?_
                have hc : ¬ (fun q => ce (i + q)) k ≤ 0 ∧ (fun q => ce (i + q)) k ≤ nI to ∧ ¬ fw (to - ix ((fun q => ce (i + q)) k)) = -9 := ⟨c_3, c_4b, fun h => c_5 (by have h2 : fw (to - ix (ce (i + k))) = -9 := h; rwa [hiy] at h2)⟩
                have eL : fwL fw (fun q => ce (i + q)) to (k + 1) = (if fw (to - y) + 1 < fwL fw (fun q => ce (i + q)) to k then fw (to - y) + 1 else fwL fw (fun q => ce (i + q)) to k) := by rw [fwL, if_pos hc, if_neg c_6]; show (if fw (to - ix (ce (i + k))) + 1 < fwL fw (fun q => ce (i + q)) to k then fw (to - ix (ce (i + k))) + 1 else _) = _; rw [hiy]
                have hl : lv_has ls 9 [(6, .int (nI (k + 1))), (5, .int (fwL fw (fun q => ce (i + q)) to (k + 1))), (0, .ref g0), (1, .ref hs), (2, .int (nI i)), (3, .int (nI nn)), (4, .int (nI to))] := by rw [eL]; exact lv_sub hl [0, 1, 4, 5, 6, 7, 8] rfl
                exact ih7 (k + 1) (by omega) (by omega) ls (lv_sub hl [0, 1, 2, 3, 4, 5, 6] rfl)
              ·
                refine lv_iload hx hb dX6_fewestWithLast_71 (lv_at hl 0 rfl) ?_
                refine lv_goto (tgt := 83) hx hb dX6_fewestWithLast_73 (by decide) ?_
                refine lv_istore (lv' := [(5, .int ((fw (to - y)) + 1)), (8, .int ((fw (to - y)) + 1)), (7, .int (ce (i + k))), (6, .int (nI k)), (0, .ref g0), (1, .ref hs), (2, .int (nI i)), (3, .int (nI nn)), (4, .int (nI to))]) hx hb dX6_fewestWithLast_83 hl (by decide) rfl (fun ls hl => ?_)
                refine lv_iinc (v := nI (k + 1)) (lv' := [(6, .int (nI (k + 1))), (5, .int ((fw (to - y)) + 1)), (8, .int ((fw (to - y)) + 1)), (7, .int (ce (i + k))), (0, .ref g0), (1, .ref hs), (2, .int (nI i)), (3, .int (nI nn)), (4, .int (nI to))]) hx hb dX6_fewestWithLast_85 hl (k := 3) rfl (nI_inc k) (by decide) rfl (fun ls hl => ?_)
                refine lv_goto (tgt := 7) hx hb dX6_fewestWithLast_88 (by decide) ?_
                have hc : ¬ (fun q => ce (i + q)) k ≤ 0 ∧ (fun q => ce (i + q)) k ≤ nI to ∧ ¬ fw (to - ix ((fun q => ce (i + q)) k)) = -9 := ⟨c_3, c_4b, fun h => c_5 (by have h2 : fw (to - ix (ce (i + k))) = -9 := h; rwa [hiy] at h2)⟩
                have eL : fwL fw (fun q => ce (i + q)) to (k + 1) = (fw (to - y) + 1) := by rw [fwL, if_pos hc, if_pos c_6]; show fw (to - ix (ce (i + k))) + 1 = _; rw [hiy]
                have hl : lv_has ls 9 [(6, .int (nI (k + 1))), (5, .int (fwL fw (fun q => ce (i + q)) to (k + 1))), (0, .ref g0), (1, .ref hs), (2, .int (nI i)), (3, .int (nI nn)), (4, .int (nI to))] := by rw [eL]; exact lv_sub hl [0, 1, 4, 5, 6, 7, 8] rfl
                exact ih7 (k + 1) (by omega) (by omega) ls (lv_sub hl [0, 1, 2, 3, 4, 5, 6] rfl)
  exact L7 _ 0 (by omega) (Nat.lt_succ_self _) ls (lv_sub hl [0, 1, 2, 3, 4, 5, 6] rfl)
set_option maxHeartbeats 4000000 in
set_option maxRecDepth 100000 in
theorem c_X6_fewest (l : Launch) (E : gE) (sz : Nat) (g0 : Nat) (h0 : Nat) (k0 : Nat) (gs : Nat) (ht : Nat) (hd : Nat) (ho : Nat) (hr : Nat) (fo : Nat) (wy : Nat) (tr : Int32) (lf : Int32) (sa : Nat → Option Nat) (hs : Nat) (qs : Nat) (th : Int32) (la : Int32) (ln : Nat) (ce : Nat → Int32) (fw : Nat → Int32) (j : Nat) (sheet : Int32) (lane : Int32) (i : Int32) (n : Int32) (d : Int32) (hj4 : j < 4) (hsa : sa j = some hs) (hjs : shP sheet → sheet = nI j) (h60 : ln ≤ 60) : Met l yX6_fewest wsX6_fewest ({ frames := 2, cells := 0, slots := 0, locals := 49 }) (PW E [.ref g0, .int sheet, .int lane, .int i, .int n, .int d] [ob g0 6 [.ref h0, .ref k0, .ref gs, .ref ht, .ref hd, .ref ho, .ref hr, .ref fo, .ref wy, .int tr, .int lf], aq E gs 4 sa, ob hs 3 [.ref qs, .int th, .int la, .int (nI ln)], ar E qs 60 ce, ar E fo 1000 fw] sz) (QWi E (fun r _ => r = spFewest sheet lane i n d th la ln ce fw) (fun (u : Nat → Int32) => [ob g0 6 [.ref h0, .ref k0, .ref gs, .ref ht, .ref hd, .ref ho, .ref hr, .ref fo, .ref wy, .int tr, .int (fltF (rtK sheet lane i n (if feT n d then 1 else 0) th la ln))], aq E gs 4 sa, ob hs 3 [.ref qs, .int th, .int la, .int (nI ln)], ar E qs 60 ce, ar E fo 1000 u]) (va_A [ob g0 6 [.ref h0, .ref k0, .ref gs, .ref ht, .ref hd, .ref ho, .ref hr, .ref fo, .ref wy, .int tr, .int lf], aq E gs 4 sa, ob hs 3 [.ref qs, .int th, .int la, .int (nI ln)], ar E qs 60 ce, ar E fo 1000 fw] sz)) 0 0 (va_A [ob g0 6 [.ref h0, .ref k0, .ref gs, .ref ht, .ref hd, .ref ho, .ref hr, .ref fo, .ref wy, .int tr, .int lf], aq E gs 4 sa, ob hs 3 [.ref qs, .int th, .int la, .int (nI ln)], ar E qs 60 ce, ar E fo 1000 fw] sz) := by
  refine mkWi (cc := cX6_fewest) (maxL := 10) (by decide) rfl (Nat.le_of_ble_eq_true rfl) ?_
  intro p e s m args below meth c QQ A hx hb hml hown hmn hts hK hA hP hD hS hret ls hl
  have hown : s.vm.findClass RX6 = some m.cls := hown
  have hl : lv_has ls 10 [(0, .ref g0), (1, .int sheet), (2, .int lane), (3, .int i), (4, .int n), (5, .int d)] := hl
  have hinX6 : ∀ w ∈ wsX60, w ∈ wsX6_fewest := by decide +kernel
  have fl_23 := hts (.fieldLink RX6 23 "GuardAbacus" "sheets" "[LGuardAbacus$Sheet;") (by decide +kernel)
  have fl_55 := hts (.fieldLink RX6 55 "GuardAbacus" "fewestTo" "[I") (by decide +kernel)
  refine lv_iload hx hb dX6_fewest_0 (lv_at hl 4 rfl) ?_
  refine lv_if_lt (tgt := 29) hx hb dX6_fewest_2 (by decide) (fun c_1 => ?_) (fun c_1 => ?_)
  ·
    have c_1b := Int32.not_le.mpr c_1
    refine lv_iconst (v := 0) hx hb dX6_fewest_29 (by decide) ?_
    refine lv_istore (lv' := [(6, .int 0), (0, .ref g0), (1, .int sheet), (2, .int lane), (3, .int i), (4, .int n), (5, .int d)]) hx hb dX6_fewest_30 hl (by decide) rfl (fun ls hl => ?_)
    refine lv_aload_n hx hb dX6_fewest_32 rfl (lv_at hl 1 rfl) ?_
    refine lv_iload_n hx hb dX6_fewest_33 rfl (lv_at hl 2 rfl) ?_
    refine lv_iload_n hx hb dX6_fewest_34 rfl (lv_at hl 3 rfl) ?_
    refine lv_iload_n hx hb dX6_fewest_35 rfl (lv_at hl 4 rfl) ?_
    refine lv_iload hx hb dX6_fewest_36 (lv_at hl 5 rfl) ?_
    refine lv_iload hx hb dX6_fewest_38 (lv_at hl 0 rfl) ?_
    have ha : (if feT n d then (1 : Int32) else 0) = 0 := if_neg (fun h => h.1 c_1)
    refine cwVi (As := [.int sheet, .int lane, .int i, .int n, .int 0]) (rest := []) ⟨hx, hb, hml, hown, hts⟩ (c_X6_rowTrouble l E _ g0 h0 k0 gs ht hd ho hr fo wy tr lf sa hs qs th la ln j sheet lane i n 0 (by first | assumption | omega) (by first | assumption | omega) (by first | assumption | omega)) (cwV 5 hts gX6_fewest_X6_rowTrouble rfl rfl rfl (by decide +kernel) ⟨Nat.le_of_ble_eq_true rfl, Nat.le_of_ble_eq_true rfl⟩) hK hP hD hS hA [0, 1, 2] (by decide) rfl [g0, gs, hs] (fun _ => rfl) rfl 0 rfl rfl rfl rfl hl.1 rfl (catLe (Nat.le_of_ble_eq_true rfl)) dX6_fewest_40 ⟨Nat.zero_le _, Nat.zero_le _⟩ (fun r_2 u_3 H locs hwr_2 hP hD hS => ?_)
    have hP : va_P E.1 vwCl [ob g0 6 [.ref h0, .ref k0, .ref gs, .ref ht, .ref hd, .ref ho, .ref hr, .ref fo, .ref wy, .int tr, .int (fltF (rtK sheet lane i n 0 th la ln))], aq E gs 4 sa, ob hs 3 [.ref qs, .int th, .int la, .int (nI ln)], ar E qs 60 ce, ar E fo 1000 fw] H := hP
    have hD : va_D A [ob g0 6 [.ref h0, .ref k0, .ref gs, .ref ht, .ref hd, .ref ho, .ref hr, .ref fo, .ref wy, .int tr, .int (fltF (rtK sheet lane i n 0 th la ln))], aq E gs 4 sa, ob hs 3 [.ref qs, .int th, .int la, .int (nI ln)], ar E qs 60 ce, ar E fo 1000 fw] := hD
    subst hwr_2
    refine lv_istore (lv' := [(7, .int (rtK sheet lane i n 0 th la ln)), (6, .int 0), (0, .ref g0), (1, .int sheet), (2, .int lane), (3, .int i), (4, .int n), (5, .int d)]) hx hb dX6_fewest_43 hl (by decide) rfl (fun ls hl => ?_)
    refine lv_iload hx hb dX6_fewest_45 (lv_at hl 0 rfl) ?_
    refine lv_if_eq (tgt := 53) hx hb dX6_fewest_47 (by decide) (fun c_4 => ?_) (fun c_4 => ?_)
    ·
      have hz := rtK_0 c_4
      exact absurd rfl hz.2.2.1
    ·
      refine lv_iload hx hb dX6_fewest_50 (lv_at hl 0 rfl) ?_
      exact hret _ _ _ _ _ fw dX6_fewest_52 hS (by rw [ha]; exact hP) (by rw [spFewest, ha, if_pos c_4])
  ·
    have c_1b := Int32.not_lt.mp c_1
    refine lv_iload hx hb dX6_fewest_5 (lv_at hl 4 rfl) ?_
    refine lv_bipush (v := 8) hx hb dX6_fewest_7 (by decide) ?_
    refine lv_icmp_gt (tgt := 29) hx hb dX6_fewest_9 (by decide) (fun c_5 => ?_) (fun c_5 => ?_)
    ·
      have c_5b := Int32.not_le.mpr c_5
      refine lv_iconst (v := 0) hx hb dX6_fewest_29 (by decide) ?_
      refine lv_istore (lv' := [(6, .int 0), (0, .ref g0), (1, .int sheet), (2, .int lane), (3, .int i), (4, .int n), (5, .int d)]) hx hb dX6_fewest_30 hl (by decide) rfl (fun ls hl => ?_)
      refine lv_aload_n hx hb dX6_fewest_32 rfl (lv_at hl 1 rfl) ?_
      refine lv_iload_n hx hb dX6_fewest_33 rfl (lv_at hl 2 rfl) ?_
      refine lv_iload_n hx hb dX6_fewest_34 rfl (lv_at hl 3 rfl) ?_
      refine lv_iload_n hx hb dX6_fewest_35 rfl (lv_at hl 4 rfl) ?_
      refine lv_iload hx hb dX6_fewest_36 (lv_at hl 5 rfl) ?_
      refine lv_iload hx hb dX6_fewest_38 (lv_at hl 0 rfl) ?_
      have ha : (if feT n d then (1 : Int32) else 0) = 0 := if_neg (fun h => absurd h.2.1 c_5b)
      refine cwVi (As := [.int sheet, .int lane, .int i, .int n, .int 0]) (rest := []) ⟨hx, hb, hml, hown, hts⟩ (c_X6_rowTrouble l E _ g0 h0 k0 gs ht hd ho hr fo wy tr lf sa hs qs th la ln j sheet lane i n 0 (by first | assumption | omega) (by first | assumption | omega) (by first | assumption | omega)) (cwV 5 hts gX6_fewest_X6_rowTrouble rfl rfl rfl (by decide +kernel) ⟨Nat.le_of_ble_eq_true rfl, Nat.le_of_ble_eq_true rfl⟩) hK hP hD hS hA [0, 1, 2] (by decide) rfl [g0, gs, hs] (fun _ => rfl) rfl 0 rfl rfl rfl rfl hl.1 rfl (catLe (Nat.le_of_ble_eq_true rfl)) dX6_fewest_40 ⟨Nat.zero_le _, Nat.zero_le _⟩ (fun r_6 u_7 H locs hwr_6 hP hD hS => ?_)
      have hP : va_P E.1 vwCl [ob g0 6 [.ref h0, .ref k0, .ref gs, .ref ht, .ref hd, .ref ho, .ref hr, .ref fo, .ref wy, .int tr, .int (fltF (rtK sheet lane i n 0 th la ln))], aq E gs 4 sa, ob hs 3 [.ref qs, .int th, .int la, .int (nI ln)], ar E qs 60 ce, ar E fo 1000 fw] H := hP
      have hD : va_D A [ob g0 6 [.ref h0, .ref k0, .ref gs, .ref ht, .ref hd, .ref ho, .ref hr, .ref fo, .ref wy, .int tr, .int (fltF (rtK sheet lane i n 0 th la ln))], aq E gs 4 sa, ob hs 3 [.ref qs, .int th, .int la, .int (nI ln)], ar E qs 60 ce, ar E fo 1000 fw] := hD
      subst hwr_6
      refine lv_istore (lv' := [(7, .int (rtK sheet lane i n 0 th la ln)), (6, .int 0), (0, .ref g0), (1, .int sheet), (2, .int lane), (3, .int i), (4, .int n), (5, .int d)]) hx hb dX6_fewest_43 hl (by decide) rfl (fun ls hl => ?_)
      refine lv_iload hx hb dX6_fewest_45 (lv_at hl 0 rfl) ?_
      refine lv_if_eq (tgt := 53) hx hb dX6_fewest_47 (by decide) (fun c_8 => ?_) (fun c_8 => ?_)
      ·
        have hz := rtK_0 c_8
        exact absurd rfl hz.2.2.1
      ·
        refine lv_iload hx hb dX6_fewest_50 (lv_at hl 0 rfl) ?_
        exact hret _ _ _ _ _ fw dX6_fewest_52 hS (by rw [ha]; exact hP) (by rw [spFewest, ha, if_pos c_8])
    ·
      have c_5b := Int32.not_lt.mp c_5
      refine lv_iload hx hb dX6_fewest_12 (lv_at hl 5 rfl) ?_
      refine lv_if_lt (tgt := 29) hx hb dX6_fewest_14 (by decide) (fun c_9 => ?_) (fun c_9 => ?_)
      ·
        have c_9b := Int32.not_le.mpr c_9
        refine lv_iconst (v := 0) hx hb dX6_fewest_29 (by decide) ?_
        refine lv_istore (lv' := [(6, .int 0), (0, .ref g0), (1, .int sheet), (2, .int lane), (3, .int i), (4, .int n), (5, .int d)]) hx hb dX6_fewest_30 hl (by decide) rfl (fun ls hl => ?_)
        refine lv_aload_n hx hb dX6_fewest_32 rfl (lv_at hl 1 rfl) ?_
        refine lv_iload_n hx hb dX6_fewest_33 rfl (lv_at hl 2 rfl) ?_
        refine lv_iload_n hx hb dX6_fewest_34 rfl (lv_at hl 3 rfl) ?_
        refine lv_iload_n hx hb dX6_fewest_35 rfl (lv_at hl 4 rfl) ?_
        refine lv_iload hx hb dX6_fewest_36 (lv_at hl 5 rfl) ?_
        refine lv_iload hx hb dX6_fewest_38 (lv_at hl 0 rfl) ?_
        have ha : (if feT n d then (1 : Int32) else 0) = 0 := if_neg (fun h => h.2.2.1 c_9)
        refine cwVi (As := [.int sheet, .int lane, .int i, .int n, .int 0]) (rest := []) ⟨hx, hb, hml, hown, hts⟩ (c_X6_rowTrouble l E _ g0 h0 k0 gs ht hd ho hr fo wy tr lf sa hs qs th la ln j sheet lane i n 0 (by first | assumption | omega) (by first | assumption | omega) (by first | assumption | omega)) (cwV 5 hts gX6_fewest_X6_rowTrouble rfl rfl rfl (by decide +kernel) ⟨Nat.le_of_ble_eq_true rfl, Nat.le_of_ble_eq_true rfl⟩) hK hP hD hS hA [0, 1, 2] (by decide) rfl [g0, gs, hs] (fun _ => rfl) rfl 0 rfl rfl rfl rfl hl.1 rfl (catLe (Nat.le_of_ble_eq_true rfl)) dX6_fewest_40 ⟨Nat.zero_le _, Nat.zero_le _⟩ (fun r_10 u_11 H locs hwr_10 hP hD hS => ?_)
        have hP : va_P E.1 vwCl [ob g0 6 [.ref h0, .ref k0, .ref gs, .ref ht, .ref hd, .ref ho, .ref hr, .ref fo, .ref wy, .int tr, .int (fltF (rtK sheet lane i n 0 th la ln))], aq E gs 4 sa, ob hs 3 [.ref qs, .int th, .int la, .int (nI ln)], ar E qs 60 ce, ar E fo 1000 fw] H := hP
        have hD : va_D A [ob g0 6 [.ref h0, .ref k0, .ref gs, .ref ht, .ref hd, .ref ho, .ref hr, .ref fo, .ref wy, .int tr, .int (fltF (rtK sheet lane i n 0 th la ln))], aq E gs 4 sa, ob hs 3 [.ref qs, .int th, .int la, .int (nI ln)], ar E qs 60 ce, ar E fo 1000 fw] := hD
        subst hwr_10
        refine lv_istore (lv' := [(7, .int (rtK sheet lane i n 0 th la ln)), (6, .int 0), (0, .ref g0), (1, .int sheet), (2, .int lane), (3, .int i), (4, .int n), (5, .int d)]) hx hb dX6_fewest_43 hl (by decide) rfl (fun ls hl => ?_)
        refine lv_iload hx hb dX6_fewest_45 (lv_at hl 0 rfl) ?_
        refine lv_if_eq (tgt := 53) hx hb dX6_fewest_47 (by decide) (fun c_12 => ?_) (fun c_12 => ?_)
        ·
          have hz := rtK_0 c_12
          exact absurd rfl hz.2.2.1
        ·
          refine lv_iload hx hb dX6_fewest_50 (lv_at hl 0 rfl) ?_
          exact hret _ _ _ _ _ fw dX6_fewest_52 hS (by rw [ha]; exact hP) (by rw [spFewest, ha, if_pos c_12])
      ·
        have c_9b := Int32.not_lt.mp c_9
        refine lv_iload hx hb dX6_fewest_17 (lv_at hl 5 rfl) ?_
        refine lv_sipush (v := 999) hx hb dX6_fewest_19 (by decide) ?_
        refine lv_icmp_gt (tgt := 29) hx hb dX6_fewest_22 (by decide) (fun c_13 => ?_) (fun c_13 => ?_)
        ·
          have c_13b := Int32.not_le.mpr c_13
          refine lv_iconst (v := 0) hx hb dX6_fewest_29 (by decide) ?_
          refine lv_istore (lv' := [(6, .int 0), (0, .ref g0), (1, .int sheet), (2, .int lane), (3, .int i), (4, .int n), (5, .int d)]) hx hb dX6_fewest_30 hl (by decide) rfl (fun ls hl => ?_)
          refine lv_aload_n hx hb dX6_fewest_32 rfl (lv_at hl 1 rfl) ?_
          refine lv_iload_n hx hb dX6_fewest_33 rfl (lv_at hl 2 rfl) ?_
          refine lv_iload_n hx hb dX6_fewest_34 rfl (lv_at hl 3 rfl) ?_
          refine lv_iload_n hx hb dX6_fewest_35 rfl (lv_at hl 4 rfl) ?_
          refine lv_iload hx hb dX6_fewest_36 (lv_at hl 5 rfl) ?_
          refine lv_iload hx hb dX6_fewest_38 (lv_at hl 0 rfl) ?_
          have ha : (if feT n d then (1 : Int32) else 0) = 0 := if_neg (fun h => absurd h.2.2.2 c_13b)
          refine cwVi (As := [.int sheet, .int lane, .int i, .int n, .int 0]) (rest := []) ⟨hx, hb, hml, hown, hts⟩ (c_X6_rowTrouble l E _ g0 h0 k0 gs ht hd ho hr fo wy tr lf sa hs qs th la ln j sheet lane i n 0 (by first | assumption | omega) (by first | assumption | omega) (by first | assumption | omega)) (cwV 5 hts gX6_fewest_X6_rowTrouble rfl rfl rfl (by decide +kernel) ⟨Nat.le_of_ble_eq_true rfl, Nat.le_of_ble_eq_true rfl⟩) hK hP hD hS hA [0, 1, 2] (by decide) rfl [g0, gs, hs] (fun _ => rfl) rfl 0 rfl rfl rfl rfl hl.1 rfl (catLe (Nat.le_of_ble_eq_true rfl)) dX6_fewest_40 ⟨Nat.zero_le _, Nat.zero_le _⟩ (fun r_14 u_15 H locs hwr_14 hP hD hS => ?_)
          have hP : va_P E.1 vwCl [ob g0 6 [.ref h0, .ref k0, .ref gs, .ref ht, .ref hd, .ref ho, .ref hr, .ref fo, .ref wy, .int tr, .int (fltF (rtK sheet lane i n 0 th la ln))], aq E gs 4 sa, ob hs 3 [.ref qs, .int th, .int la, .int (nI ln)], ar E qs 60 ce, ar E fo 1000 fw] H := hP
          have hD : va_D A [ob g0 6 [.ref h0, .ref k0, .ref gs, .ref ht, .ref hd, .ref ho, .ref hr, .ref fo, .ref wy, .int tr, .int (fltF (rtK sheet lane i n 0 th la ln))], aq E gs 4 sa, ob hs 3 [.ref qs, .int th, .int la, .int (nI ln)], ar E qs 60 ce, ar E fo 1000 fw] := hD
          subst hwr_14
          refine lv_istore (lv' := [(7, .int (rtK sheet lane i n 0 th la ln)), (6, .int 0), (0, .ref g0), (1, .int sheet), (2, .int lane), (3, .int i), (4, .int n), (5, .int d)]) hx hb dX6_fewest_43 hl (by decide) rfl (fun ls hl => ?_)
          refine lv_iload hx hb dX6_fewest_45 (lv_at hl 0 rfl) ?_
          refine lv_if_eq (tgt := 53) hx hb dX6_fewest_47 (by decide) (fun c_16 => ?_) (fun c_16 => ?_)
          ·
            have hz := rtK_0 c_16
            exact absurd rfl hz.2.2.1
          ·
            refine lv_iload hx hb dX6_fewest_50 (lv_at hl 0 rfl) ?_
            exact hret _ _ _ _ _ fw dX6_fewest_52 hS (by rw [ha]; exact hP) (by rw [spFewest, ha, if_pos c_16])
        ·
          have c_13b := Int32.not_lt.mp c_13
          refine lv_iconst (v := 1) hx hb dX6_fewest_25 (by decide) ?_
          refine lv_goto (tgt := 30) hx hb dX6_fewest_26 (by decide) ?_
          refine lv_istore (lv' := [(6, .int 1), (0, .ref g0), (1, .int sheet), (2, .int lane), (3, .int i), (4, .int n), (5, .int d)]) hx hb dX6_fewest_30 hl (by decide) rfl (fun ls hl => ?_)
          refine lv_aload_n hx hb dX6_fewest_32 rfl (lv_at hl 1 rfl) ?_
          refine lv_iload_n hx hb dX6_fewest_33 rfl (lv_at hl 2 rfl) ?_
          refine lv_iload_n hx hb dX6_fewest_34 rfl (lv_at hl 3 rfl) ?_
          refine lv_iload_n hx hb dX6_fewest_35 rfl (lv_at hl 4 rfl) ?_
          refine lv_iload hx hb dX6_fewest_36 (lv_at hl 5 rfl) ?_
          refine lv_iload hx hb dX6_fewest_38 (lv_at hl 0 rfl) ?_
          have ha : (if feT n d then (1 : Int32) else 0) = 1 := if_pos ⟨c_1, c_5b, c_9, c_13b⟩
          refine cwVi (As := [.int sheet, .int lane, .int i, .int n, .int 1]) (rest := []) ⟨hx, hb, hml, hown, hts⟩ (c_X6_rowTrouble l E _ g0 h0 k0 gs ht hd ho hr fo wy tr lf sa hs qs th la ln j sheet lane i n 1 (by first | assumption | omega) (by first | assumption | omega) (by first | assumption | omega)) (cwV 5 hts gX6_fewest_X6_rowTrouble rfl rfl rfl (by decide +kernel) ⟨Nat.le_of_ble_eq_true rfl, Nat.le_of_ble_eq_true rfl⟩) hK hP hD hS hA [0, 1, 2] (by decide) rfl [g0, gs, hs] (fun _ => rfl) rfl 0 rfl rfl rfl rfl hl.1 rfl (catLe (Nat.le_of_ble_eq_true rfl)) dX6_fewest_40 ⟨Nat.zero_le _, Nat.zero_le _⟩ (fun r_17 u_18 H locs hwr_17 hP hD hS => ?_)
          have hP : va_P E.1 vwCl [ob g0 6 [.ref h0, .ref k0, .ref gs, .ref ht, .ref hd, .ref ho, .ref hr, .ref fo, .ref wy, .int tr, .int (fltF (rtK sheet lane i n 1 th la ln))], aq E gs 4 sa, ob hs 3 [.ref qs, .int th, .int la, .int (nI ln)], ar E qs 60 ce, ar E fo 1000 fw] H := hP
          have hD : va_D A [ob g0 6 [.ref h0, .ref k0, .ref gs, .ref ht, .ref hd, .ref ho, .ref hr, .ref fo, .ref wy, .int tr, .int (fltF (rtK sheet lane i n 1 th la ln))], aq E gs 4 sa, ob hs 3 [.ref qs, .int th, .int la, .int (nI ln)], ar E qs 60 ce, ar E fo 1000 fw] := hD
          subst hwr_17
          refine lv_istore (lv' := [(7, .int (rtK sheet lane i n 1 th la ln)), (6, .int 1), (0, .ref g0), (1, .int sheet), (2, .int lane), (3, .int i), (4, .int n), (5, .int d)]) hx hb dX6_fewest_43 hl (by decide) rfl (fun ls hl => ?_)
          refine lv_iload hx hb dX6_fewest_45 (lv_at hl 0 rfl) ?_
          refine lv_if_eq (tgt := 53) hx hb dX6_fewest_47 (by decide) (fun c_19 => ?_) (fun c_19 => ?_)
          ·
            have hz := rtK_0 c_19
            have hsh := hjs hz.1
            subst hsh
            obtain ⟨m_, hm, rfl⟩ := le_nat (n := 8) (M := 8) rfl c_1 c_5b
            obtain ⟨y, hy, rfl⟩ := le_nat (n := 999) (M := 999) rfl c_9 c_13b
            obtain ⟨a, rfl, hab⟩ := reach2 hz.2.2.2.2.2 h60 (by omega)
            have hixa : ix (nI a) = a := ix_nI (by omega)
            have hixm : ix (nI m_) = m_ := ix_nI (by omega)
            have hixy : ix (nI y) = y := ix_nI (by omega)
            refine lv_aload_n hx hb dX6_fewest_53 rfl (lv_at hl 2 rfl) ?_
            refine va_get (D := E.1) (ci := 6) (v := .ref gs) (C := RX6) (T := TX6) (N := 11) hx hb hts hinX6 hown hK.1 hP 0 rfl rfl 2 (by decide) fl_23 (fun _ h9 => h9) rfl dX6_fewest_54 ?_
            refine lv_iload_n hx hb dX6_fewest_57 rfl (lv_at hl 3 rfl) ?_
            refine ald hx hb hK hP 1 rfl (j := j) rfl (by omega) (by decide) (v := hs) hsa dX6_fewest_58 ?_
            refine lv_astore (lv' := [(8, .ref hs), (7, .int (rtK (nI j) lane (nI a) (nI m_) 1 th la ln)), (6, .int 1), (0, .ref g0), (1, .int (nI j)), (2, .int lane), (3, .int (nI a)), (4, .int (nI m_)), (5, .int (nI y))]) hx hb dX6_fewest_59 hl (by decide) rfl (fun ls hl => ?_)
            refine lv_aload hx hb dX6_fewest_61 (lv_at hl 0 rfl) ?_
            refine lv_iload_n hx hb dX6_fewest_63 rfl (lv_at hl 6 rfl) ?_
            refine lv_iload hx hb dX6_fewest_64 (lv_at hl 7 rfl) ?_
            refine lv_sipush (v := 999) hx hb dX6_fewest_66 (by decide) ?_
            refine crV (As := [.int (nI a), .int (nI m_), .int 999]) (rest := []) ⟨hx, hb, hml, hown, hts⟩ (c_X3_allWithin l E hs qs th la ln ce a m_ 999 (by first | assumption | omega) (by omega)) (cwV 3 hts gX6_fewest_X3_allWithin rfl rfl rfl (by decide +kernel) ⟨Nat.le_of_ble_eq_true rfl, Nat.le_of_ble_eq_true rfl⟩) hK hP [2, 3] rfl 0 rfl rfl rfl rfl hl.1 rfl (catLe (Nat.le_of_ble_eq_true rfl)) dX6_fewest_69 ⟨Nat.zero_le _, Nat.zero_le _⟩ (fun r_20 hr_20 => ?_)
            subst hr_20
            refine ifB_ne (P := allP ce a m_ 999) (tgt := 78) hx hb dX6_fewest_72 (by decide) (fun c_21 => ?_) (fun c_21 => ?_)
            ·
              refine lv_aload_n hx hb dX6_fewest_78 rfl (lv_at hl 3 rfl) ?_
              refine va_get (D := E.1) (ci := 6) (v := .ref fo) (C := RX6) (T := TX6) (N := 11) hx hb hts hinX6 hown hK.1 hP 0 rfl rfl 7 (by decide) fl_55 (fun _ h9 => h9) rfl dX6_fewest_79 ?_
              refine lv_iconst (v := 0) hx hb dX6_fewest_82 (by decide) ?_
              refine lv_iconst (v := 0) hx hb dX6_fewest_83 (by decide) ?_
              refine ist hx hb hK hP hD hS 4 rfl (j := 0) rfl (by omega) (by decide) dX6_fewest_84 (fun H locs hP hD hS => ?_)
              have hP : va_P E.1 vwCl [ob g0 6 [.ref h0, .ref k0, .ref gs, .ref ht, .ref hd, .ref ho, .ref hr, .ref fo, .ref wy, .int tr, .int (fltF (rtK (nI j) lane (nI a) (nI m_) 1 th la ln))], aq E gs 4 sa, ob hs 3 [.ref qs, .int th, .int la, .int (nI ln)], ar E qs 60 ce, ar E fo 1000 (upd fw 0 0)] H := hP
              have hD : va_D A [ob g0 6 [.ref h0, .ref k0, .ref gs, .ref ht, .ref hd, .ref ho, .ref hr, .ref fo, .ref wy, .int tr, .int (fltF (rtK (nI j) lane (nI a) (nI m_) 1 th la ln))], aq E gs 4 sa, ob hs 3 [.ref qs, .int th, .int la, .int (nI ln)], ar E qs 60 ce, ar E fo 1000 (upd fw 0 0)] := hD
              refine lv_iconst (v := 1) hx hb dX6_fewest_85 (by decide) ?_
              refine lv_istore (lv' := [(9, .int 1), (8, .ref hs), (7, .int (rtK (nI j) lane (nI a) (nI m_) 1 th la ln)), (6, .int 1), (0, .ref g0), (1, .int (nI j)), (2, .int lane), (3, .int (nI a)), (4, .int (nI m_)), (5, .int (nI y))]) hx hb dX6_fewest_86 hl (by decide) rfl (fun ls hl => ?_)
              have L88 : ∀ (fuel : Nat) (z : Nat), (z ≤ y) → (y - z) < fuel → ∀ (H : Heap) (locs : List Loc), va_P E.1 vwCl [ob g0 6 [.ref h0, .ref k0, .ref gs, .ref ht, .ref hd, .ref ho, .ref hr, .ref fo, .ref wy, .int tr, .int (fltF (rtK (nI j) lane (nI a) (nI m_) 1 th la ln))], aq E gs 4 sa, ob hs 3 [.ref qs, .int th, .int la, .int (nI ln)], ar E qs 60 ce, ar E fo 1000 (cT fw (fun q => ce (a + q)) m_ z)] H → va_D A [ob g0 6 [.ref h0, .ref k0, .ref gs, .ref ht, .ref hd, .ref ho, .ref hr, .ref fo, .ref wy, .int tr, .int (fltF (rtK (nI j) lane (nI a) (nI m_) 1 th la ln))], aq E gs 4 sa, ob hs 3 [.ref qs, .int th, .int la, .int (nI ln)], ar E qs 60 ce, ar E fo 1000 (cT fw (fun q => ce (a + q)) m_ z)] → va_S A s.heap H locs → ∀ ls : Array Slot, lv_has ls 10 [(9, .int (nI (z + 1))), (8, .ref hs), (7, .int (rtK (nI j) lane (nI a) (nI m_) 1 th la ln)), (6, .int 1), (0, .ref g0), (1, .int (nI j)), (2, .int lane), (3, .int (nI a)), (4, .int (nI m_)), (5, .int (nI y))] → W p l e ({ frames := 2, cells := 0, slots := 0, locals := 49 }) s m args below meth c H locs 0 0 QQ (F0 m 88 ls []) := by
                intro fuel
                induction fuel with
                | zero => intro z hzy hf; exact absurd hf (Nat.not_lt_zero _)
                | succ fuel ih88 =>
                  intro z hzy hf88 H locs hP hD hS ls hl
                  refine lv_iload hx hb dX6_fewest_88 (lv_at hl 0 rfl) ?_
                  refine lv_iload hx hb dX6_fewest_90 (lv_at hl 9 rfl) ?_
                  refine icmpN_gt (tgt := 119) (a := z + 1) (b := y) hx hb rfl rfl (by omega) (by omega) dX6_fewest_92 (by decide) (fun c_22 => ?_) (fun c_22 => ?_)
                  ·
                    obtain rfl : y = z := by omega
                    refine lv_aload_n hx hb dX6_fewest_119 rfl (lv_at hl 4 rfl) ?_
                    refine va_get (D := E.1) (ci := 6) (v := .ref fo) (C := RX6) (T := TX6) (N := 11) hx hb hts hinX6 hown hK.1 hP 0 rfl rfl 7 (by decide) fl_55 (fun _ h9 => h9) rfl dX6_fewest_120 ?_
                    refine lv_iload hx hb dX6_fewest_123 (lv_at hl 9 rfl) ?_
                    refine ild hx hb hK hP 4 rfl (j := y) rfl (by omega) (by decide) dX6_fewest_125 ?_
                    exact hret _ _ _ _ _ (cT fw (fun q => ce (a + q)) m_ y) dX6_fewest_126 hS (by rw [ha]; exact hP) (by rw [spFewest, ha, if_neg (not_not_intro c_19), hixa, hixm, if_neg (not_not_intro c_21), hixy])
                  ·
                    refine lv_aload_n hx hb dX6_fewest_95 rfl (lv_at hl 4 rfl) ?_
                    refine va_get (D := E.1) (ci := 6) (v := .ref fo) (C := RX6) (T := TX6) (N := 11) hx hb hts hinX6 hown hK.1 hP 0 rfl rfl 7 (by decide) fl_55 (fun _ h9 => h9) rfl dX6_fewest_96 ?_
                    refine lv_iload hx hb dX6_fewest_99 (lv_at hl 0 rfl) ?_
                    refine lv_aload_n hx hb dX6_fewest_101 rfl (lv_at hl 4 rfl) ?_
                    refine lv_aload hx hb dX6_fewest_102 (lv_at hl 1 rfl) ?_
                    refine lv_iload_n hx hb dX6_fewest_104 rfl (lv_at hl 7 rfl) ?_
                    refine lv_iload hx hb dX6_fewest_105 (lv_at hl 8 rfl) ?_
                    refine lv_iload hx hb dX6_fewest_107 (lv_at hl 0 rfl) ?_
                    refine crV (As := [.ref hs, .int (nI a), .int (nI m_), .int (nI (z + 1))]) (rest := [.int (nI (z + 1)), .ref fo]) ⟨hx, hb, hml, hown, hts⟩ (c_X6_fewestWithLast l E g0 h0 k0 gs ht hd ho hr fo wy tr (fltF (rtK (nI j) lane (nI a) (nI m_) 1 th la ln)) (cT fw (fun q => ce (a + q)) m_ z) hs qs th la ln ce a m_ (z + 1) (by first | assumption | omega) (by omega) (by omega)) (cwV 4 hts gX6_fewest_X6_fewestWithLast rfl rfl rfl (by decide +kernel) ⟨Nat.le_of_ble_eq_true rfl, Nat.le_of_ble_eq_true rfl⟩) hK hP [0, 4, 2, 3] rfl 0 rfl rfl rfl rfl hl.1 rfl (catLe (Nat.le_of_ble_eq_true rfl)) dX6_fewest_109 ⟨Nat.zero_le _, Nat.zero_le _⟩ (fun r_23 hr_23 => ?_)
                    subst hr_23
                    refine ist hx hb hK hP hD hS 4 rfl (j := z + 1) rfl (by omega) (by decide) dX6_fewest_112 (fun H locs hP hD hS => ?_)
                    have hP : va_P E.1 vwCl [ob g0 6 [.ref h0, .ref k0, .ref gs, .ref ht, .ref hd, .ref ho, .ref hr, .ref fo, .ref wy, .int tr, .int (fltF (rtK (nI j) lane (nI a) (nI m_) 1 th la ln))], aq E gs 4 sa, ob hs 3 [.ref qs, .int th, .int la, .int (nI ln)], ar E qs 60 ce, ar E fo 1000 (upd (cT fw (fun q => ce (a + q)) m_ z) (z + 1) (fwL (cT fw (fun q => ce (a + q)) m_ z) (fun q => ce (a + q)) (z + 1) m_))] H := hP
                    have hD : va_D A [ob g0 6 [.ref h0, .ref k0, .ref gs, .ref ht, .ref hd, .ref ho, .ref hr, .ref fo, .ref wy, .int tr, .int (fltF (rtK (nI j) lane (nI a) (nI m_) 1 th la ln))], aq E gs 4 sa, ob hs 3 [.ref qs, .int th, .int la, .int (nI ln)], ar E qs 60 ce, ar E fo 1000 (upd (cT fw (fun q => ce (a + q)) m_ z) (z + 1) (fwL (cT fw (fun q => ce (a + q)) m_ z) (fun q => ce (a + q)) (z + 1) m_))] := hD
                    refine lv_iinc (v := nI ((z + 1) + 1)) (lv' := [(9, .int (nI ((z + 1) + 1))), (8, .ref hs), (7, .int (rtK (nI j) lane (nI a) (nI m_) 1 th la ln)), (6, .int 1), (0, .ref g0), (1, .int (nI j)), (2, .int lane), (3, .int (nI a)), (4, .int (nI m_)), (5, .int (nI y))]) hx hb dX6_fewest_113 hl (k := 0) rfl (nI_inc (z + 1)) (by decide) rfl (fun ls hl => ?_)
                    refine lv_goto (tgt := 88) hx hb dX6_fewest_116 (by decide) ?_
                    exact ih88 (z + 1) (by omega) (by omega) _ _ hP hD hS ls (lv_sub hl [0, 1, 2, 3, 4, 5, 6, 7, 8, 9] rfl)
              exact L88 _ 0 (by omega) (Nat.lt_succ_self _) _ _ hP hD hS ls (lv_sub hl [0, 1, 2, 3, 4, 5, 6, 7, 8, 9] rfl)
            ·
              refine lv_bipush (v := (-2)) hx hb dX6_fewest_75 (by decide) ?_
              exact hret _ _ _ _ _ fw dX6_fewest_77 hS (by rw [ha]; exact hP) (by rw [spFewest, ha, if_neg (not_not_intro c_19), hixa, hixm, if_pos c_21])
          ·
            refine lv_iload hx hb dX6_fewest_50 (lv_at hl 0 rfl) ?_
            exact hret _ _ _ _ _ fw dX6_fewest_52 hS (by rw [ha]; exact hP) (by rw [spFewest, ha, if_pos c_19])
set_option maxHeartbeats 4000000 in
set_option maxRecDepth 100000 in
theorem c_X6_standsSo (l : Launch) (E : gE) (g0 : Nat) (h0 : Nat) (k0 : Nat) (gs : Nat) (ht : Nat) (hd : Nat) (ho : Nat) (hr : Nat) (fo : Nat) (wy : Nat) (tr : Int32) (lf : Int32) (a0 : Nat) (a1 : Nat) (a2 : Nat) (a3 : Nat) (a4 : Nat) (n : Nat) (mo : Int32) (ro : Nat → Int32) (wo : Nat → Int32) (hs : Nat) (qs : Nat) (th : Int32) (la : Int32) (ln : Nat) (ce : Nat → Int32) (i : Nat) (nn : Nat) (v : Int32) (hg : WG n ro wo) (h60 : ln ≤ 60) (hin : i + 2 * nn ≤ ln) (hvw : vwP ce i n nn) : Met l yX6_standsSo wsX6_standsSo ({ frames := 2, cells := 0, slots := 0, locals := 43 }) (PR E [.ref g0, .ref hs, .int (nI i), .int (nI nn), .int v] [ob g0 6 [.ref h0, .ref k0, .ref gs, .ref ht, .ref hd, .ref ho, .ref hr, .ref fo, .ref wy, .int tr, .int lf], ob h0 5 [.ref a0, .ref a1, .ref a2, .ref a3, .ref a4, .int (nI n), .int mo], ar E a3 6 ro, ar E a4 6 wo, ob hs 3 [.ref qs, .int th, .int la, .int (nI ln)], ar E qs 60 ce]) (vp_Si (fun r => r = if stP ce i nn ro wo v then 1 else 0)) 0 0 (fun _ => False) := by
  refine mkRz (cc := cX6_standsSo) (maxL := 6) (by decide) rfl (Nat.le_of_ble_eq_true rfl) ?_
  intro p e s m args below meth c QQ hx hb hml hown hmn hts hK hP hret ls hl
  have hown : s.vm.findClass RX6 = some m.cls := hown
  have hl : lv_has ls 6 [(0, .ref g0), (1, .ref hs), (2, .int (nI i)), (3, .int (nI nn)), (4, .int v)] := hl
  have hinX6 : ∀ w ∈ wsX60, w ∈ wsX6_standsSo := by decide +kernel
  have fl_12 := hts (.fieldLink RX6 12 "GuardAbacus" "wires" "LGuardAbacus$Wires;") (by decide +kernel)
  have hn := hg.le
  refine lv_iconst (v := 0) hx hb dX6_standsSo_0 (by decide) ?_
  refine lv_istore (lv' := [(5, .int 0), (0, .ref g0), (1, .ref hs), (2, .int (nI i)), (3, .int (nI nn)), (4, .int v)]) hx hb dX6_standsSo_1 hl (by decide) rfl (fun ls hl => ?_)
  have L3 : ∀ (fuel : Nat) (k : Nat), (k ≤ nn) → (∀ q, q < k → figF (wo (ix (ce (i + 2 * q)))) (ro (ix (ce (i + 2 * q)))) v = ce (i + 2 * q + 1)) → (nn - k) < fuel → ∀ ls : Array Slot, lv_has ls 6 [(5, .int (nI k)), (0, .ref g0), (1, .ref hs), (2, .int (nI i)), (3, .int (nI nn)), (4, .int v)] → W p l e ({ frames := 2, cells := 0, slots := 0, locals := 43 }) s m args below meth c s.heap [] 0 0 QQ (F0 m 3 ls []) := by
    intro fuel
    induction fuel with
    | zero => intro k hk hq hf; exact absurd hf (Nat.not_lt_zero _)
    | succ fuel ih3 =>
      intro k hk hq hf3 ls hl
      refine lv_iload hx hb dX6_standsSo_3 (lv_at hl 0 rfl) ?_
      refine lv_iload_n hx hb dX6_standsSo_5 rfl (lv_at hl 4 rfl) ?_
      refine icmpN_ge (tgt := 51) (a := k) (b := nn) hx hb rfl rfl (by omega) (by omega) dX6_standsSo_6 (by decide) (fun c_1 => ?_) (fun c_1 => ?_)
      ·
        obtain rfl : nn = k := by omega
        refine lv_iconst (v := 1) hx hb dX6_standsSo_51 (by decide) ?_
        exact hret _ _ _ dX6_standsSo_52 rfl (if_pos hq).symm
      ·
        refine lv_aload_n hx hb dX6_standsSo_9 rfl (lv_at hl 1 rfl) ?_
        refine va_get (D := E.1) (ci := 6) (v := .ref h0) (C := RX6) (T := TX6) (N := 11) hx hb hts hinX6 hown hK.1 hP 0 rfl rfl 0 (by decide) fl_12 (fun _ h9 => h9) rfl dX6_standsSo_10 ?_
        refine lv_aload_n hx hb dX6_standsSo_13 rfl (lv_at hl 2 rfl) ?_
        refine lv_iload_n hx hb dX6_standsSo_14 rfl (lv_at hl 3 rfl) ?_
        refine lv_iconst (v := 2) hx hb dX6_standsSo_15 (by decide) ?_
        refine lv_iload hx hb dX6_standsSo_16 (lv_at hl 0 rfl) ?_
        refine N_imul (a := 2) (b := k) hx hb rfl rfl dX6_standsSo_18 ?_
        refine N_iadd (a := i) (b := 2 * k) hx hb rfl rfl dX6_standsSo_19 ?_
        refine crV (As := [.int (nI (i + (2 * k)))]) (rest := [.ref h0]) ⟨hx, hb, hml, hown, hts⟩ (c_X3_at l E hs qs th la ln ce (nI (i + (2 * k))) (i + (2 * k)) (by first | assumption | omega) (by first | assumption | omega) rfl) (cwV 1 hts gX6_standsSo_X3_at rfl rfl rfl (by decide +kernel) ⟨Nat.le_of_ble_eq_true rfl, Nat.le_of_ble_eq_true rfl⟩) hK hP [4, 5] rfl 0 rfl rfl rfl rfl hl.1 rfl (catLe (Nat.le_of_ble_eq_true rfl)) dX6_standsSo_20 ⟨Nat.zero_le _, Nat.zero_le _⟩ (fun r_2 hr_2 => ?_)
        subst hr_2
        refine lv_iload hx hb dX6_standsSo_23 (lv_at hl 5 rfl) ?_
        obtain ⟨y, hy, ey⟩ := hasP_of (hvw k (by omega)) hg.1
        have hiy : ix (ce (i + 2 * k)) = y := by rw [ey]; exact ix_nI (by omega)
        refine crV (As := [.int (ce (i + (2 * k))), .int v]) (rest := []) ⟨hx, hb, hml, hown, hts⟩ (c_X5_figureOf l E h0 a0 a1 a2 a3 a4 n mo ro wo (ce (i + (2 * k))) y v (by first | assumption | omega) hy ey) (cwV 2 hts gX6_standsSo_X5_figureOf rfl rfl rfl (by decide +kernel) ⟨Nat.le_of_ble_eq_true rfl, Nat.le_of_ble_eq_true rfl⟩) hK hP [1, 2, 3] rfl 0 rfl rfl rfl rfl hl.1 rfl (catLe (Nat.le_of_ble_eq_true rfl)) dX6_standsSo_25 ⟨Nat.zero_le _, Nat.zero_le _⟩ (fun r_3 hr_3 => ?_)
        subst hr_3
        refine lv_aload_n hx hb dX6_standsSo_28 rfl (lv_at hl 2 rfl) ?_
        refine lv_iload_n hx hb dX6_standsSo_29 rfl (lv_at hl 3 rfl) ?_
        refine lv_iconst (v := 2) hx hb dX6_standsSo_30 (by decide) ?_
        refine lv_iload hx hb dX6_standsSo_31 (lv_at hl 0 rfl) ?_
        refine N_imul (a := 2) (b := k) hx hb rfl rfl dX6_standsSo_33 ?_
        refine N_iadd (a := i) (b := 2 * k) hx hb rfl rfl dX6_standsSo_34 ?_
        refine lv_iconst (v := 1) hx hb dX6_standsSo_35 (by decide) ?_
        refine N_iadd (a := i + (2 * k)) (b := 1) hx hb rfl rfl dX6_standsSo_36 ?_
        refine crV (As := [.int (nI ((i + (2 * k)) + 1))]) (rest := [.int (figF (wo y) (ro y) v)]) ⟨hx, hb, hml, hown, hts⟩ (c_X3_at l E hs qs th la ln ce (nI ((i + (2 * k)) + 1)) ((i + (2 * k)) + 1) (by first | assumption | omega) (by first | assumption | omega) rfl) (cwV 1 hts gX6_standsSo_X3_at rfl rfl rfl (by decide +kernel) ⟨Nat.le_of_ble_eq_true rfl, Nat.le_of_ble_eq_true rfl⟩) hK hP [4, 5] rfl 0 rfl rfl rfl rfl hl.1 rfl (catLe (Nat.le_of_ble_eq_true rfl)) dX6_standsSo_37 ⟨Nat.zero_le _, Nat.zero_le _⟩ (fun r_4 hr_4 => ?_)
        subst hr_4
        refine lv_icmp_eq (tgt := 45) hx hb dX6_standsSo_40 (by decide) (fun c_5 => ?_) (fun c_5 => ?_)
        ·
          refine lv_iinc (v := nI (k + 1)) (lv' := [(5, .int (nI (k + 1))), (0, .ref g0), (1, .ref hs), (2, .int (nI i)), (3, .int (nI nn)), (4, .int v)]) hx hb dX6_standsSo_45 hl (k := 0) rfl (nI_inc k) (by decide) rfl (fun ls hl => ?_)
          refine lv_goto (tgt := 3) hx hb dX6_standsSo_48 (by decide) ?_
          exact ih3 (k + 1) (by omega) (lt_s hq (by rw [hiy]; exact c_5)) (by omega) ls (lv_sub hl [0, 1, 2, 3, 4, 5] rfl)
        ·
          refine lv_iconst (v := 0) hx hb dX6_standsSo_43 (by decide) ?_
          exact hret _ _ _ dX6_standsSo_44 rfl (if_neg (fun h => c_5 (by have h2 := h k (by omega); rw [hiy] at h2; exact h2))).symm
  exact L3 _ 0 (by omega) (fun w h => absurd h (Nat.not_lt_zero w)) (Nat.lt_succ_self _) ls (lv_sub hl [0, 1, 2, 3, 4, 5] rfl)
set_option maxHeartbeats 4000000 in
set_option maxRecDepth 100000 in
theorem c_X6_ofAdded (l : Launch) (E : gE) (g0 : Nat) (h0 : Nat) (k0 : Nat) (gs : Nat) (ht : Nat) (hd : Nat) (ho : Nat) (hr : Nat) (fo : Nat) (wy : Nat) (tr : Int32) (lf : Int32) (a0 : Nat) (a1 : Nat) (a2 : Nat) (a3 : Nat) (a4 : Nat) (n : Nat) (mo : Int32) (pu : Nat → Int32) (ro : Nat → Int32) (wo : Nat → Int32) (hs : Nat) (qs : Nat) (th : Int32) (la : Int32) (ln : Nat) (ce : Nat → Int32) (i : Nat) (nn : Nat) (what : Int32) (hg : WG n ro wo) (h60 : ln ≤ 60) (hin : i + 2 * nn ≤ ln) (hvw : vwP ce i n nn) : Met l yX6_ofAdded wsX6_ofAdded ({ frames := 3, cells := 0, slots := 0, locals := 68 }) (PR E [.ref g0, .ref hs, .int (nI i), .int (nI nn), .int what] [ob g0 6 [.ref h0, .ref k0, .ref gs, .ref ht, .ref hd, .ref ho, .ref hr, .ref fo, .ref wy, .int tr, .int lf], ob h0 5 [.ref a0, .ref a1, .ref a2, .ref a3, .ref a4, .int (nI n), .int mo], ar E a2 6 pu, ar E a3 6 ro, ar E a4 6 wo, ob hs 3 [.ref qs, .int th, .int la, .int (nI ln)], ar E qs 60 ce]) (vp_Si (fun r => r = adO (adF ce i nn ro wo (numF pu wo n) (adK mo (numF pu wo n))) what)) 0 0 (fun _ => False) := by
  refine mkRi (cc := cX6_ofAdded) (maxL := 11) (by decide) rfl (Nat.le_of_ble_eq_true rfl) ?_
  intro p e s m args below meth c QQ hx hb hml hown hmn hts hK hP hret ls hl
  have hown : s.vm.findClass RX6 = some m.cls := hown
  have hl : lv_has ls 11 [(0, .ref g0), (1, .ref hs), (2, .int (nI i)), (3, .int (nI nn)), (4, .int what)] := hl
  have hinX5 : ∀ w ∈ wsX50, w ∈ wsX6_ofAdded := by decide +kernel
  have hinX6 : ∀ w ∈ wsX60, w ∈ wsX6_ofAdded := by decide +kernel
  have fl_12 := hts (.fieldLink RX6 12 "GuardAbacus" "wires" "LGuardAbacus$Wires;") (by decide +kernel)
  have fl_113 := hts (.fieldLink RX6 113 "GuardAbacus$Wires" "most" "I") (by decide +kernel)
  have hn := hg.le
  refine lv_aload_n hx hb dX6_ofAdded_0 rfl (lv_at hl 0 rfl) ?_
  refine va_get (D := E.1) (ci := 6) (v := .ref h0) (C := RX6) (T := TX6) (N := 11) hx hb hts hinX6 hown hK.1 hP 0 rfl rfl 0 (by decide) fl_12 (fun _ h9 => h9) rfl dX6_ofAdded_1 ?_
  refine crV (As := []) (rest := []) ⟨hx, hb, hml, hown, hts⟩ (c_X5_numberNow l E h0 a0 a1 a2 a3 a4 n mo pu wo (by first | assumption | omega)) (cwV 0 hts gX6_ofAdded_X5_numberNow rfl rfl rfl (by decide +kernel) ⟨Nat.le_of_ble_eq_true rfl, Nat.le_of_ble_eq_true rfl⟩) hK hP [1, 2, 4] rfl 0 rfl rfl rfl rfl hl.1 rfl (catLe (Nat.le_of_ble_eq_true rfl)) dX6_ofAdded_4 ⟨Nat.zero_le _, Nat.zero_le _⟩ (fun r_1 hr_1 => ?_)
  subst hr_1
  refine lv_istore (lv' := [(5, .int (numF pu wo n)), (0, .ref g0), (1, .ref hs), (2, .int (nI i)), (3, .int (nI nn)), (4, .int what)]) hx hb dX6_ofAdded_7 hl (by decide) rfl (fun ls hl => ?_)
  refine lv_sipush (v := 999) hx hb dX6_ofAdded_9 (by decide) ?_
  refine lv_aload_n hx hb dX6_ofAdded_12 rfl (lv_at hl 1 rfl) ?_
  refine va_get (D := E.1) (ci := 6) (v := .ref h0) (C := RX6) (T := TX6) (N := 11) hx hb hts hinX6 hown hK.1 hP 0 rfl rfl 0 (by decide) fl_12 (fun _ h9 => h9) rfl dX6_ofAdded_13 ?_
  refine va_get (D := E.1) (ci := 5) (v := .int mo) (C := RX5) (T := TX5) (N := 7) hx hb hts hinX5 hown hK.1 hP 1 rfl rfl 6 (by decide) fl_113 (fun _ h9 => h9) rfl dX6_ofAdded_16 ?_
  refine lv_iload hx hb dX6_ofAdded_19 (lv_at hl 0 rfl) ?_
  refine lv_isub hx hb dX6_ofAdded_21 ?_
  refine va_mmin hx hb (hml.trans hl.1.symm) hown (hts (.methodLink RX6 186 Lib.Math.min.name) (by decide +kernel)) (hts (.static Lib.Math.min.name) (by decide +kernel)) (hts (.initialized "java/lang/Math") (by decide +kernel)) (hts (.code Lib.Math.min.name Lib.Math.min.code 2 (some .int)) (by decide +kernel)) (Nat.le_of_ble_eq_true rfl) (Nat.le_of_ble_eq_true rfl) (Nat.zero_le _) (Nat.zero_le _) dX6_ofAdded_22 ?_
  rw [show (if mo - numF pu wo n < 999 then mo - numF pu wo n else (999 : Int32)) = adL mo (numF pu wo n) from rfl]
  refine lv_istore (lv' := [(6, .int (adL mo (numF pu wo n))), (5, .int (numF pu wo n)), (0, .ref g0), (1, .ref hs), (2, .int (nI i)), (3, .int (nI nn)), (4, .int what)]) hx hb dX6_ofAdded_25 hl (by decide) rfl (fun ls hl => ?_)
  refine lv_iconst (v := 0) hx hb dX6_ofAdded_27 (by decide) ?_
  refine lv_istore (lv' := [(7, .int 0), (6, .int (adL mo (numF pu wo n))), (5, .int (numF pu wo n)), (0, .ref g0), (1, .ref hs), (2, .int (nI i)), (3, .int (nI nn)), (4, .int what)]) hx hb dX6_ofAdded_28 hl (by decide) rfl (fun ls hl => ?_)
  refine lv_bipush (v := (-9)) hx hb dX6_ofAdded_30 (by decide) ?_
  refine lv_istore (lv' := [(8, .int (-9)), (7, .int 0), (6, .int (adL mo (numF pu wo n))), (5, .int (numF pu wo n)), (0, .ref g0), (1, .ref hs), (2, .int (nI i)), (3, .int (nI nn)), (4, .int what)]) hx hb dX6_ofAdded_32 hl (by decide) rfl (fun ls hl => ?_)
  refine lv_bipush (v := (-9)) hx hb dX6_ofAdded_34 (by decide) ?_
  refine lv_istore (lv' := [(9, .int (-9)), (8, .int (-9)), (7, .int 0), (6, .int (adL mo (numF pu wo n))), (5, .int (numF pu wo n)), (0, .ref g0), (1, .ref hs), (2, .int (nI i)), (3, .int (nI nn)), (4, .int what)]) hx hb dX6_ofAdded_36 hl (by decide) rfl (fun ls hl => ?_)
  refine lv_iconst (v := 0) hx hb dX6_ofAdded_38 (by decide) ?_
  refine lv_istore (lv' := [(10, .int 0), (9, .int (-9)), (8, .int (-9)), (7, .int 0), (6, .int (adL mo (numF pu wo n))), (5, .int (numF pu wo n)), (0, .ref g0), (1, .ref hs), (2, .int (nI i)), (3, .int (nI nn)), (4, .int what)]) hx hb dX6_ofAdded_39 hl (by decide) rfl (fun ls hl => ?_)
  have L41 : ∀ (fuel : Nat) (k : Nat), (k ≤ 1000) → (k ≤ adK mo (numF pu wo n)) → (1000 - k) < fuel → ∀ ls : Array Slot, lv_has ls 11 [(10, .int (nI k)), (9, .int ((adF ce i nn ro wo (numF pu wo n) k).2.2)), (8, .int ((adF ce i nn ro wo (numF pu wo n) k).2.1)), (7, .int ((adF ce i nn ro wo (numF pu wo n) k).1)), (6, .int (adL mo (numF pu wo n))), (5, .int (numF pu wo n)), (0, .ref g0), (1, .ref hs), (2, .int (nI i)), (3, .int (nI nn)), (4, .int what)] → W p l e ({ frames := 3, cells := 0, slots := 0, locals := 68 }) s m args below meth c s.heap [] 0 0 QQ (F0 m 41 ls []) := by
    intro fuel
    induction fuel with
    | zero => intro k hk hKa hf; exact absurd hf (Nat.not_lt_zero _)
    | succ fuel ih41 =>
      intro k hk hKa hf41 ls hl
      refine lv_iload hx hb dX6_ofAdded_41 (lv_at hl 0 rfl) ?_
      refine lv_iload hx hb dX6_ofAdded_43 (lv_at hl 4 rfl) ?_
      refine lv_icmp_gt (tgt := 92) hx hb dX6_ofAdded_45 (by decide) (fun c_2 => ?_) (fun c_2 => ?_)
      ·
        have c_2b := Int32.not_le.mpr c_2
        obtain rfl := adL_ge (by omega) hKa c_2
        refine lv_iload hx hb dX6_ofAdded_92 (lv_at hl 10 rfl) ?_
        refine lv_if_ne (tgt := 100) hx hb dX6_ofAdded_94 (by decide) (fun c_3 => ?_) (fun c_3 => ?_)
        ·
          refine lv_iload hx hb dX6_ofAdded_100 (lv_at hl 10 rfl) ?_
          refine lv_iconst (v := 1) hx hb dX6_ofAdded_102 (by decide) ?_
          refine lv_icmp_ne (tgt := 111) hx hb dX6_ofAdded_103 (by decide) (fun c_4 => ?_) (fun c_4 => ?_)
          ·
            refine lv_iload hx hb dX6_ofAdded_111 (lv_at hl 1 rfl) ?_
            exact hret _ _ _ dX6_ofAdded_113 (by simp [adO, c_2, c_3, c_4, c_2b])
          ·
            refine lv_iload hx hb dX6_ofAdded_106 (lv_at hl 2 rfl) ?_
            refine lv_goto (tgt := 113) hx hb dX6_ofAdded_108 (by decide) ?_
            exact hret _ _ _ dX6_ofAdded_113 (by simp [adO, c_2, c_3, c_4, c_2b])
        ·
          refine lv_iload hx hb dX6_ofAdded_97 (lv_at hl 3 rfl) ?_
          exact hret _ _ _ dX6_ofAdded_99 (by simp [adO, c_2, c_3, c_2b])
      ·
        have c_2b := Int32.not_lt.mp c_2
        have hlt := adL_lt hk c_2
        refine lv_aload_n hx hb dX6_ofAdded_48 rfl (lv_at hl 6 rfl) ?_
        refine lv_aload_n hx hb dX6_ofAdded_49 rfl (lv_at hl 7 rfl) ?_
        refine lv_iload_n hx hb dX6_ofAdded_50 rfl (lv_at hl 8 rfl) ?_
        refine lv_iload_n hx hb dX6_ofAdded_51 rfl (lv_at hl 9 rfl) ?_
        refine lv_iload hx hb dX6_ofAdded_52 (lv_at hl 5 rfl) ?_
        refine lv_iload hx hb dX6_ofAdded_54 (lv_at hl 0 rfl) ?_
        refine lv_iadd hx hb dX6_ofAdded_56 ?_
        refine crV (As := [.ref hs, .int (nI i), .int (nI nn), .int ((numF pu wo n) + (nI k))]) (rest := []) ⟨hx, hb, hml, hown, hts⟩ (c_X6_standsSo l E g0 h0 k0 gs ht hd ho hr fo wy tr lf a0 a1 a2 a3 a4 n mo ro wo hs qs th la ln ce i nn ((numF pu wo n) + (nI k)) (by first | assumption | omega) (by first | assumption | omega) (by omega) (by first | assumption | omega)) (cwV 4 hts gX6_ofAdded_X6_standsSo rfl rfl rfl (by decide +kernel) ⟨Nat.le_of_ble_eq_true rfl, Nat.le_of_ble_eq_true rfl⟩) hK hP [0, 1, 3, 4, 5, 6] rfl 0 rfl rfl rfl rfl hl.1 rfl (catLe (Nat.le_of_ble_eq_true rfl)) dX6_ofAdded_57 ⟨Nat.zero_le _, Nat.zero_le _⟩ (fun r_5 hr_5 => ?_)
        subst hr_5
        refine ifB_eq (P := stP ce i nn ro wo ((numF pu wo n) + (nI k))) (tgt := 86) hx hb dX6_ofAdded_60 (by decide) (fun c_6 => ?_) (fun c_6 => ?_)
        ·
          refine lv_iinc (v := nI (k + 1)) (lv' := [(10, .int (nI (k + 1))), (9, .int ((adF ce i nn ro wo (numF pu wo n) k).2.2)), (8, .int ((adF ce i nn ro wo (numF pu wo n) k).2.1)), (7, .int ((adF ce i nn ro wo (numF pu wo n) k).1)), (6, .int (adL mo (numF pu wo n))), (5, .int (numF pu wo n)), (0, .ref g0), (1, .ref hs), (2, .int (nI i)), (3, .int (nI nn)), (4, .int what)]) hx hb dX6_ofAdded_86 hl (k := 0) rfl (nI_inc k) (by decide) rfl (fun ls hl => ?_)
          refine lv_goto (tgt := 41) hx hb dX6_ofAdded_89 (by decide) ?_
          have eA : adF ce i nn ro wo (numF pu wo n) (k + 1) = adF ce i nn ro wo (numF pu wo n) k := if_neg c_6
          have hl : lv_has ls 11 [(10, .int (nI (k + 1))), (9, .int ((adF ce i nn ro wo (numF pu wo n) (k + 1)).2.2)), (8, .int ((adF ce i nn ro wo (numF pu wo n) (k + 1)).2.1)), (7, .int ((adF ce i nn ro wo (numF pu wo n) (k + 1)).1)), (6, .int (adL mo (numF pu wo n))), (5, .int (numF pu wo n)), (0, .ref g0), (1, .ref hs), (2, .int (nI i)), (3, .int (nI nn)), (4, .int what)] := by rw [eA]; exact lv_sub hl [0, 1, 2, 3, 4, 5, 6, 7, 8, 9, 10] rfl
          exact ih41 (k + 1) (by omega) hlt.2 (by omega) ls (lv_sub hl [0, 1, 2, 3, 4, 5, 6, 7, 8, 9, 10] rfl)
        ·
          refine lv_iinc (v := (adF ce i nn ro wo (numF pu wo n) k).1 + 1) (lv' := [(7, .int ((adF ce i nn ro wo (numF pu wo n) k).1 + 1)), (10, .int (nI k)), (9, .int ((adF ce i nn ro wo (numF pu wo n) k).2.2)), (8, .int ((adF ce i nn ro wo (numF pu wo n) k).2.1)), (6, .int (adL mo (numF pu wo n))), (5, .int (numF pu wo n)), (0, .ref g0), (1, .ref hs), (2, .int (nI i)), (3, .int (nI nn)), (4, .int what)]) hx hb dX6_ofAdded_63 hl (k := 3) rfl rfl (by decide) rfl (fun ls hl => ?_)
          refine lv_iload hx hb dX6_ofAdded_66 (lv_at hl 3 rfl) ?_
          refine lv_bipush (v := (-9)) hx hb dX6_ofAdded_68 (by decide) ?_
          refine lv_icmp_ne (tgt := 78) hx hb dX6_ofAdded_70 (by decide) (fun c_7 => ?_) (fun c_7 => ?_)
          ·
            refine lv_iload hx hb dX6_ofAdded_78 (lv_at hl 3 rfl) ?_
            refine lv_istore (lv' := [(8, .int ((adF ce i nn ro wo (numF pu wo n) k).2.1)), (7, .int ((adF ce i nn ro wo (numF pu wo n) k).1 + 1)), (10, .int (nI k)), (9, .int ((adF ce i nn ro wo (numF pu wo n) k).2.2)), (6, .int (adL mo (numF pu wo n))), (5, .int (numF pu wo n)), (0, .ref g0), (1, .ref hs), (2, .int (nI i)), (3, .int (nI nn)), (4, .int what)]) hx hb dX6_ofAdded_80 hl (by decide) rfl (fun ls hl => ?_)
            refine lv_iload hx hb dX6_ofAdded_82 (lv_at hl 2 rfl) ?_
            refine lv_istore (lv' := [(9, .int (nI k)), (8, .int ((adF ce i nn ro wo (numF pu wo n) k).2.1)), (7, .int ((adF ce i nn ro wo (numF pu wo n) k).1 + 1)), (10, .int (nI k)), (6, .int (adL mo (numF pu wo n))), (5, .int (numF pu wo n)), (0, .ref g0), (1, .ref hs), (2, .int (nI i)), (3, .int (nI nn)), (4, .int what)]) hx hb dX6_ofAdded_84 hl (by decide) rfl (fun ls hl => ?_)
            refine lv_iinc (v := nI (k + 1)) (lv' := [(10, .int (nI (k + 1))), (9, .int (nI k)), (8, .int ((adF ce i nn ro wo (numF pu wo n) k).2.1)), (7, .int ((adF ce i nn ro wo (numF pu wo n) k).1 + 1)), (6, .int (adL mo (numF pu wo n))), (5, .int (numF pu wo n)), (0, .ref g0), (1, .ref hs), (2, .int (nI i)), (3, .int (nI nn)), (4, .int what)]) hx hb dX6_ofAdded_86 hl (k := 3) rfl (nI_inc k) (by decide) rfl (fun ls hl => ?_)
            refine lv_goto (tgt := 41) hx hb dX6_ofAdded_89 (by decide) ?_
            have eA : adF ce i nn ro wo (numF pu wo n) (k + 1) = ((adF ce i nn ro wo (numF pu wo n) k).1 + 1, (adF ce i nn ro wo (numF pu wo n) k).2.1, nI k) := by rw [adF, if_pos c_6, if_neg c_7]
            have hl : lv_has ls 11 [(10, .int (nI (k + 1))), (9, .int ((adF ce i nn ro wo (numF pu wo n) (k + 1)).2.2)), (8, .int ((adF ce i nn ro wo (numF pu wo n) (k + 1)).2.1)), (7, .int ((adF ce i nn ro wo (numF pu wo n) (k + 1)).1)), (6, .int (adL mo (numF pu wo n))), (5, .int (numF pu wo n)), (0, .ref g0), (1, .ref hs), (2, .int (nI i)), (3, .int (nI nn)), (4, .int what)] := by rw [eA]; exact lv_sub hl [0, 1, 2, 3, 4, 5, 6, 7, 8, 9, 10] rfl
            exact ih41 (k + 1) (by omega) hlt.2 (by omega) ls (lv_sub hl [0, 1, 2, 3, 4, 5, 6, 7, 8, 9, 10] rfl)
          ·
            refine lv_iload hx hb dX6_ofAdded_73 (lv_at hl 1 rfl) ?_
            refine lv_goto (tgt := 80) hx hb dX6_ofAdded_75 (by decide) ?_
            refine lv_istore (lv' := [(8, .int (nI k)), (7, .int ((adF ce i nn ro wo (numF pu wo n) k).1 + 1)), (10, .int (nI k)), (9, .int ((adF ce i nn ro wo (numF pu wo n) k).2.2)), (6, .int (adL mo (numF pu wo n))), (5, .int (numF pu wo n)), (0, .ref g0), (1, .ref hs), (2, .int (nI i)), (3, .int (nI nn)), (4, .int what)]) hx hb dX6_ofAdded_80 hl (by decide) rfl (fun ls hl => ?_)
            refine lv_iload hx hb dX6_ofAdded_82 (lv_at hl 2 rfl) ?_
            refine lv_istore (lv' := [(9, .int (nI k)), (8, .int (nI k)), (7, .int ((adF ce i nn ro wo (numF pu wo n) k).1 + 1)), (10, .int (nI k)), (6, .int (adL mo (numF pu wo n))), (5, .int (numF pu wo n)), (0, .ref g0), (1, .ref hs), (2, .int (nI i)), (3, .int (nI nn)), (4, .int what)]) hx hb dX6_ofAdded_84 hl (by decide) rfl (fun ls hl => ?_)
            refine lv_iinc (v := nI (k + 1)) (lv' := [(10, .int (nI (k + 1))), (9, .int (nI k)), (8, .int (nI k)), (7, .int ((adF ce i nn ro wo (numF pu wo n) k).1 + 1)), (6, .int (adL mo (numF pu wo n))), (5, .int (numF pu wo n)), (0, .ref g0), (1, .ref hs), (2, .int (nI i)), (3, .int (nI nn)), (4, .int what)]) hx hb dX6_ofAdded_86 hl (k := 3) rfl (nI_inc k) (by decide) rfl (fun ls hl => ?_)
            refine lv_goto (tgt := 41) hx hb dX6_ofAdded_89 (by decide) ?_
            have eA : adF ce i nn ro wo (numF pu wo n) (k + 1) = ((adF ce i nn ro wo (numF pu wo n) k).1 + 1, nI k, nI k) := by rw [adF, if_pos c_6, if_pos c_7]
            have hl : lv_has ls 11 [(10, .int (nI (k + 1))), (9, .int ((adF ce i nn ro wo (numF pu wo n) (k + 1)).2.2)), (8, .int ((adF ce i nn ro wo (numF pu wo n) (k + 1)).2.1)), (7, .int ((adF ce i nn ro wo (numF pu wo n) (k + 1)).1)), (6, .int (adL mo (numF pu wo n))), (5, .int (numF pu wo n)), (0, .ref g0), (1, .ref hs), (2, .int (nI i)), (3, .int (nI nn)), (4, .int what)] := by rw [eA]; exact lv_sub hl [0, 1, 2, 3, 4, 5, 6, 7, 8, 9, 10] rfl
            exact ih41 (k + 1) (by omega) hlt.2 (by omega) ls (lv_sub hl [0, 1, 2, 3, 4, 5, 6, 7, 8, 9, 10] rfl)
  exact L41 _ 0 (by omega) (Nat.zero_le _) (Nat.lt_succ_self _) ls (lv_sub hl [0, 1, 2, 3, 4, 5, 6, 7, 8, 9, 10] rfl)
set_option maxHeartbeats 4000000 in
set_option maxRecDepth 100000 in
theorem c_X6_added (l : Launch) (E : gE) (sz : Nat) (g0 : Nat) (h0 : Nat) (k0 : Nat) (gs : Nat) (ht : Nat) (hd : Nat) (ho : Nat) (hr : Nat) (fo : Nat) (wy : Nat) (tr : Int32) (lf : Int32) (sa : Nat → Option Nat) (hs : Nat) (qs : Nat) (th : Int32) (la : Int32) (ln : Nat) (ce : Nat → Int32) (a0 : Nat) (a1 : Nat) (a2 : Nat) (a3 : Nat) (a4 : Nat) (nw : Nat) (mo : Int32) (pu : Nat → Int32) (ro : Nat → Int32) (wo : Nat → Int32) (j : Nat) (sheet : Int32) (lane : Int32) (i : Int32) (n : Int32) (what : Int32) (hj4 : j < 4) (hsa : sa j = some hs) (hjs : shP sheet → sheet = nI j) (h60 : ln ≤ 60) (hg : WG nw ro wo) : Met l yX6_added wsX6_added ({ frames := 4, cells := 0, slots := 0, locals := 98 }) (PW E [.ref g0, .int sheet, .int lane, .int i, .int n, .int what] [ob g0 6 [.ref h0, .ref k0, .ref gs, .ref ht, .ref hd, .ref ho, .ref hr, .ref fo, .ref wy, .int tr, .int lf], aq E gs 4 sa, ob hs 3 [.ref qs, .int th, .int la, .int (nI ln)], ar E qs 60 ce, ob h0 5 [.ref a0, .ref a1, .ref a2, .ref a3, .ref a4, .int (nI nw), .int mo], ar E a2 6 pu, ar E a3 6 ro, ar E a4 6 wo] sz) (QWi E (fun r _ => r = spAdded sheet lane i n what th la ln ce nw mo pu ro wo) (fun (_ : Unit) => [ob g0 6 [.ref h0, .ref k0, .ref gs, .ref ht, .ref hd, .ref ho, .ref hr, .ref fo, .ref wy, .int tr, .int (fltF (rtK sheet lane i (2 * n) (if adT n what then 1 else 0) th la ln))], aq E gs 4 sa, ob hs 3 [.ref qs, .int th, .int la, .int (nI ln)], ar E qs 60 ce, ob h0 5 [.ref a0, .ref a1, .ref a2, .ref a3, .ref a4, .int (nI nw), .int mo], ar E a2 6 pu, ar E a3 6 ro, ar E a4 6 wo]) (va_A [ob g0 6 [.ref h0, .ref k0, .ref gs, .ref ht, .ref hd, .ref ho, .ref hr, .ref fo, .ref wy, .int tr, .int lf], aq E gs 4 sa, ob hs 3 [.ref qs, .int th, .int la, .int (nI ln)], ar E qs 60 ce, ob h0 5 [.ref a0, .ref a1, .ref a2, .ref a3, .ref a4, .int (nI nw), .int mo], ar E a2 6 pu, ar E a3 6 ro, ar E a4 6 wo] sz)) 0 0 (va_A [ob g0 6 [.ref h0, .ref k0, .ref gs, .ref ht, .ref hd, .ref ho, .ref hr, .ref fo, .ref wy, .int tr, .int lf], aq E gs 4 sa, ob hs 3 [.ref qs, .int th, .int la, .int (nI ln)], ar E qs 60 ce, ob h0 5 [.ref a0, .ref a1, .ref a2, .ref a3, .ref a4, .int (nI nw), .int mo], ar E a2 6 pu, ar E a3 6 ro, ar E a4 6 wo] sz) := by
  refine mkWi (cc := cX6_added) (maxL := 10) (by decide) rfl (Nat.le_of_ble_eq_true rfl) ?_
  intro p e s m args below meth c QQ A hx hb hml hown hmn hts hK hA hP hD hS hret ls hl
  have hown : s.vm.findClass RX6 = some m.cls := hown
  have hl : lv_has ls 10 [(0, .ref g0), (1, .int sheet), (2, .int lane), (3, .int i), (4, .int n), (5, .int what)] := hl
  have hinX5 : ∀ w ∈ wsX50, w ∈ wsX6_added := by decide +kernel
  have hinX6 : ∀ w ∈ wsX60, w ∈ wsX6_added := by decide +kernel
  have fl_12 := hts (.fieldLink RX6 12 "GuardAbacus" "wires" "LGuardAbacus$Wires;") (by decide +kernel)
  have fl_23 := hts (.fieldLink RX6 23 "GuardAbacus" "sheets" "[LGuardAbacus$Sheet;") (by decide +kernel)
  have fl_89 := hts (.fieldLink RX6 89 "GuardAbacus$Wires" "count" "I") (by decide +kernel)
  refine lv_iload hx hb dX6_added_0 (lv_at hl 4 rfl) ?_
  refine lv_if_lt (tgt := 27) hx hb dX6_added_2 (by decide) (fun c_1 => ?_) (fun c_1 => ?_)
  ·
    have c_1b := Int32.not_le.mpr c_1
    refine lv_iconst (v := 0) hx hb dX6_added_27 (by decide) ?_
    refine lv_istore (lv' := [(6, .int 0), (0, .ref g0), (1, .int sheet), (2, .int lane), (3, .int i), (4, .int n), (5, .int what)]) hx hb dX6_added_28 hl (by decide) rfl (fun ls hl => ?_)
    refine lv_aload_n hx hb dX6_added_30 rfl (lv_at hl 1 rfl) ?_
    refine lv_iload_n hx hb dX6_added_31 rfl (lv_at hl 2 rfl) ?_
    refine lv_iload_n hx hb dX6_added_32 rfl (lv_at hl 3 rfl) ?_
    refine lv_iload_n hx hb dX6_added_33 rfl (lv_at hl 4 rfl) ?_
    refine lv_iconst (v := 2) hx hb dX6_added_34 (by decide) ?_
    refine lv_iload hx hb dX6_added_35 (lv_at hl 5 rfl) ?_
    refine lv_imul hx hb dX6_added_37 ?_
    refine lv_iload hx hb dX6_added_38 (lv_at hl 0 rfl) ?_
    have ha : (if adT n what then (1 : Int32) else 0) = 0 := if_neg (fun h => h.1 c_1)
    refine cwVi (As := [.int sheet, .int lane, .int i, .int (2 * n), .int 0]) (rest := []) ⟨hx, hb, hml, hown, hts⟩ (c_X6_rowTrouble l E _ g0 h0 k0 gs ht hd ho hr fo wy tr lf sa hs qs th la ln j sheet lane i (2 * n) 0 (by first | assumption | omega) (by first | assumption | omega) (by first | assumption | omega)) (cwV 5 hts gX6_added_X6_rowTrouble rfl rfl rfl (by decide +kernel) ⟨Nat.le_of_ble_eq_true rfl, Nat.le_of_ble_eq_true rfl⟩) hK hP hD hS hA [0, 1, 2] (by decide) rfl [g0, gs, hs] (fun _ => rfl) rfl 0 rfl rfl rfl rfl hl.1 rfl (catLe (Nat.le_of_ble_eq_true rfl)) dX6_added_40 ⟨Nat.zero_le _, Nat.zero_le _⟩ (fun r_2 u_3 H locs hwr_2 hP hD hS => ?_)
    have hP : va_P E.1 vwCl [ob g0 6 [.ref h0, .ref k0, .ref gs, .ref ht, .ref hd, .ref ho, .ref hr, .ref fo, .ref wy, .int tr, .int (fltF (rtK sheet lane i (2 * n) 0 th la ln))], aq E gs 4 sa, ob hs 3 [.ref qs, .int th, .int la, .int (nI ln)], ar E qs 60 ce, ob h0 5 [.ref a0, .ref a1, .ref a2, .ref a3, .ref a4, .int (nI nw), .int mo], ar E a2 6 pu, ar E a3 6 ro, ar E a4 6 wo] H := hP
    have hD : va_D A [ob g0 6 [.ref h0, .ref k0, .ref gs, .ref ht, .ref hd, .ref ho, .ref hr, .ref fo, .ref wy, .int tr, .int (fltF (rtK sheet lane i (2 * n) 0 th la ln))], aq E gs 4 sa, ob hs 3 [.ref qs, .int th, .int la, .int (nI ln)], ar E qs 60 ce, ob h0 5 [.ref a0, .ref a1, .ref a2, .ref a3, .ref a4, .int (nI nw), .int mo], ar E a2 6 pu, ar E a3 6 ro, ar E a4 6 wo] := hD
    subst hwr_2
    refine lv_istore (lv' := [(7, .int (rtK sheet lane i (2 * n) 0 th la ln)), (6, .int 0), (0, .ref g0), (1, .int sheet), (2, .int lane), (3, .int i), (4, .int n), (5, .int what)]) hx hb dX6_added_43 hl (by decide) rfl (fun ls hl => ?_)
    refine lv_iload hx hb dX6_added_45 (lv_at hl 0 rfl) ?_
    refine lv_if_eq (tgt := 53) hx hb dX6_added_47 (by decide) (fun c_4 => ?_) (fun c_4 => ?_)
    ·
      have hz := rtK_0 c_4
      exact absurd rfl hz.2.2.1
    ·
      refine lv_iload hx hb dX6_added_50 (lv_at hl 0 rfl) ?_
      exact hret _ _ _ _ _ () dX6_added_52 hS (by rw [ha]; exact hP) (by rw [spAdded, ha, if_pos c_4])
  ·
    have c_1b := Int32.not_lt.mp c_1
    refine lv_iload hx hb dX6_added_5 (lv_at hl 4 rfl) ?_
    refine lv_bipush (v := 10) hx hb dX6_added_7 (by decide) ?_
    refine lv_icmp_gt (tgt := 27) hx hb dX6_added_9 (by decide) (fun c_5 => ?_) (fun c_5 => ?_)
    ·
      have c_5b := Int32.not_le.mpr c_5
      refine lv_iconst (v := 0) hx hb dX6_added_27 (by decide) ?_
      refine lv_istore (lv' := [(6, .int 0), (0, .ref g0), (1, .int sheet), (2, .int lane), (3, .int i), (4, .int n), (5, .int what)]) hx hb dX6_added_28 hl (by decide) rfl (fun ls hl => ?_)
      refine lv_aload_n hx hb dX6_added_30 rfl (lv_at hl 1 rfl) ?_
      refine lv_iload_n hx hb dX6_added_31 rfl (lv_at hl 2 rfl) ?_
      refine lv_iload_n hx hb dX6_added_32 rfl (lv_at hl 3 rfl) ?_
      refine lv_iload_n hx hb dX6_added_33 rfl (lv_at hl 4 rfl) ?_
      refine lv_iconst (v := 2) hx hb dX6_added_34 (by decide) ?_
      refine lv_iload hx hb dX6_added_35 (lv_at hl 5 rfl) ?_
      refine lv_imul hx hb dX6_added_37 ?_
      refine lv_iload hx hb dX6_added_38 (lv_at hl 0 rfl) ?_
      have ha : (if adT n what then (1 : Int32) else 0) = 0 := if_neg (fun h => absurd h.2.1 c_5b)
      refine cwVi (As := [.int sheet, .int lane, .int i, .int (2 * n), .int 0]) (rest := []) ⟨hx, hb, hml, hown, hts⟩ (c_X6_rowTrouble l E _ g0 h0 k0 gs ht hd ho hr fo wy tr lf sa hs qs th la ln j sheet lane i (2 * n) 0 (by first | assumption | omega) (by first | assumption | omega) (by first | assumption | omega)) (cwV 5 hts gX6_added_X6_rowTrouble rfl rfl rfl (by decide +kernel) ⟨Nat.le_of_ble_eq_true rfl, Nat.le_of_ble_eq_true rfl⟩) hK hP hD hS hA [0, 1, 2] (by decide) rfl [g0, gs, hs] (fun _ => rfl) rfl 0 rfl rfl rfl rfl hl.1 rfl (catLe (Nat.le_of_ble_eq_true rfl)) dX6_added_40 ⟨Nat.zero_le _, Nat.zero_le _⟩ (fun r_6 u_7 H locs hwr_6 hP hD hS => ?_)
      have hP : va_P E.1 vwCl [ob g0 6 [.ref h0, .ref k0, .ref gs, .ref ht, .ref hd, .ref ho, .ref hr, .ref fo, .ref wy, .int tr, .int (fltF (rtK sheet lane i (2 * n) 0 th la ln))], aq E gs 4 sa, ob hs 3 [.ref qs, .int th, .int la, .int (nI ln)], ar E qs 60 ce, ob h0 5 [.ref a0, .ref a1, .ref a2, .ref a3, .ref a4, .int (nI nw), .int mo], ar E a2 6 pu, ar E a3 6 ro, ar E a4 6 wo] H := hP
      have hD : va_D A [ob g0 6 [.ref h0, .ref k0, .ref gs, .ref ht, .ref hd, .ref ho, .ref hr, .ref fo, .ref wy, .int tr, .int (fltF (rtK sheet lane i (2 * n) 0 th la ln))], aq E gs 4 sa, ob hs 3 [.ref qs, .int th, .int la, .int (nI ln)], ar E qs 60 ce, ob h0 5 [.ref a0, .ref a1, .ref a2, .ref a3, .ref a4, .int (nI nw), .int mo], ar E a2 6 pu, ar E a3 6 ro, ar E a4 6 wo] := hD
      subst hwr_6
      refine lv_istore (lv' := [(7, .int (rtK sheet lane i (2 * n) 0 th la ln)), (6, .int 0), (0, .ref g0), (1, .int sheet), (2, .int lane), (3, .int i), (4, .int n), (5, .int what)]) hx hb dX6_added_43 hl (by decide) rfl (fun ls hl => ?_)
      refine lv_iload hx hb dX6_added_45 (lv_at hl 0 rfl) ?_
      refine lv_if_eq (tgt := 53) hx hb dX6_added_47 (by decide) (fun c_8 => ?_) (fun c_8 => ?_)
      ·
        have hz := rtK_0 c_8
        exact absurd rfl hz.2.2.1
      ·
        refine lv_iload hx hb dX6_added_50 (lv_at hl 0 rfl) ?_
        exact hret _ _ _ _ _ () dX6_added_52 hS (by rw [ha]; exact hP) (by rw [spAdded, ha, if_pos c_8])
    ·
      have c_5b := Int32.not_lt.mp c_5
      refine lv_iload hx hb dX6_added_12 (lv_at hl 5 rfl) ?_
      refine lv_if_lt (tgt := 27) hx hb dX6_added_14 (by decide) (fun c_9 => ?_) (fun c_9 => ?_)
      ·
        have c_9b := Int32.not_le.mpr c_9
        refine lv_iconst (v := 0) hx hb dX6_added_27 (by decide) ?_
        refine lv_istore (lv' := [(6, .int 0), (0, .ref g0), (1, .int sheet), (2, .int lane), (3, .int i), (4, .int n), (5, .int what)]) hx hb dX6_added_28 hl (by decide) rfl (fun ls hl => ?_)
        refine lv_aload_n hx hb dX6_added_30 rfl (lv_at hl 1 rfl) ?_
        refine lv_iload_n hx hb dX6_added_31 rfl (lv_at hl 2 rfl) ?_
        refine lv_iload_n hx hb dX6_added_32 rfl (lv_at hl 3 rfl) ?_
        refine lv_iload_n hx hb dX6_added_33 rfl (lv_at hl 4 rfl) ?_
        refine lv_iconst (v := 2) hx hb dX6_added_34 (by decide) ?_
        refine lv_iload hx hb dX6_added_35 (lv_at hl 5 rfl) ?_
        refine lv_imul hx hb dX6_added_37 ?_
        refine lv_iload hx hb dX6_added_38 (lv_at hl 0 rfl) ?_
        have ha : (if adT n what then (1 : Int32) else 0) = 0 := if_neg (fun h => h.2.2.1 c_9)
        refine cwVi (As := [.int sheet, .int lane, .int i, .int (2 * n), .int 0]) (rest := []) ⟨hx, hb, hml, hown, hts⟩ (c_X6_rowTrouble l E _ g0 h0 k0 gs ht hd ho hr fo wy tr lf sa hs qs th la ln j sheet lane i (2 * n) 0 (by first | assumption | omega) (by first | assumption | omega) (by first | assumption | omega)) (cwV 5 hts gX6_added_X6_rowTrouble rfl rfl rfl (by decide +kernel) ⟨Nat.le_of_ble_eq_true rfl, Nat.le_of_ble_eq_true rfl⟩) hK hP hD hS hA [0, 1, 2] (by decide) rfl [g0, gs, hs] (fun _ => rfl) rfl 0 rfl rfl rfl rfl hl.1 rfl (catLe (Nat.le_of_ble_eq_true rfl)) dX6_added_40 ⟨Nat.zero_le _, Nat.zero_le _⟩ (fun r_10 u_11 H locs hwr_10 hP hD hS => ?_)
        have hP : va_P E.1 vwCl [ob g0 6 [.ref h0, .ref k0, .ref gs, .ref ht, .ref hd, .ref ho, .ref hr, .ref fo, .ref wy, .int tr, .int (fltF (rtK sheet lane i (2 * n) 0 th la ln))], aq E gs 4 sa, ob hs 3 [.ref qs, .int th, .int la, .int (nI ln)], ar E qs 60 ce, ob h0 5 [.ref a0, .ref a1, .ref a2, .ref a3, .ref a4, .int (nI nw), .int mo], ar E a2 6 pu, ar E a3 6 ro, ar E a4 6 wo] H := hP
        have hD : va_D A [ob g0 6 [.ref h0, .ref k0, .ref gs, .ref ht, .ref hd, .ref ho, .ref hr, .ref fo, .ref wy, .int tr, .int (fltF (rtK sheet lane i (2 * n) 0 th la ln))], aq E gs 4 sa, ob hs 3 [.ref qs, .int th, .int la, .int (nI ln)], ar E qs 60 ce, ob h0 5 [.ref a0, .ref a1, .ref a2, .ref a3, .ref a4, .int (nI nw), .int mo], ar E a2 6 pu, ar E a3 6 ro, ar E a4 6 wo] := hD
        subst hwr_10
        refine lv_istore (lv' := [(7, .int (rtK sheet lane i (2 * n) 0 th la ln)), (6, .int 0), (0, .ref g0), (1, .int sheet), (2, .int lane), (3, .int i), (4, .int n), (5, .int what)]) hx hb dX6_added_43 hl (by decide) rfl (fun ls hl => ?_)
        refine lv_iload hx hb dX6_added_45 (lv_at hl 0 rfl) ?_
        refine lv_if_eq (tgt := 53) hx hb dX6_added_47 (by decide) (fun c_12 => ?_) (fun c_12 => ?_)
        ·
          have hz := rtK_0 c_12
          exact absurd rfl hz.2.2.1
        ·
          refine lv_iload hx hb dX6_added_50 (lv_at hl 0 rfl) ?_
          exact hret _ _ _ _ _ () dX6_added_52 hS (by rw [ha]; exact hP) (by rw [spAdded, ha, if_pos c_12])
      ·
        have c_9b := Int32.not_lt.mp c_9
        refine lv_iload hx hb dX6_added_17 (lv_at hl 5 rfl) ?_
        refine lv_iconst (v := 2) hx hb dX6_added_19 (by decide) ?_
        refine lv_icmp_gt (tgt := 27) hx hb dX6_added_20 (by decide) (fun c_13 => ?_) (fun c_13 => ?_)
        ·
          have c_13b := Int32.not_le.mpr c_13
          refine lv_iconst (v := 0) hx hb dX6_added_27 (by decide) ?_
          refine lv_istore (lv' := [(6, .int 0), (0, .ref g0), (1, .int sheet), (2, .int lane), (3, .int i), (4, .int n), (5, .int what)]) hx hb dX6_added_28 hl (by decide) rfl (fun ls hl => ?_)
          refine lv_aload_n hx hb dX6_added_30 rfl (lv_at hl 1 rfl) ?_
          refine lv_iload_n hx hb dX6_added_31 rfl (lv_at hl 2 rfl) ?_
          refine lv_iload_n hx hb dX6_added_32 rfl (lv_at hl 3 rfl) ?_
          refine lv_iload_n hx hb dX6_added_33 rfl (lv_at hl 4 rfl) ?_
          refine lv_iconst (v := 2) hx hb dX6_added_34 (by decide) ?_
          refine lv_iload hx hb dX6_added_35 (lv_at hl 5 rfl) ?_
          refine lv_imul hx hb dX6_added_37 ?_
          refine lv_iload hx hb dX6_added_38 (lv_at hl 0 rfl) ?_
          have ha : (if adT n what then (1 : Int32) else 0) = 0 := if_neg (fun h => absurd h.2.2.2 c_13b)
          refine cwVi (As := [.int sheet, .int lane, .int i, .int (2 * n), .int 0]) (rest := []) ⟨hx, hb, hml, hown, hts⟩ (c_X6_rowTrouble l E _ g0 h0 k0 gs ht hd ho hr fo wy tr lf sa hs qs th la ln j sheet lane i (2 * n) 0 (by first | assumption | omega) (by first | assumption | omega) (by first | assumption | omega)) (cwV 5 hts gX6_added_X6_rowTrouble rfl rfl rfl (by decide +kernel) ⟨Nat.le_of_ble_eq_true rfl, Nat.le_of_ble_eq_true rfl⟩) hK hP hD hS hA [0, 1, 2] (by decide) rfl [g0, gs, hs] (fun _ => rfl) rfl 0 rfl rfl rfl rfl hl.1 rfl (catLe (Nat.le_of_ble_eq_true rfl)) dX6_added_40 ⟨Nat.zero_le _, Nat.zero_le _⟩ (fun r_14 u_15 H locs hwr_14 hP hD hS => ?_)
          have hP : va_P E.1 vwCl [ob g0 6 [.ref h0, .ref k0, .ref gs, .ref ht, .ref hd, .ref ho, .ref hr, .ref fo, .ref wy, .int tr, .int (fltF (rtK sheet lane i (2 * n) 0 th la ln))], aq E gs 4 sa, ob hs 3 [.ref qs, .int th, .int la, .int (nI ln)], ar E qs 60 ce, ob h0 5 [.ref a0, .ref a1, .ref a2, .ref a3, .ref a4, .int (nI nw), .int mo], ar E a2 6 pu, ar E a3 6 ro, ar E a4 6 wo] H := hP
          have hD : va_D A [ob g0 6 [.ref h0, .ref k0, .ref gs, .ref ht, .ref hd, .ref ho, .ref hr, .ref fo, .ref wy, .int tr, .int (fltF (rtK sheet lane i (2 * n) 0 th la ln))], aq E gs 4 sa, ob hs 3 [.ref qs, .int th, .int la, .int (nI ln)], ar E qs 60 ce, ob h0 5 [.ref a0, .ref a1, .ref a2, .ref a3, .ref a4, .int (nI nw), .int mo], ar E a2 6 pu, ar E a3 6 ro, ar E a4 6 wo] := hD
          subst hwr_14
          refine lv_istore (lv' := [(7, .int (rtK sheet lane i (2 * n) 0 th la ln)), (6, .int 0), (0, .ref g0), (1, .int sheet), (2, .int lane), (3, .int i), (4, .int n), (5, .int what)]) hx hb dX6_added_43 hl (by decide) rfl (fun ls hl => ?_)
          refine lv_iload hx hb dX6_added_45 (lv_at hl 0 rfl) ?_
          refine lv_if_eq (tgt := 53) hx hb dX6_added_47 (by decide) (fun c_16 => ?_) (fun c_16 => ?_)
          ·
            have hz := rtK_0 c_16
            exact absurd rfl hz.2.2.1
          ·
            refine lv_iload hx hb dX6_added_50 (lv_at hl 0 rfl) ?_
            exact hret _ _ _ _ _ () dX6_added_52 hS (by rw [ha]; exact hP) (by rw [spAdded, ha, if_pos c_16])
        ·
          have c_13b := Int32.not_lt.mp c_13
          refine lv_iconst (v := 1) hx hb dX6_added_23 (by decide) ?_
          refine lv_goto (tgt := 28) hx hb dX6_added_24 (by decide) ?_
          refine lv_istore (lv' := [(6, .int 1), (0, .ref g0), (1, .int sheet), (2, .int lane), (3, .int i), (4, .int n), (5, .int what)]) hx hb dX6_added_28 hl (by decide) rfl (fun ls hl => ?_)
          refine lv_aload_n hx hb dX6_added_30 rfl (lv_at hl 1 rfl) ?_
          refine lv_iload_n hx hb dX6_added_31 rfl (lv_at hl 2 rfl) ?_
          refine lv_iload_n hx hb dX6_added_32 rfl (lv_at hl 3 rfl) ?_
          refine lv_iload_n hx hb dX6_added_33 rfl (lv_at hl 4 rfl) ?_
          refine lv_iconst (v := 2) hx hb dX6_added_34 (by decide) ?_
          refine lv_iload hx hb dX6_added_35 (lv_at hl 5 rfl) ?_
          refine lv_imul hx hb dX6_added_37 ?_
          refine lv_iload hx hb dX6_added_38 (lv_at hl 0 rfl) ?_
          have ha : (if adT n what then (1 : Int32) else 0) = 1 := if_pos ⟨c_1, c_5b, c_9, c_13b⟩
          refine cwVi (As := [.int sheet, .int lane, .int i, .int (2 * n), .int 1]) (rest := []) ⟨hx, hb, hml, hown, hts⟩ (c_X6_rowTrouble l E _ g0 h0 k0 gs ht hd ho hr fo wy tr lf sa hs qs th la ln j sheet lane i (2 * n) 1 (by first | assumption | omega) (by first | assumption | omega) (by first | assumption | omega)) (cwV 5 hts gX6_added_X6_rowTrouble rfl rfl rfl (by decide +kernel) ⟨Nat.le_of_ble_eq_true rfl, Nat.le_of_ble_eq_true rfl⟩) hK hP hD hS hA [0, 1, 2] (by decide) rfl [g0, gs, hs] (fun _ => rfl) rfl 0 rfl rfl rfl rfl hl.1 rfl (catLe (Nat.le_of_ble_eq_true rfl)) dX6_added_40 ⟨Nat.zero_le _, Nat.zero_le _⟩ (fun r_17 u_18 H locs hwr_17 hP hD hS => ?_)
          have hP : va_P E.1 vwCl [ob g0 6 [.ref h0, .ref k0, .ref gs, .ref ht, .ref hd, .ref ho, .ref hr, .ref fo, .ref wy, .int tr, .int (fltF (rtK sheet lane i (2 * n) 1 th la ln))], aq E gs 4 sa, ob hs 3 [.ref qs, .int th, .int la, .int (nI ln)], ar E qs 60 ce, ob h0 5 [.ref a0, .ref a1, .ref a2, .ref a3, .ref a4, .int (nI nw), .int mo], ar E a2 6 pu, ar E a3 6 ro, ar E a4 6 wo] H := hP
          have hD : va_D A [ob g0 6 [.ref h0, .ref k0, .ref gs, .ref ht, .ref hd, .ref ho, .ref hr, .ref fo, .ref wy, .int tr, .int (fltF (rtK sheet lane i (2 * n) 1 th la ln))], aq E gs 4 sa, ob hs 3 [.ref qs, .int th, .int la, .int (nI ln)], ar E qs 60 ce, ob h0 5 [.ref a0, .ref a1, .ref a2, .ref a3, .ref a4, .int (nI nw), .int mo], ar E a2 6 pu, ar E a3 6 ro, ar E a4 6 wo] := hD
          subst hwr_17
          refine lv_istore (lv' := [(7, .int (rtK sheet lane i (2 * n) 1 th la ln)), (6, .int 1), (0, .ref g0), (1, .int sheet), (2, .int lane), (3, .int i), (4, .int n), (5, .int what)]) hx hb dX6_added_43 hl (by decide) rfl (fun ls hl => ?_)
          refine lv_iload hx hb dX6_added_45 (lv_at hl 0 rfl) ?_
          refine lv_if_eq (tgt := 53) hx hb dX6_added_47 (by decide) (fun c_19 => ?_) (fun c_19 => ?_)
          ·
            have hz := rtK_0 c_19
            have hsh := hjs hz.1
            subst hsh
            obtain ⟨m_, hm, rfl⟩ := le_nat (n := 10) (M := 10) rfl c_1 c_5b
            obtain ⟨a, rfl, hab⟩ := reach2 (b := 2 * m_) (by have h := hz.2.2.2.2.2; rwa [show (2 : Int32) * nI m_ = nI (2 * m_) from pk_mul 2 m_] at h) h60 (by omega)
            have hixa : ix (nI a) = a := ix_nI (by omega)
            have hixm : ix (nI m_) = m_ := ix_nI (by omega)
            have hn6 := hg.1
            refine lv_aload_n hx hb dX6_added_53 rfl (lv_at hl 2 rfl) ?_
            refine va_get (D := E.1) (ci := 6) (v := .ref h0) (C := RX6) (T := TX6) (N := 11) hx hb hts hinX6 hown hK.1 hP 0 rfl rfl 0 (by decide) fl_12 (fun _ h9 => h9) rfl dX6_added_54 ?_
            refine va_get (D := E.1) (ci := 5) (v := .int (nI nw)) (C := RX5) (T := TX5) (N := 7) hx hb hts hinX5 hown hK.1 hP 4 rfl rfl 5 (by decide) fl_89 (fun _ h9 => h9) rfl dX6_added_57 ?_
            refine ifN_ne (tgt := 66) (a := nw) hx hb rfl (by omega) dX6_added_60 (by decide) (fun c_20 => ?_) (fun c_20 => ?_)
            ·
              refine lv_aload_n hx hb dX6_added_66 rfl (lv_at hl 2 rfl) ?_
              refine va_get (D := E.1) (ci := 6) (v := .ref gs) (C := RX6) (T := TX6) (N := 11) hx hb hts hinX6 hown hK.1 hP 0 rfl rfl 2 (by decide) fl_23 (fun _ h9 => h9) rfl dX6_added_67 ?_
              refine lv_iload_n hx hb dX6_added_70 rfl (lv_at hl 3 rfl) ?_
              refine ald hx hb hK hP 1 rfl (j := j) rfl (by omega) (by decide) (v := hs) hsa dX6_added_71 ?_
              refine lv_astore (lv' := [(8, .ref hs), (7, .int (rtK (nI j) lane (nI a) (2 * (nI m_)) 1 th la ln)), (6, .int 1), (0, .ref g0), (1, .int (nI j)), (2, .int lane), (3, .int (nI a)), (4, .int (nI m_)), (5, .int what)]) hx hb dX6_added_72 hl (by decide) rfl (fun ls hl => ?_)
              refine lv_iconst (v := 0) hx hb dX6_added_74 (by decide) ?_
              refine lv_istore (lv' := [(9, .int 0), (8, .ref hs), (7, .int (rtK (nI j) lane (nI a) (2 * (nI m_)) 1 th la ln)), (6, .int 1), (0, .ref g0), (1, .int (nI j)), (2, .int lane), (3, .int (nI a)), (4, .int (nI m_)), (5, .int what)]) hx hb dX6_added_75 hl (by decide) rfl (fun ls hl => ?_)
              have L77 : ∀ (fuel : Nat) (z_ : Nat), (z_ ≤ m_) → (∀ q, q < z_ → hasP nw (ce (a + 2 * q))) → (m_ - z_) < fuel → ∀ (H : Heap) (locs : List Loc), va_P E.1 vwCl [ob g0 6 [.ref h0, .ref k0, .ref gs, .ref ht, .ref hd, .ref ho, .ref hr, .ref fo, .ref wy, .int tr, .int (fltF (rtK (nI j) lane (nI a) (2 * (nI m_)) 1 th la ln))], aq E gs 4 sa, ob hs 3 [.ref qs, .int th, .int la, .int (nI ln)], ar E qs 60 ce, ob h0 5 [.ref a0, .ref a1, .ref a2, .ref a3, .ref a4, .int (nI nw), .int mo], ar E a2 6 pu, ar E a3 6 ro, ar E a4 6 wo] H → va_D A [ob g0 6 [.ref h0, .ref k0, .ref gs, .ref ht, .ref hd, .ref ho, .ref hr, .ref fo, .ref wy, .int tr, .int (fltF (rtK (nI j) lane (nI a) (2 * (nI m_)) 1 th la ln))], aq E gs 4 sa, ob hs 3 [.ref qs, .int th, .int la, .int (nI ln)], ar E qs 60 ce, ob h0 5 [.ref a0, .ref a1, .ref a2, .ref a3, .ref a4, .int (nI nw), .int mo], ar E a2 6 pu, ar E a3 6 ro, ar E a4 6 wo] → va_S A s.heap H locs → ∀ ls : Array Slot, lv_has ls 10 [(9, .int (nI z_)), (8, .ref hs), (7, .int (rtK (nI j) lane (nI a) (2 * (nI m_)) 1 th la ln)), (6, .int 1), (0, .ref g0), (1, .int (nI j)), (2, .int lane), (3, .int (nI a)), (4, .int (nI m_)), (5, .int what)] → W p l e ({ frames := 4, cells := 0, slots := 0, locals := 98 }) s m args below meth c H locs 0 0 QQ (F0 m 77 ls []) := by
                intro fuel
                induction fuel with
                | zero => intro z_ hzm hvw hf; exact absurd hf (Nat.not_lt_zero _)
                | succ fuel ih77 =>
                  intro z_ hzm hvw hf77 H locs hP hD hS ls hl
                  refine lv_iload hx hb dX6_added_77 (lv_at hl 0 rfl) ?_
                  refine lv_iload hx hb dX6_added_79 (lv_at hl 8 rfl) ?_
                  refine icmpN_ge (tgt := 113) (a := z_) (b := m_) hx hb rfl rfl (by omega) (by omega) dX6_added_81 (by decide) (fun c_21 => ?_) (fun c_21 => ?_)
                  ·
                    obtain rfl : m_ = z_ := by omega
                    refine lv_aload_n hx hb dX6_added_113 rfl (lv_at hl 4 rfl) ?_
                    refine lv_aload hx hb dX6_added_114 (lv_at hl 1 rfl) ?_
                    refine lv_iload_n hx hb dX6_added_116 rfl (lv_at hl 7 rfl) ?_
                    refine lv_iload hx hb dX6_added_117 (lv_at hl 8 rfl) ?_
                    refine lv_iload hx hb dX6_added_119 (lv_at hl 9 rfl) ?_
                    refine crV (As := [.ref hs, .int (nI a), .int (nI m_), .int what]) (rest := []) ⟨hx, hb, hml, hown, hts⟩ (c_X6_ofAdded l E g0 h0 k0 gs ht hd ho hr fo wy tr (fltF (rtK (nI j) lane (nI a) (2 * (nI m_)) 1 th la ln)) a0 a1 a2 a3 a4 nw mo pu ro wo hs qs th la ln ce a m_ what (by first | assumption | omega) (by first | assumption | omega) (by omega) (by first | assumption | omega)) (cwV 4 hts gX6_added_X6_ofAdded rfl rfl rfl (by decide +kernel) ⟨Nat.le_of_ble_eq_true rfl, Nat.le_of_ble_eq_true rfl⟩) hK hP [0, 4, 5, 6, 7, 2, 3] rfl 0 rfl rfl rfl rfl hl.1 rfl (catLe (Nat.le_of_ble_eq_true rfl)) dX6_added_121 ⟨Nat.zero_le _, Nat.zero_le _⟩ (fun r_22 hr_22 => ?_)
                    subst hr_22
                    exact hret _ _ _ _ _ () dX6_added_124 hS (by rw [ha]; exact hP) (by rw [spAdded, ha, if_neg (not_not_intro c_19), if_neg (by omega), hixa, hixm, if_neg (not_not_intro hvw)])
                  ·
                    refine lv_aload_n hx hb dX6_added_84 rfl (lv_at hl 4 rfl) ?_
                    refine va_get (D := E.1) (ci := 6) (v := .ref h0) (C := RX6) (T := TX6) (N := 11) hx hb hts hinX6 hown hK.1 hP 0 rfl rfl 0 (by decide) fl_12 (fun _ h9 => h9) rfl dX6_added_85 ?_
                    refine lv_aload hx hb dX6_added_88 (lv_at hl 1 rfl) ?_
                    refine lv_iload_n hx hb dX6_added_90 rfl (lv_at hl 7 rfl) ?_
                    refine lv_iconst (v := 2) hx hb dX6_added_91 (by decide) ?_
                    refine lv_iload hx hb dX6_added_92 (lv_at hl 0 rfl) ?_
                    refine N_imul (a := 2) (b := z_) hx hb rfl rfl dX6_added_94 ?_
                    refine N_iadd (a := a) (b := 2 * z_) hx hb rfl rfl dX6_added_95 ?_
                    refine crV (As := [.int (nI (a + (2 * z_)))]) (rest := [.ref h0]) ⟨hx, hb, hml, hown, hts⟩ (c_X3_at l E hs qs th la ln ce (nI (a + (2 * z_))) (a + (2 * z_)) (by first | assumption | omega) (by first | assumption | omega) rfl) (cwV 1 hts gX6_added_X3_at rfl rfl rfl (by decide +kernel) ⟨Nat.le_of_ble_eq_true rfl, Nat.le_of_ble_eq_true rfl⟩) hK hP [2, 3] rfl 0 rfl rfl rfl rfl hl.1 rfl (catLe (Nat.le_of_ble_eq_true rfl)) dX6_added_96 ⟨Nat.zero_le _, Nat.zero_le _⟩ (fun r_23 hr_23 => ?_)
                    subst hr_23
                    refine crV (As := [.int (ce (a + (2 * z_)))]) (rest := []) ⟨hx, hb, hml, hown, hts⟩ (c_X5_has l E h0 a0 a1 a2 a3 a4 nw mo (ce (a + (2 * z_))) (by first | assumption | omega)) (cwV 1 hts gX6_added_X5_has rfl rfl rfl (by decide +kernel) ⟨Nat.le_of_ble_eq_true rfl, Nat.le_of_ble_eq_true rfl⟩) hK hP [4] rfl 0 rfl rfl rfl rfl hl.1 rfl (catLe (Nat.le_of_ble_eq_true rfl)) dX6_added_99 ⟨Nat.zero_le _, Nat.zero_le _⟩ (fun r_24 hr_24 => ?_)
                    subst hr_24
                    refine ifB_ne (P := hasP nw (ce (a + (2 * z_)))) (tgt := 107) hx hb dX6_added_102 (by decide) (fun c_25 => ?_) (fun c_25 => ?_)
                    ·
                      refine lv_iinc (v := nI (z_ + 1)) (lv' := [(9, .int (nI (z_ + 1))), (8, .ref hs), (7, .int (rtK (nI j) lane (nI a) (2 * (nI m_)) 1 th la ln)), (6, .int 1), (0, .ref g0), (1, .int (nI j)), (2, .int lane), (3, .int (nI a)), (4, .int (nI m_)), (5, .int what)]) hx hb dX6_added_107 hl (k := 0) rfl (nI_inc z_) (by decide) rfl (fun ls hl => ?_)
                      refine lv_goto (tgt := 77) hx hb dX6_added_110 (by decide) ?_
                      exact ih77 (z_ + 1) (by omega) (lt_s hvw c_25) (by omega) _ _ hP hD hS ls (lv_sub hl [0, 1, 2, 3, 4, 5, 6, 7, 8, 9] rfl)
                    ·
                      refine lv_iconst (v := (-1)) hx hb dX6_added_105 (by decide) ?_
                      exact hret _ _ _ _ _ () dX6_added_106 hS (by rw [ha]; exact hP) (by rw [spAdded, ha, if_neg (not_not_intro c_19), if_neg (by omega), hixa, hixm, if_pos (fun h => c_25 (h z_ (by omega)))])
              exact L77 _ 0 (by omega) (fun w h => absurd h (Nat.not_lt_zero w)) (Nat.lt_succ_self _) _ _ hP hD hS ls (lv_sub hl [0, 1, 2, 3, 4, 5, 6, 7, 8, 9] rfl)
            ·
              refine lv_bipush (v := (-3)) hx hb dX6_added_63 (by decide) ?_
              exact hret _ _ _ _ _ () dX6_added_65 hS (by rw [ha]; exact hP) (by rw [spAdded, ha, if_neg (not_not_intro c_19), if_pos (by omega)])
          ·
            refine lv_iload hx hb dX6_added_50 (lv_at hl 0 rfl) ?_
            exact hret _ _ _ _ _ () dX6_added_52 hS (by rw [ha]; exact hP) (by rw [spAdded, ha, if_pos c_19])
set_option maxHeartbeats 4000000 in
set_option maxRecDepth 100000 in
theorem c_X6_couldBe (l : Launch) (E : gE) (sz : Nat) (g0 : Nat) (h0 : Nat) (k0 : Nat) (gs : Nat) (ht : Nat) (hd : Nat) (ho : Nat) (hr : Nat) (fo : Nat) (wy : Nat) (tr : Int32) (lf : Int32) (a0 : Nat) (a1 : Nat) (a2 : Nat) (a3 : Nat) (a4 : Nat) (n : Nat) (mo : Int32) (kd : Nat → Int32) (mn : Nat → Int32) (pu : Nat → Int32) (ro : Nat → Int32) (wo : Nat → Int32) (b0 : Nat) (b1 : Nat) (b2 : Nat) (b3 : Nat) (b4 : Nat) (n2 : Nat) (mo2 : Int32) (kd2 : Nat → Int32) (mn2 : Nat → Int32) (pu2 : Nat → Int32) (ro2 : Nat → Int32) (wo2 : Nat → Int32) (s0 : Nat) (s1 : Nat) (s2 : Nat) (rc : Nat) (rs : Nat → Int32) (rw : Nat → Int32) (rf : Nat → Int32) (j : Nat) (kk : Int32) (mm : Int32) (hj : j < n) (hFR : FR n (upd kd j kk) (upd mn j mm)) (hrc : rc ≤ 8) (hrw : rwP n rw rc) : Met l yX6_couldBe wsX6_couldBe ({ frames := 3, cells := 0, slots := 0, locals := 66 }) (PW E [.ref g0, .int (nI j), .int kk, .int mm] [ob g0 6 [.ref h0, .ref k0, .ref gs, .ref ht, .ref hd, .ref ho, .ref hr, .ref fo, .ref wy, .int tr, .int lf], ob h0 5 [.ref a0, .ref a1, .ref a2, .ref a3, .ref a4, .int (nI n), .int mo], ar E a0 6 kd, ar E a1 6 mn, ar E a2 6 pu, ar E a3 6 ro, ar E a4 6 wo, ob k0 5 [.ref b0, .ref b1, .ref b2, .ref b3, .ref b4, .int (nI n2), .int mo2], ar E b0 6 kd2, ar E b1 6 mn2, ar E b2 6 pu2, ar E b3 6 ro2, ar E b4 6 wo2, ob hr 2 [.ref s0, .ref s1, .ref s2, .int (nI rc)], ar E s0 8 rs, ar E s1 8 rw, ar E s2 8 rf] sz) (QWi E (fun r _ => r = if cbP n (upd kd j kk) (upd mn j mm) pu rs rw rf rc then 1 else 0) (fun (u : (Nat) × (Int32) × (Nat → Int32) × (Nat → Int32) × (Nat → Int32) × (Nat → Int32) × (Nat → Int32)) => [ob g0 6 [.ref h0, .ref k0, .ref gs, .ref ht, .ref hd, .ref ho, .ref hr, .ref fo, .ref wy, .int tr, .int lf], ob h0 5 [.ref a0, .ref a1, .ref a2, .ref a3, .ref a4, .int (nI n), .int mo], ar E a0 6 kd, ar E a1 6 mn, ar E a2 6 pu, ar E a3 6 ro, ar E a4 6 wo, ob k0 5 [.ref b0, .ref b1, .ref b2, .ref b3, .ref b4, .int (nI u.1), .int u.2.1], ar E b0 6 u.2.2.1, ar E b1 6 u.2.2.2.1, ar E b2 6 u.2.2.2.2.1, ar E b3 6 u.2.2.2.2.2.1, ar E b4 6 u.2.2.2.2.2.2, ob hr 2 [.ref s0, .ref s1, .ref s2, .int (nI rc)], ar E s0 8 rs, ar E s1 8 rw, ar E s2 8 rf]) (va_A [ob g0 6 [.ref h0, .ref k0, .ref gs, .ref ht, .ref hd, .ref ho, .ref hr, .ref fo, .ref wy, .int tr, .int lf], ob h0 5 [.ref a0, .ref a1, .ref a2, .ref a3, .ref a4, .int (nI n), .int mo], ar E a0 6 kd, ar E a1 6 mn, ar E a2 6 pu, ar E a3 6 ro, ar E a4 6 wo, ob k0 5 [.ref b0, .ref b1, .ref b2, .ref b3, .ref b4, .int (nI n2), .int mo2], ar E b0 6 kd2, ar E b1 6 mn2, ar E b2 6 pu2, ar E b3 6 ro2, ar E b4 6 wo2, ob hr 2 [.ref s0, .ref s1, .ref s2, .int (nI rc)], ar E s0 8 rs, ar E s1 8 rw, ar E s2 8 rf] sz)) 0 0 (va_A [ob g0 6 [.ref h0, .ref k0, .ref gs, .ref ht, .ref hd, .ref ho, .ref hr, .ref fo, .ref wy, .int tr, .int lf], ob h0 5 [.ref a0, .ref a1, .ref a2, .ref a3, .ref a4, .int (nI n), .int mo], ar E a0 6 kd, ar E a1 6 mn, ar E a2 6 pu, ar E a3 6 ro, ar E a4 6 wo, ob k0 5 [.ref b0, .ref b1, .ref b2, .ref b3, .ref b4, .int (nI n2), .int mo2], ar E b0 6 kd2, ar E b1 6 mn2, ar E b2 6 pu2, ar E b3 6 ro2, ar E b4 6 wo2, ob hr 2 [.ref s0, .ref s1, .ref s2, .int (nI rc)], ar E s0 8 rs, ar E s1 8 rw, ar E s2 8 rf] sz) := by
  refine mkWz (cc := cX6_couldBe) (maxL := 4) (by decide) rfl (Nat.le_of_ble_eq_true rfl) ?_
  intro p e s m args below meth c QQ A hx hb hml hown hmn hts hK hA hP hD hS hret ls hl
  have hown : s.vm.findClass RX6 = some m.cls := hown
  have hl : lv_has ls 4 [(0, .ref g0), (1, .int (nI j)), (2, .int kk), (3, .int mm)] := hl
  have hinX5 : ∀ w ∈ wsX50, w ∈ wsX6_couldBe := by decide +kernel
  have hinX6 : ∀ w ∈ wsX60, w ∈ wsX6_couldBe := by decide +kernel
  have fl_12 := hts (.fieldLink RX6 12 "GuardAbacus" "wires" "LGuardAbacus$Wires;") (by decide +kernel)
  have fl_18 := hts (.fieldLink RX6 18 "GuardAbacus" "trial" "LGuardAbacus$Wires;") (by decide +kernel)
  have fl_51 := hts (.fieldLink RX6 51 "GuardAbacus" "readings" "LGuardAbacus$Readings;") (by decide +kernel)
  have fl_94 := hts (.fieldLink RX6 94 "GuardAbacus$Wires" "kind" "[I") (by decide +kernel)
  have fl_97 := hts (.fieldLink RX6 97 "GuardAbacus$Wires" "men" "[I") (by decide +kernel)
  have hn := hFR.1
  refine lv_aload_n hx hb dX6_couldBe_0 rfl (lv_at hl 0 rfl) ?_
  refine va_get (D := E.1) (ci := 6) (v := .ref k0) (C := RX6) (T := TX6) (N := 11) hx hb hts hinX6 hown hK.1 hP 0 rfl rfl 1 (by decide) fl_18 (fun _ h9 => h9) rfl dX6_couldBe_1 ?_
  refine lv_aload_n hx hb dX6_couldBe_4 rfl (lv_at hl 0 rfl) ?_
  refine va_get (D := E.1) (ci := 6) (v := .ref h0) (C := RX6) (T := TX6) (N := 11) hx hb hts hinX6 hown hK.1 hP 0 rfl rfl 0 (by decide) fl_12 (fun _ h9 => h9) rfl dX6_couldBe_5 ?_
  refine cwVv (As := [.ref h0]) (rest := []) ⟨hx, hb, hml, hown, hts⟩ (c_X5_become l E _ k0 b0 b1 b2 b3 b4 n2 mo2 kd2 mn2 pu2 ro2 wo2 h0 a0 a1 a2 a3 a4 n mo kd mn pu (by first | assumption | omega)) (cwV 1 hts gX6_couldBe_X5_become rfl rfl rfl (by decide +kernel) ⟨Nat.le_of_ble_eq_true rfl, Nat.le_of_ble_eq_true rfl⟩) hK hP hD hS hA [7, 8, 9, 10, 11, 12, 1, 2, 3, 4] (by decide) rfl [k0, b0, b1, b2, b3, b4, h0, a0, a1, a2] (fun _ => rfl) rfl 0 rfl rfl rfl rfl hl.1 rfl (catLe (Nat.le_of_ble_eq_true rfl)) dX6_couldBe_8 ⟨Nat.zero_le _, Nat.zero_le _⟩ (fun u_2 H locs hwr_1 hP hD hS => ?_)
  have hP : va_P E.1 vwCl [ob g0 6 [.ref h0, .ref k0, .ref gs, .ref ht, .ref hd, .ref ho, .ref hr, .ref fo, .ref wy, .int tr, .int lf], ob h0 5 [.ref a0, .ref a1, .ref a2, .ref a3, .ref a4, .int (nI n), .int mo], ar E a0 6 kd, ar E a1 6 mn, ar E a2 6 pu, ar E a3 6 ro, ar E a4 6 wo, ob k0 5 [.ref b0, .ref b1, .ref b2, .ref b3, .ref b4, .int (nI n), .int (woF kd mn n - 1)], ar E b0 6 kd, ar E b1 6 mn, ar E b2 6 pu, ar E b3 6 (fil (rmF kd mn) ro2 n), ar E b4 6 (fil (woF kd mn) wo2 n), ob hr 2 [.ref s0, .ref s1, .ref s2, .int (nI rc)], ar E s0 8 rs, ar E s1 8 rw, ar E s2 8 rf] H := hP
  have hD : va_D A [ob g0 6 [.ref h0, .ref k0, .ref gs, .ref ht, .ref hd, .ref ho, .ref hr, .ref fo, .ref wy, .int tr, .int lf], ob h0 5 [.ref a0, .ref a1, .ref a2, .ref a3, .ref a4, .int (nI n), .int mo], ar E a0 6 kd, ar E a1 6 mn, ar E a2 6 pu, ar E a3 6 ro, ar E a4 6 wo, ob k0 5 [.ref b0, .ref b1, .ref b2, .ref b3, .ref b4, .int (nI n), .int (woF kd mn n - 1)], ar E b0 6 kd, ar E b1 6 mn, ar E b2 6 pu, ar E b3 6 (fil (rmF kd mn) ro2 n), ar E b4 6 (fil (woF kd mn) wo2 n), ob hr 2 [.ref s0, .ref s1, .ref s2, .int (nI rc)], ar E s0 8 rs, ar E s1 8 rw, ar E s2 8 rf] := hD
  refine lv_aload_n hx hb dX6_couldBe_11 rfl (lv_at hl 0 rfl) ?_
  refine va_get (D := E.1) (ci := 6) (v := .ref k0) (C := RX6) (T := TX6) (N := 11) hx hb hts hinX6 hown hK.1 hP 0 rfl rfl 1 (by decide) fl_18 (fun _ h9 => h9) rfl dX6_couldBe_12 ?_
  refine lv_iload_n hx hb dX6_couldBe_15 rfl (lv_at hl 1 rfl) ?_
  refine crV (As := [.int (nI j)]) (rest := []) ⟨hx, hb, hml, hown, hts⟩ (c_X5_has l E k0 b0 b1 b2 b3 b4 n (woF kd mn n - 1) (nI j) (by first | assumption | omega)) (cwV 1 hts gX6_couldBe_X5_has rfl rfl rfl (by decide +kernel) ⟨Nat.le_of_ble_eq_true rfl, Nat.le_of_ble_eq_true rfl⟩) hK hP [7] rfl 0 rfl rfl rfl rfl hl.1 rfl (catLe (Nat.le_of_ble_eq_true rfl)) dX6_couldBe_16 ⟨Nat.zero_le _, Nat.zero_le _⟩ (fun r_3 hr_3 => ?_)
  subst hr_3
  refine ifB_ne (P := hasP n (nI j)) (tgt := 24) hx hb dX6_couldBe_19 (by decide) (fun c_4 => ?_) (fun c_4 => ?_)
  ·
    refine lv_aload_n hx hb dX6_couldBe_24 rfl (lv_at hl 0 rfl) ?_
    refine va_get (D := E.1) (ci := 6) (v := .ref k0) (C := RX6) (T := TX6) (N := 11) hx hb hts hinX6 hown hK.1 hP 0 rfl rfl 1 (by decide) fl_18 (fun _ h9 => h9) rfl dX6_couldBe_25 ?_
    refine va_get (D := E.1) (ci := 5) (v := .ref b0) (C := RX5) (T := TX5) (N := 7) hx hb hts hinX5 hown hK.1 hP 7 rfl rfl 0 (by decide) fl_94 (fun _ h9 => h9) rfl dX6_couldBe_28 ?_
    refine lv_iload_n hx hb dX6_couldBe_31 rfl (lv_at hl 1 rfl) ?_
    refine lv_iload_n hx hb dX6_couldBe_32 rfl (lv_at hl 2 rfl) ?_
    refine ist hx hb hK hP hD hS 8 rfl (j := j) rfl (by omega) (by decide) dX6_couldBe_33 (fun H locs hP hD hS => ?_)
    have hP : va_P E.1 vwCl [ob g0 6 [.ref h0, .ref k0, .ref gs, .ref ht, .ref hd, .ref ho, .ref hr, .ref fo, .ref wy, .int tr, .int lf], ob h0 5 [.ref a0, .ref a1, .ref a2, .ref a3, .ref a4, .int (nI n), .int mo], ar E a0 6 kd, ar E a1 6 mn, ar E a2 6 pu, ar E a3 6 ro, ar E a4 6 wo, ob k0 5 [.ref b0, .ref b1, .ref b2, .ref b3, .ref b4, .int (nI n), .int (woF kd mn n - 1)], ar E b0 6 (upd kd j kk), ar E b1 6 mn, ar E b2 6 pu, ar E b3 6 (fil (rmF kd mn) ro2 n), ar E b4 6 (fil (woF kd mn) wo2 n), ob hr 2 [.ref s0, .ref s1, .ref s2, .int (nI rc)], ar E s0 8 rs, ar E s1 8 rw, ar E s2 8 rf] H := hP
    have hD : va_D A [ob g0 6 [.ref h0, .ref k0, .ref gs, .ref ht, .ref hd, .ref ho, .ref hr, .ref fo, .ref wy, .int tr, .int lf], ob h0 5 [.ref a0, .ref a1, .ref a2, .ref a3, .ref a4, .int (nI n), .int mo], ar E a0 6 kd, ar E a1 6 mn, ar E a2 6 pu, ar E a3 6 ro, ar E a4 6 wo, ob k0 5 [.ref b0, .ref b1, .ref b2, .ref b3, .ref b4, .int (nI n), .int (woF kd mn n - 1)], ar E b0 6 (upd kd j kk), ar E b1 6 mn, ar E b2 6 pu, ar E b3 6 (fil (rmF kd mn) ro2 n), ar E b4 6 (fil (woF kd mn) wo2 n), ob hr 2 [.ref s0, .ref s1, .ref s2, .int (nI rc)], ar E s0 8 rs, ar E s1 8 rw, ar E s2 8 rf] := hD
    refine lv_aload_n hx hb dX6_couldBe_34 rfl (lv_at hl 0 rfl) ?_
    refine va_get (D := E.1) (ci := 6) (v := .ref k0) (C := RX6) (T := TX6) (N := 11) hx hb hts hinX6 hown hK.1 hP 0 rfl rfl 1 (by decide) fl_18 (fun _ h9 => h9) rfl dX6_couldBe_35 ?_
    refine va_get (D := E.1) (ci := 5) (v := .ref b1) (C := RX5) (T := TX5) (N := 7) hx hb hts hinX5 hown hK.1 hP 7 rfl rfl 1 (by decide) fl_97 (fun _ h9 => h9) rfl dX6_couldBe_38 ?_
    refine lv_iload_n hx hb dX6_couldBe_41 rfl (lv_at hl 1 rfl) ?_
    refine lv_iload_n hx hb dX6_couldBe_42 rfl (lv_at hl 3 rfl) ?_
    refine ist hx hb hK hP hD hS 9 rfl (j := j) rfl (by omega) (by decide) dX6_couldBe_43 (fun H locs hP hD hS => ?_)
    have hP : va_P E.1 vwCl [ob g0 6 [.ref h0, .ref k0, .ref gs, .ref ht, .ref hd, .ref ho, .ref hr, .ref fo, .ref wy, .int tr, .int lf], ob h0 5 [.ref a0, .ref a1, .ref a2, .ref a3, .ref a4, .int (nI n), .int mo], ar E a0 6 kd, ar E a1 6 mn, ar E a2 6 pu, ar E a3 6 ro, ar E a4 6 wo, ob k0 5 [.ref b0, .ref b1, .ref b2, .ref b3, .ref b4, .int (nI n), .int (woF kd mn n - 1)], ar E b0 6 (upd kd j kk), ar E b1 6 (upd mn j mm), ar E b2 6 pu, ar E b3 6 (fil (rmF kd mn) ro2 n), ar E b4 6 (fil (woF kd mn) wo2 n), ob hr 2 [.ref s0, .ref s1, .ref s2, .int (nI rc)], ar E s0 8 rs, ar E s1 8 rw, ar E s2 8 rf] H := hP
    have hD : va_D A [ob g0 6 [.ref h0, .ref k0, .ref gs, .ref ht, .ref hd, .ref ho, .ref hr, .ref fo, .ref wy, .int tr, .int lf], ob h0 5 [.ref a0, .ref a1, .ref a2, .ref a3, .ref a4, .int (nI n), .int mo], ar E a0 6 kd, ar E a1 6 mn, ar E a2 6 pu, ar E a3 6 ro, ar E a4 6 wo, ob k0 5 [.ref b0, .ref b1, .ref b2, .ref b3, .ref b4, .int (nI n), .int (woF kd mn n - 1)], ar E b0 6 (upd kd j kk), ar E b1 6 (upd mn j mm), ar E b2 6 pu, ar E b3 6 (fil (rmF kd mn) ro2 n), ar E b4 6 (fil (woF kd mn) wo2 n), ob hr 2 [.ref s0, .ref s1, .ref s2, .int (nI rc)], ar E s0 8 rs, ar E s1 8 rw, ar E s2 8 rf] := hD
    refine lv_aload_n hx hb dX6_couldBe_44 rfl (lv_at hl 0 rfl) ?_
    refine va_get (D := E.1) (ci := 6) (v := .ref k0) (C := RX6) (T := TX6) (N := 11) hx hb hts hinX6 hown hK.1 hP 0 rfl rfl 1 (by decide) fl_18 (fun _ h9 => h9) rfl dX6_couldBe_45 ?_
    refine cwVv (As := []) (rest := []) ⟨hx, hb, hml, hown, hts⟩ (c_X5_measure l E _ k0 b0 b1 b2 b3 b4 n (woF kd mn n - 1) (upd kd j kk) (upd mn j mm) (fil (rmF kd mn) ro2 n) (fil (woF kd mn) wo2 n) (by first | assumption | omega)) (cwV 0 hts gX6_couldBe_X5_measure rfl rfl rfl (by decide +kernel) ⟨Nat.le_of_ble_eq_true rfl, Nat.le_of_ble_eq_true rfl⟩) hK hP hD hS hA [7, 8, 9, 11, 12] (by decide) rfl [k0, b0, b1, b3, b4] (fun _ => rfl) rfl 0 rfl rfl rfl rfl hl.1 rfl (catLe (Nat.le_of_ble_eq_true rfl)) dX6_couldBe_48 ⟨Nat.zero_le _, Nat.zero_le _⟩ (fun u_6 H locs hwr_5 hP hD hS => ?_)
    have hP : va_P E.1 vwCl [ob g0 6 [.ref h0, .ref k0, .ref gs, .ref ht, .ref hd, .ref ho, .ref hr, .ref fo, .ref wy, .int tr, .int lf], ob h0 5 [.ref a0, .ref a1, .ref a2, .ref a3, .ref a4, .int (nI n), .int mo], ar E a0 6 kd, ar E a1 6 mn, ar E a2 6 pu, ar E a3 6 ro, ar E a4 6 wo, ob k0 5 [.ref b0, .ref b1, .ref b2, .ref b3, .ref b4, .int (nI n), .int (woF (upd kd j kk) (upd mn j mm) n - 1)], ar E b0 6 (upd kd j kk), ar E b1 6 (upd mn j mm), ar E b2 6 pu, ar E b3 6 (fil (rmF (upd kd j kk) (upd mn j mm)) (fil (rmF kd mn) ro2 n) n), ar E b4 6 (fil (woF (upd kd j kk) (upd mn j mm)) (fil (woF kd mn) wo2 n) n), ob hr 2 [.ref s0, .ref s1, .ref s2, .int (nI rc)], ar E s0 8 rs, ar E s1 8 rw, ar E s2 8 rf] H := hP
    have hD : va_D A [ob g0 6 [.ref h0, .ref k0, .ref gs, .ref ht, .ref hd, .ref ho, .ref hr, .ref fo, .ref wy, .int tr, .int lf], ob h0 5 [.ref a0, .ref a1, .ref a2, .ref a3, .ref a4, .int (nI n), .int mo], ar E a0 6 kd, ar E a1 6 mn, ar E a2 6 pu, ar E a3 6 ro, ar E a4 6 wo, ob k0 5 [.ref b0, .ref b1, .ref b2, .ref b3, .ref b4, .int (nI n), .int (woF (upd kd j kk) (upd mn j mm) n - 1)], ar E b0 6 (upd kd j kk), ar E b1 6 (upd mn j mm), ar E b2 6 pu, ar E b3 6 (fil (rmF (upd kd j kk) (upd mn j mm)) (fil (rmF kd mn) ro2 n) n), ar E b4 6 (fil (woF (upd kd j kk) (upd mn j mm)) (fil (woF kd mn) wo2 n) n), ob hr 2 [.ref s0, .ref s1, .ref s2, .int (nI rc)], ar E s0 8 rs, ar E s1 8 rw, ar E s2 8 rf] := hD
    refine lv_aload_n hx hb dX6_couldBe_51 rfl (lv_at hl 0 rfl) ?_
    refine va_get (D := E.1) (ci := 6) (v := .ref k0) (C := RX6) (T := TX6) (N := 11) hx hb hts hinX6 hown hK.1 hP 0 rfl rfl 1 (by decide) fl_18 (fun _ h9 => h9) rfl dX6_couldBe_52 ?_
    refine crV (As := []) (rest := []) ⟨hx, hb, hml, hown, hts⟩ (c_X5_hasRoom l E k0 b0 b1 b2 b3 b4 n (woF (upd kd j kk) (upd mn j mm) n - 1) pu (fil (rmF (upd kd j kk) (upd mn j mm)) (fil (rmF kd mn) ro2 n) n) (by first | assumption | omega)) (cwV 0 hts gX6_couldBe_X5_hasRoom rfl rfl rfl (by decide +kernel) ⟨Nat.le_of_ble_eq_true rfl, Nat.le_of_ble_eq_true rfl⟩) hK hP [7, 10, 11] rfl 0 rfl rfl rfl rfl hl.1 rfl (catLe (Nat.le_of_ble_eq_true rfl)) dX6_couldBe_55 ⟨Nat.zero_le _, Nat.zero_le _⟩ (fun r_7 hr_7 => ?_)
    subst hr_7
    refine ifB_eq (P := roomP pu (fil (rmF (upd kd j kk) (upd mn j mm)) (fil (rmF kd mn) ro2 n) n) n) (tgt := 79) hx hb dX6_couldBe_58 (by decide) (fun c_8 => ?_) (fun c_8 => ?_)
    ·
      refine lv_iconst (v := 0) hx hb dX6_couldBe_79 (by decide) ?_
      exact hret _ _ _ _ _ (n, woF (upd kd j kk) (upd mn j mm) n - 1, (upd kd j kk), (upd mn j mm), pu, fil (rmF (upd kd j kk) (upd mn j mm)) (fil (rmF kd mn) ro2 n) n, fil (woF (upd kd j kk) (upd mn j mm)) (fil (woF kd mn) wo2 n) n) dX6_couldBe_80 rfl hS hP (if_neg (fun h => c_8 ((roomP_congr (pu := pu) (ro := fil (rmF (upd kd j kk) (upd mn j mm)) (fil (rmF kd mn) ro2 n) n) (ro' := rmF (upd kd j kk) (upd mn j mm)) (fun w h => fil_in h)).mpr h.1))).symm
    ·
      refine lv_aload_n hx hb dX6_couldBe_61 rfl (lv_at hl 0 rfl) ?_
      refine va_get (D := E.1) (ci := 6) (v := .ref hr) (C := RX6) (T := TX6) (N := 11) hx hb hts hinX6 hown hK.1 hP 0 rfl rfl 6 (by decide) fl_51 (fun _ h9 => h9) rfl dX6_couldBe_62 ?_
      refine lv_aload_n hx hb dX6_couldBe_65 rfl (lv_at hl 0 rfl) ?_
      refine va_get (D := E.1) (ci := 6) (v := .ref k0) (C := RX6) (T := TX6) (N := 11) hx hb hts hinX6 hown hK.1 hP 0 rfl rfl 1 (by decide) fl_18 (fun _ h9 => h9) rfl dX6_couldBe_66 ?_
      have hgT : WG n (fil (rmF (upd kd j kk) (upd mn j mm)) (fil (rmF kd mn) ro2 n) n) (fil (woF (upd kd j kk) (upd mn j mm)) (fil (woF kd mn) wo2 n) n) := hFR.WG (fun w h => fil_in h) (fun w h => fil_in h)
      refine crV (As := [.ref k0]) (rest := []) ⟨hx, hb, hml, hown, hts⟩ (c_X2_areSo l E hr s0 s1 s2 rc rs rw rf k0 b0 b1 b2 b3 b4 n (woF (upd kd j kk) (upd mn j mm) n - 1) pu (fil (rmF (upd kd j kk) (upd mn j mm)) (fil (rmF kd mn) ro2 n) n) (fil (woF (upd kd j kk) (upd mn j mm)) (fil (woF kd mn) wo2 n) n) hgT (by first | assumption | omega) (by first | assumption | omega)) (cwV 1 hts gX6_couldBe_X2_areSo rfl rfl rfl (by decide +kernel) ⟨Nat.le_of_ble_eq_true rfl, Nat.le_of_ble_eq_true rfl⟩) hK hP [13, 14, 15, 16, 7, 10, 11, 12] rfl 0 rfl rfl rfl rfl hl.1 rfl (catLe (Nat.le_of_ble_eq_true rfl)) dX6_couldBe_69 ⟨Nat.zero_le _, Nat.zero_le _⟩ (fun r_9 hr_9 => ?_)
      subst hr_9
      refine ifB_eq (P := soP n (woF (upd kd j kk) (upd mn j mm) n - 1) (numF pu (fil (woF (upd kd j kk) (upd mn j mm)) (fil (woF kd mn) wo2 n) n) n) (fil (rmF (upd kd j kk) (upd mn j mm)) (fil (rmF kd mn) ro2 n) n) (fil (woF (upd kd j kk) (upd mn j mm)) (fil (woF kd mn) wo2 n) n) rs rw rf rc) (tgt := 79) hx hb dX6_couldBe_72 (by decide) (fun c_10 => ?_) (fun c_10 => ?_)
      ·
        refine lv_iconst (v := 0) hx hb dX6_couldBe_79 (by decide) ?_
        exact hret _ _ _ _ _ (n, woF (upd kd j kk) (upd mn j mm) n - 1, (upd kd j kk), (upd mn j mm), pu, fil (rmF (upd kd j kk) (upd mn j mm)) (fil (rmF kd mn) ro2 n) n, fil (woF (upd kd j kk) (upd mn j mm)) (fil (woF kd mn) wo2 n) n) dX6_couldBe_80 rfl hS hP (if_neg (fun h => c_10 (by rw [numF_congr (pu := pu) (wo := fil (woF (upd kd j kk) (upd mn j mm)) (fil (woF kd mn) wo2 n) n) (wo' := woF (upd kd j kk) (upd mn j mm)) (fun _ _ => rfl) (fun w h => fil_in h)]; exact ((soP_congr (ro := fil (rmF (upd kd j kk) (upd mn j mm)) (fil (rmF kd mn) ro2 n) n) (wo := fil (woF (upd kd j kk) (upd mn j mm)) (fil (woF kd mn) wo2 n) n) (ro' := rmF (upd kd j kk) (upd mn j mm)) (wo' := woF (upd kd j kk) (upd mn j mm)) hrw (fun w h => fil_in h) (fun w h => fil_in h)).mpr h.2)))).symm
      ·
        refine lv_iconst (v := 1) hx hb dX6_couldBe_75 (by decide) ?_
        refine lv_goto (tgt := 80) hx hb dX6_couldBe_76 (by decide) ?_
        exact hret _ _ _ _ _ (n, woF (upd kd j kk) (upd mn j mm) n - 1, (upd kd j kk), (upd mn j mm), pu, fil (rmF (upd kd j kk) (upd mn j mm)) (fil (rmF kd mn) ro2 n) n, fil (woF (upd kd j kk) (upd mn j mm)) (fil (woF kd mn) wo2 n) n) dX6_couldBe_80 rfl hS hP (if_pos ⟨(roomP_congr (pu := pu) (ro := fil (rmF (upd kd j kk) (upd mn j mm)) (fil (rmF kd mn) ro2 n) n) (ro' := rmF (upd kd j kk) (upd mn j mm)) (fun w h => fil_in h)).mp c_8, by have h9 := c_10; rw [numF_congr (pu := pu) (wo := fil (woF (upd kd j kk) (upd mn j mm)) (fil (woF kd mn) wo2 n) n) (wo' := woF (upd kd j kk) (upd mn j mm)) (fun _ _ => rfl) (fun w h => fil_in h)] at h9; exact ((soP_congr (ro := fil (rmF (upd kd j kk) (upd mn j mm)) (fil (rmF kd mn) ro2 n) n) (wo := fil (woF (upd kd j kk) (upd mn j mm)) (fil (woF kd mn) wo2 n) n) (ro' := rmF (upd kd j kk) (upd mn j mm)) (wo' := woF (upd kd j kk) (upd mn j mm)) hrw (fun w h => fil_in h) (fun w h => fil_in h)).mp h9)⟩).symm
  ·
    exact absurd (hasP_nI hj hn) c_4
set_option maxHeartbeats 4000000 in
set_option maxRecDepth 100000 in
theorem c_X6_mens (l : Launch) (E : gE) (sz : Nat) (g0 : Nat) (h0 : Nat) (k0 : Nat) (gs : Nat) (ht : Nat) (hd : Nat) (ho : Nat) (hr : Nat) (fo : Nat) (wy : Nat) (tr : Int32) (lf : Int32) (a0 : Nat) (a1 : Nat) (a2 : Nat) (a3 : Nat) (a4 : Nat) (n : Nat) (mo : Int32) (kd : Nat → Int32) (mn : Nat → Int32) (pu : Nat → Int32) (ro : Nat → Int32) (wo : Nat → Int32) (b0 : Nat) (b1 : Nat) (b2 : Nat) (b3 : Nat) (b4 : Nat) (n2 : Nat) (mo2 : Int32) (kd2 : Nat → Int32) (mn2 : Nat → Int32) (pu2 : Nat → Int32) (ro2 : Nat → Int32) (wo2 : Nat → Int32) (s0 : Nat) (s1 : Nat) (s2 : Nat) (rc : Nat) (rs : Nat → Int32) (rw : Nat → Int32) (rf : Nat → Int32) (w : Int32) (hFR : FR n kd mn) (hrc : rc ≤ 8) (hrw : rwP n rw rc) : Met l yX6_mens wsX6_mens ({ frames := 4, cells := 0, slots := 0, locals := 89 }) (PW E [.ref g0, .int w] [ob g0 6 [.ref h0, .ref k0, .ref gs, .ref ht, .ref hd, .ref ho, .ref hr, .ref fo, .ref wy, .int tr, .int lf], ob h0 5 [.ref a0, .ref a1, .ref a2, .ref a3, .ref a4, .int (nI n), .int mo], ar E a0 6 kd, ar E a1 6 mn, ar E a2 6 pu, ar E a3 6 ro, ar E a4 6 wo, ob k0 5 [.ref b0, .ref b1, .ref b2, .ref b3, .ref b4, .int (nI n2), .int mo2], ar E b0 6 kd2, ar E b1 6 mn2, ar E b2 6 pu2, ar E b3 6 ro2, ar E b4 6 wo2, ob hr 2 [.ref s0, .ref s1, .ref s2, .int (nI rc)], ar E s0 8 rs, ar E s1 8 rw, ar E s2 8 rf] sz) (QWi E (fun r _ => r = spMens n kd mn pu rs rw rf rc w) (fun (u : (Nat) × (Int32) × (Nat → Int32) × (Nat → Int32) × (Nat → Int32) × (Nat → Int32) × (Nat → Int32)) => [ob g0 6 [.ref h0, .ref k0, .ref gs, .ref ht, .ref hd, .ref ho, .ref hr, .ref fo, .ref wy, .int tr, .int lf], ob h0 5 [.ref a0, .ref a1, .ref a2, .ref a3, .ref a4, .int (nI n), .int mo], ar E a0 6 kd, ar E a1 6 mn, ar E a2 6 pu, ar E a3 6 ro, ar E a4 6 wo, ob k0 5 [.ref b0, .ref b1, .ref b2, .ref b3, .ref b4, .int (nI u.1), .int u.2.1], ar E b0 6 u.2.2.1, ar E b1 6 u.2.2.2.1, ar E b2 6 u.2.2.2.2.1, ar E b3 6 u.2.2.2.2.2.1, ar E b4 6 u.2.2.2.2.2.2, ob hr 2 [.ref s0, .ref s1, .ref s2, .int (nI rc)], ar E s0 8 rs, ar E s1 8 rw, ar E s2 8 rf]) (va_A [ob g0 6 [.ref h0, .ref k0, .ref gs, .ref ht, .ref hd, .ref ho, .ref hr, .ref fo, .ref wy, .int tr, .int lf], ob h0 5 [.ref a0, .ref a1, .ref a2, .ref a3, .ref a4, .int (nI n), .int mo], ar E a0 6 kd, ar E a1 6 mn, ar E a2 6 pu, ar E a3 6 ro, ar E a4 6 wo, ob k0 5 [.ref b0, .ref b1, .ref b2, .ref b3, .ref b4, .int (nI n2), .int mo2], ar E b0 6 kd2, ar E b1 6 mn2, ar E b2 6 pu2, ar E b3 6 ro2, ar E b4 6 wo2, ob hr 2 [.ref s0, .ref s1, .ref s2, .int (nI rc)], ar E s0 8 rs, ar E s1 8 rw, ar E s2 8 rf] sz)) 0 0 (va_A [ob g0 6 [.ref h0, .ref k0, .ref gs, .ref ht, .ref hd, .ref ho, .ref hr, .ref fo, .ref wy, .int tr, .int lf], ob h0 5 [.ref a0, .ref a1, .ref a2, .ref a3, .ref a4, .int (nI n), .int mo], ar E a0 6 kd, ar E a1 6 mn, ar E a2 6 pu, ar E a3 6 ro, ar E a4 6 wo, ob k0 5 [.ref b0, .ref b1, .ref b2, .ref b3, .ref b4, .int (nI n2), .int mo2], ar E b0 6 kd2, ar E b1 6 mn2, ar E b2 6 pu2, ar E b3 6 ro2, ar E b4 6 wo2, ob hr 2 [.ref s0, .ref s1, .ref s2, .int (nI rc)], ar E s0 8 rs, ar E s1 8 rw, ar E s2 8 rf] sz) := by
  refine mkWi (cc := cX6_mens) (maxL := 4) (by decide) rfl (Nat.le_of_ble_eq_true rfl) ?_
  intro p e s m args below meth c QQ A hx hb hml hown hmn hts hK hA hP hD hS hret ls hl
  have hown : s.vm.findClass RX6 = some m.cls := hown
  have hl : lv_has ls 4 [(0, .ref g0), (1, .int w)] := hl
  have hinX5 : ∀ w ∈ wsX50, w ∈ wsX6_mens := by decide +kernel
  have hinX6 : ∀ w ∈ wsX60, w ∈ wsX6_mens := by decide +kernel
  have fl_12 := hts (.fieldLink RX6 12 "GuardAbacus" "wires" "LGuardAbacus$Wires;") (by decide +kernel)
  have fl_94 := hts (.fieldLink RX6 94 "GuardAbacus$Wires" "kind" "[I") (by decide +kernel)
  have hn := hFR.1
  refine lv_aload_n hx hb dX6_mens_0 rfl (lv_at hl 0 rfl) ?_
  refine va_get (D := E.1) (ci := 6) (v := .ref h0) (C := RX6) (T := TX6) (N := 11) hx hb hts hinX6 hown hK.1 hP 0 rfl rfl 0 (by decide) fl_12 (fun _ h9 => h9) rfl dX6_mens_1 ?_
  refine lv_iload_n hx hb dX6_mens_4 rfl (lv_at hl 1 rfl) ?_
  refine crV (As := [.int w]) (rest := []) ⟨hx, hb, hml, hown, hts⟩ (c_X5_has l E h0 a0 a1 a2 a3 a4 n mo w (by first | assumption | omega)) (cwV 1 hts gX6_mens_X5_has rfl rfl rfl (by decide +kernel) ⟨Nat.le_of_ble_eq_true rfl, Nat.le_of_ble_eq_true rfl⟩) hK hP [1] rfl 0 rfl rfl rfl rfl hl.1 rfl (catLe (Nat.le_of_ble_eq_true rfl)) dX6_mens_5 ⟨Nat.zero_le _, Nat.zero_le _⟩ (fun r_1 hr_1 => ?_)
  subst hr_1
  refine ifB_ne (P := hasP n w) (tgt := 13) hx hb dX6_mens_8 (by decide) (fun c_2 => ?_) (fun c_2 => ?_)
  ·
    obtain ⟨j, hj, rfl⟩ := hasP_of c_2 hn
    have hix_j : ix (nI j) = j := ix_nI (by omega)
    refine lv_iconst (v := 0) hx hb dX6_mens_13 (by decide) ?_
    refine lv_istore_n (lv' := [(2, .int 0), (0, .ref g0), (1, .int (nI j))]) hx hb dX6_mens_14 rfl hl (by decide) rfl (fun ls hl => ?_)
    refine lv_iconst (v := 1) hx hb dX6_mens_15 (by decide) ?_
    refine lv_istore_n (lv' := [(3, .int 1), (2, .int 0), (0, .ref g0), (1, .int (nI j))]) hx hb dX6_mens_16 rfl hl (by decide) rfl (fun ls hl => ?_)
    have L17 : ∀ (fuel : Nat) (k : Nat) (n2 : Nat) (mo2 : Int32) (kd2 : Nat → Int32) (mn2 : Nat → Int32) (pu2 : Nat → Int32) (ro2 : Nat → Int32) (wo2 : Nat → Int32), (k ≤ 9) → (9 - k) < fuel → ∀ (H : Heap) (locs : List Loc), va_P E.1 vwCl [ob g0 6 [.ref h0, .ref k0, .ref gs, .ref ht, .ref hd, .ref ho, .ref hr, .ref fo, .ref wy, .int tr, .int lf], ob h0 5 [.ref a0, .ref a1, .ref a2, .ref a3, .ref a4, .int (nI n), .int mo], ar E a0 6 kd, ar E a1 6 mn, ar E a2 6 pu, ar E a3 6 ro, ar E a4 6 wo, ob k0 5 [.ref b0, .ref b1, .ref b2, .ref b3, .ref b4, .int (nI n2), .int mo2], ar E b0 6 kd2, ar E b1 6 mn2, ar E b2 6 pu2, ar E b3 6 ro2, ar E b4 6 wo2, ob hr 2 [.ref s0, .ref s1, .ref s2, .int (nI rc)], ar E s0 8 rs, ar E s1 8 rw, ar E s2 8 rf] H → va_D A [ob g0 6 [.ref h0, .ref k0, .ref gs, .ref ht, .ref hd, .ref ho, .ref hr, .ref fo, .ref wy, .int tr, .int lf], ob h0 5 [.ref a0, .ref a1, .ref a2, .ref a3, .ref a4, .int (nI n), .int mo], ar E a0 6 kd, ar E a1 6 mn, ar E a2 6 pu, ar E a3 6 ro, ar E a4 6 wo, ob k0 5 [.ref b0, .ref b1, .ref b2, .ref b3, .ref b4, .int (nI n2), .int mo2], ar E b0 6 kd2, ar E b1 6 mn2, ar E b2 6 pu2, ar E b3 6 ro2, ar E b4 6 wo2, ob hr 2 [.ref s0, .ref s1, .ref s2, .int (nI rc)], ar E s0 8 rs, ar E s1 8 rw, ar E s2 8 rf] → va_S A s.heap H locs → ∀ ls : Array Slot, lv_has ls 4 [(3, .int (nI (k + 1))), (2, .int (mnS n kd mn pu rs rw rf rc j k)), (0, .ref g0), (1, .int (nI j))] → W p l e ({ frames := 4, cells := 0, slots := 0, locals := 89 }) s m args below meth c H locs 0 0 QQ (F0 m 17 ls []) := by
      intro fuel
      induction fuel with
      | zero => intro k n2 mo2 kd2 mn2 pu2 ro2 wo2 hk hf; exact absurd hf (Nat.not_lt_zero _)
      | succ fuel ih17 =>
        intro k n2 mo2 kd2 mn2 pu2 ro2 wo2 hk hf17 H locs hP hD hS ls hl
        refine lv_iload_n hx hb dX6_mens_17 rfl (lv_at hl 0 rfl) ?_
        refine lv_bipush (v := 9) hx hb dX6_mens_18 (by decide) ?_
        refine icmpN_gt (tgt := 53) (a := k + 1) (b := 9) hx hb rfl rfl (by omega) (by omega) dX6_mens_20 (by decide) (fun c_3 => ?_) (fun c_3 => ?_)
        ·
          obtain rfl : k = 9 := by omega
          refine lv_iload_n hx hb dX6_mens_53 rfl (lv_at hl 1 rfl) ?_
          exact hret _ _ _ _ _ (n2, mo2, kd2, mn2, pu2, ro2, wo2) dX6_mens_54 hS hP (by simp [spMens, c_2, hix_j, c_3])
        ·
          refine lv_aload_n hx hb dX6_mens_23 rfl (lv_at hl 2 rfl) ?_
          refine lv_iload_n hx hb dX6_mens_24 rfl (lv_at hl 3 rfl) ?_
          refine lv_aload_n hx hb dX6_mens_25 rfl (lv_at hl 2 rfl) ?_
          refine va_get (D := E.1) (ci := 6) (v := .ref h0) (C := RX6) (T := TX6) (N := 11) hx hb hts hinX6 hown hK.1 hP 0 rfl rfl 0 (by decide) fl_12 (fun _ h9 => h9) rfl dX6_mens_26 ?_
          refine va_get (D := E.1) (ci := 5) (v := .ref a0) (C := RX5) (T := TX5) (N := 7) hx hb hts hinX5 hown hK.1 hP 1 rfl rfl 0 (by decide) fl_94 (fun _ h9 => h9) rfl dX6_mens_29 ?_
          refine lv_iload_n hx hb dX6_mens_32 rfl (lv_at hl 3 rfl) ?_
          refine ild hx hb hK hP 2 rfl (j := j) rfl (by omega) (by decide) dX6_mens_33 ?_
          refine lv_iload_n hx hb dX6_mens_34 rfl (lv_at hl 0 rfl) ?_
          refine cwVi (As := [.int (nI j), .int (kd j), .int (nI (k + 1))]) (rest := []) ⟨hx, hb, hml, hown, hts⟩ (c_X6_couldBe l E _ g0 h0 k0 gs ht hd ho hr fo wy tr lf a0 a1 a2 a3 a4 n mo kd mn pu ro wo b0 b1 b2 b3 b4 n2 mo2 kd2 mn2 pu2 ro2 wo2 s0 s1 s2 rc rs rw rf j (kd j) (nI (k + 1)) (by first | assumption | omega) (by rw [upd_self kd j]; exact hFR.men j (by omega) (by omega)) (by first | assumption | omega) (by first | assumption | omega)) (cwV 3 hts gX6_mens_X6_couldBe rfl rfl rfl (by decide +kernel) ⟨Nat.le_of_ble_eq_true rfl, Nat.le_of_ble_eq_true rfl⟩) hK hP hD hS hA [0, 1, 2, 3, 4, 5, 6, 7, 8, 9, 10, 11, 12, 13, 14, 15, 16] (by decide) rfl [g0, h0, a0, a1, a2, a3, a4, k0, b0, b1, b2, b3, b4, hr, s0, s1, s2] (fun _ => rfl) rfl 0 rfl rfl rfl rfl hl.1 rfl (catLe (Nat.le_of_ble_eq_true rfl)) dX6_mens_35 ⟨Nat.zero_le _, Nat.zero_le _⟩ (fun r_4 u_5 H locs hwr_4 hP hD hS => ?_)
          have hP : va_P E.1 vwCl [ob g0 6 [.ref h0, .ref k0, .ref gs, .ref ht, .ref hd, .ref ho, .ref hr, .ref fo, .ref wy, .int tr, .int lf], ob h0 5 [.ref a0, .ref a1, .ref a2, .ref a3, .ref a4, .int (nI n), .int mo], ar E a0 6 kd, ar E a1 6 mn, ar E a2 6 pu, ar E a3 6 ro, ar E a4 6 wo, ob k0 5 [.ref b0, .ref b1, .ref b2, .ref b3, .ref b4, .int (nI u_5.1), .int u_5.2.1], ar E b0 6 u_5.2.2.1, ar E b1 6 u_5.2.2.2.1, ar E b2 6 u_5.2.2.2.2.1, ar E b3 6 u_5.2.2.2.2.2.1, ar E b4 6 u_5.2.2.2.2.2.2, ob hr 2 [.ref s0, .ref s1, .ref s2, .int (nI rc)], ar E s0 8 rs, ar E s1 8 rw, ar E s2 8 rf] H := hP
          have hD : va_D A [ob g0 6 [.ref h0, .ref k0, .ref gs, .ref ht, .ref hd, .ref ho, .ref hr, .ref fo, .ref wy, .int tr, .int lf], ob h0 5 [.ref a0, .ref a1, .ref a2, .ref a3, .ref a4, .int (nI n), .int mo], ar E a0 6 kd, ar E a1 6 mn, ar E a2 6 pu, ar E a3 6 ro, ar E a4 6 wo, ob k0 5 [.ref b0, .ref b1, .ref b2, .ref b3, .ref b4, .int (nI u_5.1), .int u_5.2.1], ar E b0 6 u_5.2.2.1, ar E b1 6 u_5.2.2.2.1, ar E b2 6 u_5.2.2.2.2.1, ar E b3 6 u_5.2.2.2.2.2.1, ar E b4 6 u_5.2.2.2.2.2.2, ob hr 2 [.ref s0, .ref s1, .ref s2, .int (nI rc)], ar E s0 8 rs, ar E s1 8 rw, ar E s2 8 rf] := hD
          subst hwr_4
          refine ifB_eq (P := cbP n (upd kd j (kd j)) (upd mn j (nI (k + 1))) pu rs rw rf rc) (tgt := 47) hx hb dX6_mens_38 (by decide) (fun c_6 => ?_) (fun c_6 => ?_)
          ·
            refine lv_iinc (v := nI ((k + 1) + 1)) (lv' := [(3, .int (nI ((k + 1) + 1))), (2, .int (mnS n kd mn pu rs rw rf rc j k)), (0, .ref g0), (1, .int (nI j))]) hx hb dX6_mens_47 hl (k := 0) rfl (nI_inc (k + 1)) (by decide) rfl (fun ls hl => ?_)
            refine lv_goto (tgt := 17) hx hb dX6_mens_50 (by decide) ?_
            have hb : ¬ (cbP n kd (upd mn j (nI (k + 1))) pu rs rw rf rc) := by have h9 := c_6; rwa [upd_self kd j] at h9
            have eS : mnS n kd mn pu rs rw rf rc j (k + 1) = mnS n kd mn pu rs rw rf rc j k := if_neg hb
            have hl : lv_has ls 4 [(3, .int (nI ((k + 1) + 1))), (2, .int (mnS n kd mn pu rs rw rf rc j (k + 1))), (0, .ref g0), (1, .int (nI j))] := by rw [eS]; exact lv_sub hl [0, 1, 2, 3] rfl
            exact ih17 (k + 1) u_5.1 u_5.2.1 u_5.2.2.1 u_5.2.2.2.1 u_5.2.2.2.2.1 u_5.2.2.2.2.2.1 u_5.2.2.2.2.2.2 (by omega) (by omega) _ _ hP hD hS ls (lv_sub hl [0, 1, 2, 3] rfl)
          ·
            refine lv_iload_n hx hb dX6_mens_41 rfl (lv_at hl 1 rfl) ?_
            refine lv_iconst (v := 1) hx hb dX6_mens_42 (by decide) ?_
            refine lv_iload_n hx hb dX6_mens_43 rfl (lv_at hl 0 rfl) ?_
            refine lv_ishl hx hb dX6_mens_44 ?_
            rw [shl1 (k + 1) (by omega)]
            refine lv_ior hx hb dX6_mens_45 ?_
            refine lv_istore_n (lv' := [(2, .int ((mnS n kd mn pu rs rw rf rc j k) ||| (nI (2 ^ (k + 1))))), (3, .int (nI (k + 1))), (0, .ref g0), (1, .int (nI j))]) hx hb dX6_mens_46 rfl hl (by decide) rfl (fun ls hl => ?_)
            refine lv_iinc (v := nI ((k + 1) + 1)) (lv' := [(3, .int (nI ((k + 1) + 1))), (2, .int ((mnS n kd mn pu rs rw rf rc j k) ||| (nI (2 ^ (k + 1))))), (0, .ref g0), (1, .int (nI j))]) hx hb dX6_mens_47 hl (k := 1) rfl (nI_inc (k + 1)) (by decide) rfl (fun ls hl => ?_)
            refine lv_goto (tgt := 17) hx hb dX6_mens_50 (by decide) ?_
            have hb : (cbP n kd (upd mn j (nI (k + 1))) pu rs rw rf rc) := by have h9 := c_6; rwa [upd_self kd j] at h9
            have eS : mnS n kd mn pu rs rw rf rc j (k + 1) = (mnS n kd mn pu rs rw rf rc j k ||| nI (2 ^ (k + 1))) := if_pos hb
            have hl : lv_has ls 4 [(3, .int (nI ((k + 1) + 1))), (2, .int (mnS n kd mn pu rs rw rf rc j (k + 1))), (0, .ref g0), (1, .int (nI j))] := by rw [eS]; exact lv_sub hl [0, 1, 2, 3] rfl
            exact ih17 (k + 1) u_5.1 u_5.2.1 u_5.2.2.1 u_5.2.2.2.1 u_5.2.2.2.2.1 u_5.2.2.2.2.2.1 u_5.2.2.2.2.2.2 (by omega) (by omega) _ _ hP hD hS ls (lv_sub hl [0, 1, 2, 3] rfl)
    exact L17 _ 0 n2 mo2 kd2 mn2 pu2 ro2 wo2 (by omega) (Nat.lt_succ_self _) _ _ hP hD hS ls (lv_sub hl [0, 1, 2, 3] rfl)
  ·
    refine lv_iconst (v := (-1)) hx hb dX6_mens_11 (by decide) ?_
    exact hret _ _ _ _ _ (n2, mo2, kd2, mn2, pu2, ro2, wo2) dX6_mens_12 hS hP (by simp [spMens, c_2])
set_option maxHeartbeats 4000000 in
set_option maxRecDepth 100000 in
theorem c_X6_kinds (l : Launch) (E : gE) (sz : Nat) (g0 : Nat) (h0 : Nat) (k0 : Nat) (gs : Nat) (ht : Nat) (hd : Nat) (ho : Nat) (hr : Nat) (fo : Nat) (wy : Nat) (tr : Int32) (lf : Int32) (a0 : Nat) (a1 : Nat) (a2 : Nat) (a3 : Nat) (a4 : Nat) (n : Nat) (mo : Int32) (kd : Nat → Int32) (mn : Nat → Int32) (pu : Nat → Int32) (ro : Nat → Int32) (wo : Nat → Int32) (b0 : Nat) (b1 : Nat) (b2 : Nat) (b3 : Nat) (b4 : Nat) (n2 : Nat) (mo2 : Int32) (kd2 : Nat → Int32) (mn2 : Nat → Int32) (pu2 : Nat → Int32) (ro2 : Nat → Int32) (wo2 : Nat → Int32) (s0 : Nat) (s1 : Nat) (s2 : Nat) (rc : Nat) (rs : Nat → Int32) (rw : Nat → Int32) (rf : Nat → Int32) (w : Int32) (hFR : FR n kd mn) (hrc : rc ≤ 8) (hrw : rwP n rw rc) : Met l yX6_kinds wsX6_kinds ({ frames := 4, cells := 0, slots := 0, locals := 89 }) (PW E [.ref g0, .int w] [ob g0 6 [.ref h0, .ref k0, .ref gs, .ref ht, .ref hd, .ref ho, .ref hr, .ref fo, .ref wy, .int tr, .int lf], ob h0 5 [.ref a0, .ref a1, .ref a2, .ref a3, .ref a4, .int (nI n), .int mo], ar E a0 6 kd, ar E a1 6 mn, ar E a2 6 pu, ar E a3 6 ro, ar E a4 6 wo, ob k0 5 [.ref b0, .ref b1, .ref b2, .ref b3, .ref b4, .int (nI n2), .int mo2], ar E b0 6 kd2, ar E b1 6 mn2, ar E b2 6 pu2, ar E b3 6 ro2, ar E b4 6 wo2, ob hr 2 [.ref s0, .ref s1, .ref s2, .int (nI rc)], ar E s0 8 rs, ar E s1 8 rw, ar E s2 8 rf] sz) (QWi E (fun r _ => r = spKinds n kd mn pu rs rw rf rc w) (fun (u : (Nat) × (Int32) × (Nat → Int32) × (Nat → Int32) × (Nat → Int32) × (Nat → Int32) × (Nat → Int32)) => [ob g0 6 [.ref h0, .ref k0, .ref gs, .ref ht, .ref hd, .ref ho, .ref hr, .ref fo, .ref wy, .int tr, .int lf], ob h0 5 [.ref a0, .ref a1, .ref a2, .ref a3, .ref a4, .int (nI n), .int mo], ar E a0 6 kd, ar E a1 6 mn, ar E a2 6 pu, ar E a3 6 ro, ar E a4 6 wo, ob k0 5 [.ref b0, .ref b1, .ref b2, .ref b3, .ref b4, .int (nI u.1), .int u.2.1], ar E b0 6 u.2.2.1, ar E b1 6 u.2.2.2.1, ar E b2 6 u.2.2.2.2.1, ar E b3 6 u.2.2.2.2.2.1, ar E b4 6 u.2.2.2.2.2.2, ob hr 2 [.ref s0, .ref s1, .ref s2, .int (nI rc)], ar E s0 8 rs, ar E s1 8 rw, ar E s2 8 rf]) (va_A [ob g0 6 [.ref h0, .ref k0, .ref gs, .ref ht, .ref hd, .ref ho, .ref hr, .ref fo, .ref wy, .int tr, .int lf], ob h0 5 [.ref a0, .ref a1, .ref a2, .ref a3, .ref a4, .int (nI n), .int mo], ar E a0 6 kd, ar E a1 6 mn, ar E a2 6 pu, ar E a3 6 ro, ar E a4 6 wo, ob k0 5 [.ref b0, .ref b1, .ref b2, .ref b3, .ref b4, .int (nI n2), .int mo2], ar E b0 6 kd2, ar E b1 6 mn2, ar E b2 6 pu2, ar E b3 6 ro2, ar E b4 6 wo2, ob hr 2 [.ref s0, .ref s1, .ref s2, .int (nI rc)], ar E s0 8 rs, ar E s1 8 rw, ar E s2 8 rf] sz)) 0 0 (va_A [ob g0 6 [.ref h0, .ref k0, .ref gs, .ref ht, .ref hd, .ref ho, .ref hr, .ref fo, .ref wy, .int tr, .int lf], ob h0 5 [.ref a0, .ref a1, .ref a2, .ref a3, .ref a4, .int (nI n), .int mo], ar E a0 6 kd, ar E a1 6 mn, ar E a2 6 pu, ar E a3 6 ro, ar E a4 6 wo, ob k0 5 [.ref b0, .ref b1, .ref b2, .ref b3, .ref b4, .int (nI n2), .int mo2], ar E b0 6 kd2, ar E b1 6 mn2, ar E b2 6 pu2, ar E b3 6 ro2, ar E b4 6 wo2, ob hr 2 [.ref s0, .ref s1, .ref s2, .int (nI rc)], ar E s0 8 rs, ar E s1 8 rw, ar E s2 8 rf] sz) := by
  refine mkWi (cc := cX6_kinds) (maxL := 4) (by decide) rfl (Nat.le_of_ble_eq_true rfl) ?_
  intro p e s m args below meth c QQ A hx hb hml hown hmn hts hK hA hP hD hS hret ls hl
  have hown : s.vm.findClass RX6 = some m.cls := hown
  have hl : lv_has ls 4 [(0, .ref g0), (1, .int w)] := hl
  have hinX5 : ∀ w ∈ wsX50, w ∈ wsX6_kinds := by decide +kernel
  have hinX6 : ∀ w ∈ wsX60, w ∈ wsX6_kinds := by decide +kernel
  have fl_12 := hts (.fieldLink RX6 12 "GuardAbacus" "wires" "LGuardAbacus$Wires;") (by decide +kernel)
  have fl_97 := hts (.fieldLink RX6 97 "GuardAbacus$Wires" "men" "[I") (by decide +kernel)
  have hn := hFR.1
  refine lv_aload_n hx hb dX6_kinds_0 rfl (lv_at hl 0 rfl) ?_
  refine va_get (D := E.1) (ci := 6) (v := .ref h0) (C := RX6) (T := TX6) (N := 11) hx hb hts hinX6 hown hK.1 hP 0 rfl rfl 0 (by decide) fl_12 (fun _ h9 => h9) rfl dX6_kinds_1 ?_
  refine lv_iload_n hx hb dX6_kinds_4 rfl (lv_at hl 1 rfl) ?_
  refine crV (As := [.int w]) (rest := []) ⟨hx, hb, hml, hown, hts⟩ (c_X5_has l E h0 a0 a1 a2 a3 a4 n mo w (by first | assumption | omega)) (cwV 1 hts gX6_kinds_X5_has rfl rfl rfl (by decide +kernel) ⟨Nat.le_of_ble_eq_true rfl, Nat.le_of_ble_eq_true rfl⟩) hK hP [1] rfl 0 rfl rfl rfl rfl hl.1 rfl (catLe (Nat.le_of_ble_eq_true rfl)) dX6_kinds_5 ⟨Nat.zero_le _, Nat.zero_le _⟩ (fun r_1 hr_1 => ?_)
  subst hr_1
  refine ifB_ne (P := hasP n w) (tgt := 13) hx hb dX6_kinds_8 (by decide) (fun c_2 => ?_) (fun c_2 => ?_)
  ·
    obtain ⟨j, hj, rfl⟩ := hasP_of c_2 hn
    have hix_j : ix (nI j) = j := ix_nI (by omega)
    refine lv_iconst (v := 0) hx hb dX6_kinds_13 (by decide) ?_
    refine lv_istore_n (lv' := [(2, .int 0), (0, .ref g0), (1, .int (nI j))]) hx hb dX6_kinds_14 rfl hl (by decide) rfl (fun ls hl => ?_)
    refine lv_iconst (v := 0) hx hb dX6_kinds_15 (by decide) ?_
    refine lv_istore_n (lv' := [(3, .int 0), (2, .int 0), (0, .ref g0), (1, .int (nI j))]) hx hb dX6_kinds_16 rfl hl (by decide) rfl (fun ls hl => ?_)
    have L17 : ∀ (fuel : Nat) (k : Nat) (n2 : Nat) (mo2 : Int32) (kd2 : Nat → Int32) (mn2 : Nat → Int32) (pu2 : Nat → Int32) (ro2 : Nat → Int32) (wo2 : Nat → Int32), (k ≤ 3) → (3 - k) < fuel → ∀ (H : Heap) (locs : List Loc), va_P E.1 vwCl [ob g0 6 [.ref h0, .ref k0, .ref gs, .ref ht, .ref hd, .ref ho, .ref hr, .ref fo, .ref wy, .int tr, .int lf], ob h0 5 [.ref a0, .ref a1, .ref a2, .ref a3, .ref a4, .int (nI n), .int mo], ar E a0 6 kd, ar E a1 6 mn, ar E a2 6 pu, ar E a3 6 ro, ar E a4 6 wo, ob k0 5 [.ref b0, .ref b1, .ref b2, .ref b3, .ref b4, .int (nI n2), .int mo2], ar E b0 6 kd2, ar E b1 6 mn2, ar E b2 6 pu2, ar E b3 6 ro2, ar E b4 6 wo2, ob hr 2 [.ref s0, .ref s1, .ref s2, .int (nI rc)], ar E s0 8 rs, ar E s1 8 rw, ar E s2 8 rf] H → va_D A [ob g0 6 [.ref h0, .ref k0, .ref gs, .ref ht, .ref hd, .ref ho, .ref hr, .ref fo, .ref wy, .int tr, .int lf], ob h0 5 [.ref a0, .ref a1, .ref a2, .ref a3, .ref a4, .int (nI n), .int mo], ar E a0 6 kd, ar E a1 6 mn, ar E a2 6 pu, ar E a3 6 ro, ar E a4 6 wo, ob k0 5 [.ref b0, .ref b1, .ref b2, .ref b3, .ref b4, .int (nI n2), .int mo2], ar E b0 6 kd2, ar E b1 6 mn2, ar E b2 6 pu2, ar E b3 6 ro2, ar E b4 6 wo2, ob hr 2 [.ref s0, .ref s1, .ref s2, .int (nI rc)], ar E s0 8 rs, ar E s1 8 rw, ar E s2 8 rf] → va_S A s.heap H locs → ∀ ls : Array Slot, lv_has ls 4 [(3, .int (nI k)), (2, .int (kdS n kd mn pu rs rw rf rc j k)), (0, .ref g0), (1, .int (nI j))] → W p l e ({ frames := 4, cells := 0, slots := 0, locals := 89 }) s m args below meth c H locs 0 0 QQ (F0 m 17 ls []) := by
      intro fuel
      induction fuel with
      | zero => intro k n2 mo2 kd2 mn2 pu2 ro2 wo2 hk hf; exact absurd hf (Nat.not_lt_zero _)
      | succ fuel ih17 =>
        intro k n2 mo2 kd2 mn2 pu2 ro2 wo2 hk hf17 H locs hP hD hS ls hl
        refine lv_iload_n hx hb dX6_kinds_17 rfl (lv_at hl 0 rfl) ?_
        refine lv_iconst (v := 3) hx hb dX6_kinds_18 (by decide) ?_
        refine icmpN_ge (tgt := 52) (a := k) (b := 3) hx hb rfl rfl (by omega) (by omega) dX6_kinds_19 (by decide) (fun c_3 => ?_) (fun c_3 => ?_)
        ·
          obtain rfl : k = 3 := by omega
          refine lv_iload_n hx hb dX6_kinds_52 rfl (lv_at hl 1 rfl) ?_
          exact hret _ _ _ _ _ (n2, mo2, kd2, mn2, pu2, ro2, wo2) dX6_kinds_53 hS hP (by simp [spKinds, c_2, hix_j, c_3])
        ·
          refine lv_aload_n hx hb dX6_kinds_22 rfl (lv_at hl 2 rfl) ?_
          refine lv_iload_n hx hb dX6_kinds_23 rfl (lv_at hl 3 rfl) ?_
          refine lv_iload_n hx hb dX6_kinds_24 rfl (lv_at hl 0 rfl) ?_
          refine lv_aload_n hx hb dX6_kinds_25 rfl (lv_at hl 2 rfl) ?_
          refine va_get (D := E.1) (ci := 6) (v := .ref h0) (C := RX6) (T := TX6) (N := 11) hx hb hts hinX6 hown hK.1 hP 0 rfl rfl 0 (by decide) fl_12 (fun _ h9 => h9) rfl dX6_kinds_26 ?_
          refine va_get (D := E.1) (ci := 5) (v := .ref a1) (C := RX5) (T := TX5) (N := 7) hx hb hts hinX5 hown hK.1 hP 1 rfl rfl 1 (by decide) fl_97 (fun _ h9 => h9) rfl dX6_kinds_29 ?_
          refine lv_iload_n hx hb dX6_kinds_32 rfl (lv_at hl 3 rfl) ?_
          refine ild hx hb hK hP 3 rfl (j := j) rfl (by omega) (by decide) dX6_kinds_33 ?_
          refine cwVi (As := [.int (nI j), .int (nI k), .int (mn j)]) (rest := []) ⟨hx, hb, hml, hown, hts⟩ (c_X6_couldBe l E _ g0 h0 k0 gs ht hd ho hr fo wy tr lf a0 a1 a2 a3 a4 n mo kd mn pu ro wo b0 b1 b2 b3 b4 n2 mo2 kd2 mn2 pu2 ro2 wo2 s0 s1 s2 rc rs rw rf j (nI k) (mn j) (by first | assumption | omega) (by rw [upd_self mn j]; exact hFR.kin j (by omega)) (by first | assumption | omega) (by first | assumption | omega)) (cwV 3 hts gX6_kinds_X6_couldBe rfl rfl rfl (by decide +kernel) ⟨Nat.le_of_ble_eq_true rfl, Nat.le_of_ble_eq_true rfl⟩) hK hP hD hS hA [0, 1, 2, 3, 4, 5, 6, 7, 8, 9, 10, 11, 12, 13, 14, 15, 16] (by decide) rfl [g0, h0, a0, a1, a2, a3, a4, k0, b0, b1, b2, b3, b4, hr, s0, s1, s2] (fun _ => rfl) rfl 0 rfl rfl rfl rfl hl.1 rfl (catLe (Nat.le_of_ble_eq_true rfl)) dX6_kinds_34 ⟨Nat.zero_le _, Nat.zero_le _⟩ (fun r_4 u_5 H locs hwr_4 hP hD hS => ?_)
          have hP : va_P E.1 vwCl [ob g0 6 [.ref h0, .ref k0, .ref gs, .ref ht, .ref hd, .ref ho, .ref hr, .ref fo, .ref wy, .int tr, .int lf], ob h0 5 [.ref a0, .ref a1, .ref a2, .ref a3, .ref a4, .int (nI n), .int mo], ar E a0 6 kd, ar E a1 6 mn, ar E a2 6 pu, ar E a3 6 ro, ar E a4 6 wo, ob k0 5 [.ref b0, .ref b1, .ref b2, .ref b3, .ref b4, .int (nI u_5.1), .int u_5.2.1], ar E b0 6 u_5.2.2.1, ar E b1 6 u_5.2.2.2.1, ar E b2 6 u_5.2.2.2.2.1, ar E b3 6 u_5.2.2.2.2.2.1, ar E b4 6 u_5.2.2.2.2.2.2, ob hr 2 [.ref s0, .ref s1, .ref s2, .int (nI rc)], ar E s0 8 rs, ar E s1 8 rw, ar E s2 8 rf] H := hP
          have hD : va_D A [ob g0 6 [.ref h0, .ref k0, .ref gs, .ref ht, .ref hd, .ref ho, .ref hr, .ref fo, .ref wy, .int tr, .int lf], ob h0 5 [.ref a0, .ref a1, .ref a2, .ref a3, .ref a4, .int (nI n), .int mo], ar E a0 6 kd, ar E a1 6 mn, ar E a2 6 pu, ar E a3 6 ro, ar E a4 6 wo, ob k0 5 [.ref b0, .ref b1, .ref b2, .ref b3, .ref b4, .int (nI u_5.1), .int u_5.2.1], ar E b0 6 u_5.2.2.1, ar E b1 6 u_5.2.2.2.1, ar E b2 6 u_5.2.2.2.2.1, ar E b3 6 u_5.2.2.2.2.2.1, ar E b4 6 u_5.2.2.2.2.2.2, ob hr 2 [.ref s0, .ref s1, .ref s2, .int (nI rc)], ar E s0 8 rs, ar E s1 8 rw, ar E s2 8 rf] := hD
          subst hwr_4
          refine ifB_eq (P := cbP n (upd kd j (nI k)) (upd mn j (mn j)) pu rs rw rf rc) (tgt := 46) hx hb dX6_kinds_37 (by decide) (fun c_6 => ?_) (fun c_6 => ?_)
          ·
            refine lv_iinc (v := nI (k + 1)) (lv' := [(3, .int (nI (k + 1))), (2, .int (kdS n kd mn pu rs rw rf rc j k)), (0, .ref g0), (1, .int (nI j))]) hx hb dX6_kinds_46 hl (k := 0) rfl (nI_inc k) (by decide) rfl (fun ls hl => ?_)
            refine lv_goto (tgt := 17) hx hb dX6_kinds_49 (by decide) ?_
            have hb : ¬ (cbP n (upd kd j (nI k)) mn pu rs rw rf rc) := by have h9 := c_6; rwa [upd_self mn j] at h9
            have eS : kdS n kd mn pu rs rw rf rc j (k + 1) = kdS n kd mn pu rs rw rf rc j k := if_neg hb
            have hl : lv_has ls 4 [(3, .int (nI (k + 1))), (2, .int (kdS n kd mn pu rs rw rf rc j (k + 1))), (0, .ref g0), (1, .int (nI j))] := by rw [eS]; exact lv_sub hl [0, 1, 2, 3] rfl
            exact ih17 (k + 1) u_5.1 u_5.2.1 u_5.2.2.1 u_5.2.2.2.1 u_5.2.2.2.2.1 u_5.2.2.2.2.2.1 u_5.2.2.2.2.2.2 (by omega) (by omega) _ _ hP hD hS ls (lv_sub hl [0, 1, 2, 3] rfl)
          ·
            refine lv_iload_n hx hb dX6_kinds_40 rfl (lv_at hl 1 rfl) ?_
            refine lv_iconst (v := 1) hx hb dX6_kinds_41 (by decide) ?_
            refine lv_iload_n hx hb dX6_kinds_42 rfl (lv_at hl 0 rfl) ?_
            refine lv_ishl hx hb dX6_kinds_43 ?_
            rw [shl1 k (by omega)]
            refine lv_ior hx hb dX6_kinds_44 ?_
            refine lv_istore_n (lv' := [(2, .int ((kdS n kd mn pu rs rw rf rc j k) ||| (nI (2 ^ k)))), (3, .int (nI k)), (0, .ref g0), (1, .int (nI j))]) hx hb dX6_kinds_45 rfl hl (by decide) rfl (fun ls hl => ?_)
            refine lv_iinc (v := nI (k + 1)) (lv' := [(3, .int (nI (k + 1))), (2, .int ((kdS n kd mn pu rs rw rf rc j k) ||| (nI (2 ^ k)))), (0, .ref g0), (1, .int (nI j))]) hx hb dX6_kinds_46 hl (k := 1) rfl (nI_inc k) (by decide) rfl (fun ls hl => ?_)
            refine lv_goto (tgt := 17) hx hb dX6_kinds_49 (by decide) ?_
            have hb : (cbP n (upd kd j (nI k)) mn pu rs rw rf rc) := by have h9 := c_6; rwa [upd_self mn j] at h9
            have eS : kdS n kd mn pu rs rw rf rc j (k + 1) = (kdS n kd mn pu rs rw rf rc j k ||| nI (2 ^ k)) := if_pos hb
            have hl : lv_has ls 4 [(3, .int (nI (k + 1))), (2, .int (kdS n kd mn pu rs rw rf rc j (k + 1))), (0, .ref g0), (1, .int (nI j))] := by rw [eS]; exact lv_sub hl [0, 1, 2, 3] rfl
            exact ih17 (k + 1) u_5.1 u_5.2.1 u_5.2.2.1 u_5.2.2.2.1 u_5.2.2.2.2.1 u_5.2.2.2.2.2.1 u_5.2.2.2.2.2.2 (by omega) (by omega) _ _ hP hD hS ls (lv_sub hl [0, 1, 2, 3] rfl)
    exact L17 _ 0 n2 mo2 kd2 mn2 pu2 ro2 wo2 (by omega) (Nat.lt_succ_self _) _ _ hP hD hS ls (lv_sub hl [0, 1, 2, 3] rfl)
  ·
    refine lv_iconst (v := (-1)) hx hb dX6_kinds_11 (by decide) ?_
    exact hret _ _ _ _ _ (n2, mo2, kd2, mn2, pu2, ro2, wo2) dX6_kinds_12 hS hP (by simp [spKinds, c_2])
set_option maxHeartbeats 4000000 in
set_option maxRecDepth 100000 in
theorem c_X6_countWays (l : Launch) (E : gE) (sz : Nat) (g0 : Nat) (h0 : Nat) (k0 : Nat) (gs : Nat) (ht : Nat) (hd : Nat) (ho : Nat) (hr : Nat) (fo : Nat) (wy : Nat) (tr : Int32) (lf : Int32) (a0 : Nat) (a1 : Nat) (a2 : Nat) (a3 : Nat) (a4 : Nat) (n : Nat) (mo : Int32) (ro : Nat → Int32) (wv : Nat → Int64) (hn : n ≤ 6) : Met l yX6_countWays wsX6_countWays ({ frames := 0, cells := 0, slots := 0, locals := 0 }) (PW E [.ref g0] [ob g0 6 [.ref h0, .ref k0, .ref gs, .ref ht, .ref hd, .ref ho, .ref hr, .ref fo, .ref wy, .int tr, .int lf], ob h0 5 [.ref a0, .ref a1, .ref a2, .ref a3, .ref a4, .int (nI n), .int mo], ar E a3 6 ro, al E wy 109 wv] sz) (QWv E (fun _ => True) (fun (_ : Unit) => [ob g0 6 [.ref h0, .ref k0, .ref gs, .ref ht, .ref hd, .ref ho, .ref hr, .ref fo, .ref wy, .int tr, .int lf], ob h0 5 [.ref a0, .ref a1, .ref a2, .ref a3, .ref a4, .int (nI n), .int mo], ar E a3 6 ro, al E wy 109 (wyL ro n)]) (va_A [ob g0 6 [.ref h0, .ref k0, .ref gs, .ref ht, .ref hd, .ref ho, .ref hr, .ref fo, .ref wy, .int tr, .int lf], ob h0 5 [.ref a0, .ref a1, .ref a2, .ref a3, .ref a4, .int (nI n), .int mo], ar E a3 6 ro, al E wy 109 wv] sz)) 0 0 (va_A [ob g0 6 [.ref h0, .ref k0, .ref gs, .ref ht, .ref hd, .ref ho, .ref hr, .ref fo, .ref wy, .int tr, .int lf], ob h0 5 [.ref a0, .ref a1, .ref a2, .ref a3, .ref a4, .int (nI n), .int mo], ar E a3 6 ro, al E wy 109 wv] sz) := by
  refine mkWv (cc := cX6_countWays) (maxL := 6) (by decide) rfl (Nat.le_of_ble_eq_true rfl) ?_
  intro p e s m args below meth c QQ A hx hb hml hown hmn hts hK hA hP hD hS hret ls hl
  have hown : s.vm.findClass RX6 = some m.cls := hown
  have hl : lv_has ls 6 [(0, .ref g0)] := hl
  have hinX5 : ∀ w ∈ wsX50, w ∈ wsX6_countWays := by decide +kernel
  have hinX6 : ∀ w ∈ wsX60, w ∈ wsX6_countWays := by decide +kernel
  have fl_12 := hts (.fieldLink RX6 12 "GuardAbacus" "wires" "LGuardAbacus$Wires;") (by decide +kernel)
  have fl_59 := hts (.fieldLink RX6 59 "GuardAbacus" "ways" "[J") (by decide +kernel)
  have fl_89 := hts (.fieldLink RX6 89 "GuardAbacus$Wires" "count" "I") (by decide +kernel)
  have fl_100 := hts (.fieldLink RX6 100 "GuardAbacus$Wires" "room" "[I") (by decide +kernel)
  refine lv_iconst (v := 0) hx hb dX6_countWays_0 (by decide) ?_
  refine lv_istore_n (lv' := [(1, .int 0), (0, .ref g0)]) hx hb dX6_countWays_1 rfl hl (by decide) rfl (fun ls hl => ?_)
  rw [← fil_0 wyZ wv] at hP hD
  have L2 : ∀ (fuel : Nat) (k : Nat), (k ≤ 109) → (109 - k) < fuel → ∀ (H : Heap) (locs : List Loc), va_P E.1 vwCl [ob g0 6 [.ref h0, .ref k0, .ref gs, .ref ht, .ref hd, .ref ho, .ref hr, .ref fo, .ref wy, .int tr, .int lf], ob h0 5 [.ref a0, .ref a1, .ref a2, .ref a3, .ref a4, .int (nI n), .int mo], ar E a3 6 ro, al E wy 109 (fil wyZ wv k)] H → va_D A [ob g0 6 [.ref h0, .ref k0, .ref gs, .ref ht, .ref hd, .ref ho, .ref hr, .ref fo, .ref wy, .int tr, .int lf], ob h0 5 [.ref a0, .ref a1, .ref a2, .ref a3, .ref a4, .int (nI n), .int mo], ar E a3 6 ro, al E wy 109 (fil wyZ wv k)] → va_S A s.heap H locs → ∀ ls : Array Slot, lv_has ls 6 [(1, .int (nI k)), (0, .ref g0)] → W p l e ({ frames := 0, cells := 0, slots := 0, locals := 0 }) s m args below meth c H locs 0 0 QQ (F0 m 2 ls []) := by
    intro fuel
    induction fuel with
    | zero => intro k hk hf; exact absurd hf (Nat.not_lt_zero _)
    | succ fuel ih2 =>
      intro k hk hf2 H locs hP hD hS ls hl
      refine lv_iload_n hx hb dX6_countWays_2 rfl (lv_at hl 0 rfl) ?_
      refine lv_bipush (v := 108) hx hb dX6_countWays_3 (by decide) ?_
      refine icmpN_gt (tgt := 29) (a := k) (b := 108) hx hb rfl rfl (by omega) (by omega) dX6_countWays_5 (by decide) (fun c_1 => ?_) (fun c_1 => ?_)
      ·
        obtain rfl : k = 109 := by omega
        have hP := va_P_al hP 3 wy 109 (g := wyL ro 0) rfl (fun j hj => fil_in hj)
        have hP : va_P E.1 vwCl [ob g0 6 [.ref h0, .ref k0, .ref gs, .ref ht, .ref hd, .ref ho, .ref hr, .ref fo, .ref wy, .int tr, .int lf], ob h0 5 [.ref a0, .ref a1, .ref a2, .ref a3, .ref a4, .int (nI n), .int mo], ar E a3 6 ro, al E wy 109 (wyL ro 0)] H := hP
        have hD : va_D A [ob g0 6 [.ref h0, .ref k0, .ref gs, .ref ht, .ref hd, .ref ho, .ref hr, .ref fo, .ref wy, .int tr, .int lf], ob h0 5 [.ref a0, .ref a1, .ref a2, .ref a3, .ref a4, .int (nI n), .int mo], ar E a3 6 ro, al E wy 109 (wyL ro 0)] := va_D_addr hD [g0, h0, a3, wy] rfl rfl
        refine lv_iconst (v := 0) hx hb dX6_countWays_29 (by decide) ?_
        refine lv_istore_n (lv' := [(1, .int 0), (0, .ref g0)]) hx hb dX6_countWays_30 rfl hl (by decide) rfl (fun ls hl => ?_)
        have L31 : ∀ (fuel : Nat) (z : Nat), (z ≤ n) → (n - z) < fuel → ∀ (H : Heap) (locs : List Loc), va_P E.1 vwCl [ob g0 6 [.ref h0, .ref k0, .ref gs, .ref ht, .ref hd, .ref ho, .ref hr, .ref fo, .ref wy, .int tr, .int lf], ob h0 5 [.ref a0, .ref a1, .ref a2, .ref a3, .ref a4, .int (nI n), .int mo], ar E a3 6 ro, al E wy 109 (wyL ro z)] H → va_D A [ob g0 6 [.ref h0, .ref k0, .ref gs, .ref ht, .ref hd, .ref ho, .ref hr, .ref fo, .ref wy, .int tr, .int lf], ob h0 5 [.ref a0, .ref a1, .ref a2, .ref a3, .ref a4, .int (nI n), .int mo], ar E a3 6 ro, al E wy 109 (wyL ro z)] → va_S A s.heap H locs → ∀ ls : Array Slot, lv_has ls 6 [(1, .int (nI z)), (0, .ref g0)] → W p l e ({ frames := 0, cells := 0, slots := 0, locals := 0 }) s m args below meth c H locs 0 0 QQ (F0 m 31 ls []) := by
          intro fuel
          induction fuel with
          | zero => intro z hz hf; exact absurd hf (Nat.not_lt_zero _)
          | succ fuel ih31 =>
            intro z hz hf31 H locs hP hD hS ls hl
            refine lv_iload_n hx hb dX6_countWays_31 rfl (lv_at hl 0 rfl) ?_
            refine lv_aload_n hx hb dX6_countWays_32 rfl (lv_at hl 1 rfl) ?_
            refine va_get (D := E.1) (ci := 6) (v := .ref h0) (C := RX6) (T := TX6) (N := 11) hx hb hts hinX6 hown hK.1 hP 0 rfl rfl 0 (by decide) fl_12 (fun _ h9 => h9) rfl dX6_countWays_33 ?_
            refine va_get (D := E.1) (ci := 5) (v := .int (nI n)) (C := RX5) (T := TX5) (N := 7) hx hb hts hinX5 hown hK.1 hP 1 rfl rfl 5 (by decide) fl_89 (fun _ h9 => h9) rfl dX6_countWays_36 ?_
            refine icmpN_ge (tgt := 111) (a := z) (b := n) hx hb rfl rfl (by omega) (by omega) dX6_countWays_39 (by decide) (fun c_2 => ?_) (fun c_2 => ?_)
            ·
              obtain rfl : n = z := by omega
              exact hret _ _ _ _ () dX6_countWays_111 hS hP trivial
            ·
              refine lv_bipush (v := 108) hx hb dX6_countWays_42 (by decide) ?_
              refine lv_istore_n (lv' := [(2, .int 108), (1, .int (nI z)), (0, .ref g0)]) hx hb dX6_countWays_44 rfl hl (by decide) rfl (fun ls hl => ?_)
              have hP := va_P_al hP 3 wy 109 (g := wyM (wyL ro z) (wyL ro (z + 1)) 109) rfl (fun j hj => (wyM_in hj).symm)
              have hP : va_P E.1 vwCl [ob g0 6 [.ref h0, .ref k0, .ref gs, .ref ht, .ref hd, .ref ho, .ref hr, .ref fo, .ref wy, .int tr, .int lf], ob h0 5 [.ref a0, .ref a1, .ref a2, .ref a3, .ref a4, .int (nI n), .int mo], ar E a3 6 ro, al E wy 109 (wyM (wyL ro z) (wyL ro (z + 1)) 109)] H := hP
              have hD : va_D A [ob g0 6 [.ref h0, .ref k0, .ref gs, .ref ht, .ref hd, .ref ho, .ref hr, .ref fo, .ref wy, .int tr, .int lf], ob h0 5 [.ref a0, .ref a1, .ref a2, .ref a3, .ref a4, .int (nI n), .int mo], ar E a3 6 ro, al E wy 109 (wyM (wyL ro z) (wyL ro (z + 1)) 109)] := va_D_addr hD [g0, h0, a3, wy] rfl rfl
              have hl : lv_has ls 6 [(2, .int (nI 109 - 1)), (1, .int (nI z)), (0, .ref g0)] := hl
              have L45 : ∀ (fuel : Nat) (r : Nat), (r ≤ 109) → r < fuel → ∀ (H : Heap) (locs : List Loc), va_P E.1 vwCl [ob g0 6 [.ref h0, .ref k0, .ref gs, .ref ht, .ref hd, .ref ho, .ref hr, .ref fo, .ref wy, .int tr, .int lf], ob h0 5 [.ref a0, .ref a1, .ref a2, .ref a3, .ref a4, .int (nI n), .int mo], ar E a3 6 ro, al E wy 109 (wyM (wyL ro z) (wyL ro (z + 1)) r)] H → va_D A [ob g0 6 [.ref h0, .ref k0, .ref gs, .ref ht, .ref hd, .ref ho, .ref hr, .ref fo, .ref wy, .int tr, .int lf], ob h0 5 [.ref a0, .ref a1, .ref a2, .ref a3, .ref a4, .int (nI n), .int mo], ar E a3 6 ro, al E wy 109 (wyM (wyL ro z) (wyL ro (z + 1)) r)] → va_S A s.heap H locs → ∀ ls : Array Slot, lv_has ls 6 [(2, .int (nI r - 1)), (1, .int (nI z)), (0, .ref g0)] → W p l e ({ frames := 0, cells := 0, slots := 0, locals := 0 }) s m args below meth c H locs 0 0 QQ (F0 m 45 ls []) := by
                intro fuel
                induction fuel with
                | zero => intro r hr1 hf; exact absurd hf (Nat.not_lt_zero _)
                | succ fuel ih45 =>
                  intro r hr1 hf45 H locs hP hD hS ls hl
                  rcases r with _ | r
                  ·
                    have hl : lv_has ls 6 [(2, .int (-1)), (1, .int (nI z)), (0, .ref g0)] := hl
                    refine lv_iload_n hx hb dX6_countWays_45 rfl (lv_at hl 0 rfl) ?_
                    refine lv_if_lt (tgt := 105) hx hb dX6_countWays_46 (by decide) (fun cz => ?_) (fun cz => ?_)
                    ·
                      have hP := va_P_al hP 3 wy 109 (g := wyL ro (z + 1)) rfl (fun j hj => if_neg (Nat.not_lt_zero j))
                      have hP : va_P E.1 vwCl [ob g0 6 [.ref h0, .ref k0, .ref gs, .ref ht, .ref hd, .ref ho, .ref hr, .ref fo, .ref wy, .int tr, .int lf], ob h0 5 [.ref a0, .ref a1, .ref a2, .ref a3, .ref a4, .int (nI n), .int mo], ar E a3 6 ro, al E wy 109 (wyL ro (z + 1))] H := hP
                      have hD : va_D A [ob g0 6 [.ref h0, .ref k0, .ref gs, .ref ht, .ref hd, .ref ho, .ref hr, .ref fo, .ref wy, .int tr, .int lf], ob h0 5 [.ref a0, .ref a1, .ref a2, .ref a3, .ref a4, .int (nI n), .int mo], ar E a3 6 ro, al E wy 109 (wyL ro (z + 1))] := va_D_addr hD [g0, h0, a3, wy] rfl rfl
                      refine lv_iinc (v := nI (z + 1)) (lv' := [(1, .int (nI (z + 1))), (2, .int (-1)), (0, .ref g0)]) hx hb dX6_countWays_105 hl (k := 1) rfl (nI_inc z) (by decide) rfl (fun ls hl => ?_)
                      refine lv_goto (tgt := 31) hx hb dX6_countWays_108 (by decide) ?_
                      exact ih31 (z + 1) (by omega) (by omega) _ _ hP hD hS ls (lv_sub hl [0, 2] rfl)
                    ·
                      exact absurd (by decide) cz
                  ·
                    rw [nI_pred] at hl
                    have hl : lv_has ls 6 [(2, .int (nI r)), (1, .int (nI z)), (0, .ref g0)] := hl
                    refine lv_iload_n hx hb dX6_countWays_45 rfl (lv_at hl 0 rfl) ?_
                    refine ifN_lt (tgt := 105) (a := r) hx hb rfl (by omega) dX6_countWays_46 (by decide) ?_
                    refine lv_lconst (v := 0) hx hb dX6_countWays_49 (by decide) ?_
                    refine lv_lstore_n (lv' := [(3, .long 0), (2, .int (nI r)), (1, .int (nI z)), (0, .ref g0)]) hx hb dX6_countWays_50 rfl hl (by decide) rfl (fun ls hl => ?_)
                    refine lv_iconst (v := 0) hx hb dX6_countWays_51 (by decide) ?_
                    refine lv_istore (lv' := [(5, .int 0), (3, .long 0), (2, .int (nI r)), (1, .int (nI z)), (0, .ref g0)]) hx hb dX6_countWays_52 hl (by decide) rfl (fun ls hl => ?_)
                    have L54 : ∀ (fuel : Nat) (y : Nat), (y ≤ r + 1) → (y ≤ wyK (ro z) r) → (109 - y) < fuel → ∀ (H : Heap) (locs : List Loc), va_P E.1 vwCl [ob g0 6 [.ref h0, .ref k0, .ref gs, .ref ht, .ref hd, .ref ho, .ref hr, .ref fo, .ref wy, .int tr, .int lf], ob h0 5 [.ref a0, .ref a1, .ref a2, .ref a3, .ref a4, .int (nI n), .int mo], ar E a3 6 ro, al E wy 109 (wyM (wyL ro z) (wyL ro (z + 1)) (r + 1))] H → va_D A [ob g0 6 [.ref h0, .ref k0, .ref gs, .ref ht, .ref hd, .ref ho, .ref hr, .ref fo, .ref wy, .int tr, .int lf], ob h0 5 [.ref a0, .ref a1, .ref a2, .ref a3, .ref a4, .int (nI n), .int mo], ar E a3 6 ro, al E wy 109 (wyM (wyL ro z) (wyL ro (z + 1)) (r + 1))] → va_S A s.heap H locs → ∀ ls : Array Slot, lv_has ls 6 [(5, .int (nI y)), (3, .long (wyI (wyL ro z) r y)), (2, .int (nI r)), (1, .int (nI z)), (0, .ref g0)] → W p l e ({ frames := 0, cells := 0, slots := 0, locals := 0 }) s m args below meth c H locs 0 0 QQ (F0 m 54 ls []) := by
                      intro fuel
                      induction fuel with
                      | zero => intro y hy1 hy2 hf; exact absurd hf (Nat.not_lt_zero _)
                      | succ fuel ih54 =>
                        intro y hy1 hy2 hf54 H locs hP hD hS ls hl
                        refine lv_iload hx hb dX6_countWays_54 (lv_at hl 0 rfl) ?_
                        refine lv_aload_n hx hb dX6_countWays_56 rfl (lv_at hl 4 rfl) ?_
                        refine va_get (D := E.1) (ci := 6) (v := .ref h0) (C := RX6) (T := TX6) (N := 11) hx hb hts hinX6 hown hK.1 hP 0 rfl rfl 0 (by decide) fl_12 (fun _ h9 => h9) rfl dX6_countWays_57 ?_
                        refine va_get (D := E.1) (ci := 5) (v := .ref a3) (C := RX5) (T := TX5) (N := 7) hx hb hts hinX5 hown hK.1 hP 1 rfl rfl 3 (by decide) fl_100 (fun _ h9 => h9) rfl dX6_countWays_60 ?_
                        refine lv_iload_n hx hb dX6_countWays_63 rfl (lv_at hl 3 rfl) ?_
                        refine ild hx hb hK hP 2 rfl (j := z) rfl (by omega) (by decide) dX6_countWays_64 ?_
                        refine lv_icmp_gt (tgt := 92) hx hb dX6_countWays_65 (by decide) (fun c_4 => ?_) (fun c_4 => ?_)
                        ·
                          have c_4b := Int32.not_le.mpr c_4
                          obtain rfl := wyK_end hy2 (by omega) (Or.inl c_4) (by omega)
                          refine lv_aload_n hx hb dX6_countWays_92 rfl (lv_at hl 4 rfl) ?_
                          refine va_get (D := E.1) (ci := 6) (v := .ref wy) (C := RX6) (T := TX6) (N := 11) hx hb hts hinX6 hown hK.1 hP 0 rfl rfl 8 (by decide) fl_59 (fun _ h9 => h9) rfl dX6_countWays_93 ?_
                          refine lv_iload_n hx hb dX6_countWays_96 rfl (lv_at hl 2 rfl) ?_
                          refine lv_lload_n hx hb dX6_countWays_97 rfl (lv_at hl 1 rfl) ?_
                          refine lst hx hb hK hP hD hS 3 rfl (j := r) rfl (by omega) (by decide) dX6_countWays_98 (fun H locs hP hD hS => ?_)
                          have hP : va_P E.1 vwCl [ob g0 6 [.ref h0, .ref k0, .ref gs, .ref ht, .ref hd, .ref ho, .ref hr, .ref fo, .ref wy, .int tr, .int lf], ob h0 5 [.ref a0, .ref a1, .ref a2, .ref a3, .ref a4, .int (nI n), .int mo], ar E a3 6 ro, al E wy 109 (vp_updL (wyM (wyL ro z) (wyL ro (z + 1)) (r + 1)) r (wyI (wyL ro z) r (wyK (ro z) r)))] H := hP
                          have hD : va_D A [ob g0 6 [.ref h0, .ref k0, .ref gs, .ref ht, .ref hd, .ref ho, .ref hr, .ref fo, .ref wy, .int tr, .int lf], ob h0 5 [.ref a0, .ref a1, .ref a2, .ref a3, .ref a4, .int (nI n), .int mo], ar E a3 6 ro, al E wy 109 (vp_updL (wyM (wyL ro z) (wyL ro (z + 1)) (r + 1)) r (wyI (wyL ro z) r (wyK (ro z) r)))] := hD
                          rw [show vp_updL (wyM (wyL ro z) (wyL ro (z + 1)) (r + 1)) r (wyI (wyL ro z) r (wyK (ro z) r)) = wyM (wyL ro z) (wyL ro (z + 1)) r from wyM_s (f := wyL ro z) (g := wyL ro (z + 1))] at hP hD
                          refine lv_iinc (v := (nI r) - 1) (lv' := [(2, .int ((nI r) - 1)), (5, .int (nI (wyK (ro z) r))), (3, .long (wyI (wyL ro z) r (wyK (ro z) r))), (1, .int (nI z)), (0, .ref g0)]) hx hb dX6_countWays_99 hl (k := 2) rfl (m1_sub _) (by decide) rfl (fun ls hl => ?_)
                          refine lv_goto (tgt := 45) hx hb dX6_countWays_102 (by decide) ?_
                          exact ih45 r (by omega) (by omega) _ _ hP hD hS ls (lv_sub hl [0, 3, 4] rfl)
                        ·
                          have c_4b := Int32.not_lt.mp c_4
                          refine lv_iload hx hb dX6_countWays_68 (lv_at hl 0 rfl) ?_
                          refine lv_iload_n hx hb dX6_countWays_70 rfl (lv_at hl 2 rfl) ?_
                          refine icmpN_gt (tgt := 92) (a := y) (b := r) hx hb rfl rfl (by omega) (by omega) dX6_countWays_71 (by decide) (fun c_5 => ?_) (fun c_5 => ?_)
                          ·
                            obtain rfl := wyK_end hy2 (by omega) (Or.inr c_5) (by omega)
                            refine lv_aload_n hx hb dX6_countWays_92 rfl (lv_at hl 4 rfl) ?_
                            refine va_get (D := E.1) (ci := 6) (v := .ref wy) (C := RX6) (T := TX6) (N := 11) hx hb hts hinX6 hown hK.1 hP 0 rfl rfl 8 (by decide) fl_59 (fun _ h9 => h9) rfl dX6_countWays_93 ?_
                            refine lv_iload_n hx hb dX6_countWays_96 rfl (lv_at hl 2 rfl) ?_
                            refine lv_lload_n hx hb dX6_countWays_97 rfl (lv_at hl 1 rfl) ?_
                            refine lst hx hb hK hP hD hS 3 rfl (j := r) rfl (by omega) (by decide) dX6_countWays_98 (fun H locs hP hD hS => ?_)
                            have hP : va_P E.1 vwCl [ob g0 6 [.ref h0, .ref k0, .ref gs, .ref ht, .ref hd, .ref ho, .ref hr, .ref fo, .ref wy, .int tr, .int lf], ob h0 5 [.ref a0, .ref a1, .ref a2, .ref a3, .ref a4, .int (nI n), .int mo], ar E a3 6 ro, al E wy 109 (vp_updL (wyM (wyL ro z) (wyL ro (z + 1)) (r + 1)) r (wyI (wyL ro z) r (wyK (ro z) r)))] H := hP
                            have hD : va_D A [ob g0 6 [.ref h0, .ref k0, .ref gs, .ref ht, .ref hd, .ref ho, .ref hr, .ref fo, .ref wy, .int tr, .int lf], ob h0 5 [.ref a0, .ref a1, .ref a2, .ref a3, .ref a4, .int (nI n), .int mo], ar E a3 6 ro, al E wy 109 (vp_updL (wyM (wyL ro z) (wyL ro (z + 1)) (r + 1)) r (wyI (wyL ro z) r (wyK (ro z) r)))] := hD
                            rw [show vp_updL (wyM (wyL ro z) (wyL ro (z + 1)) (r + 1)) r (wyI (wyL ro z) r (wyK (ro z) r)) = wyM (wyL ro z) (wyL ro (z + 1)) r from wyM_s (f := wyL ro z) (g := wyL ro (z + 1))] at hP hD
                            refine lv_iinc (v := (nI r) - 1) (lv' := [(2, .int ((nI r) - 1)), (5, .int (nI (wyK (ro z) r))), (3, .long (wyI (wyL ro z) r (wyK (ro z) r))), (1, .int (nI z)), (0, .ref g0)]) hx hb dX6_countWays_99 hl (k := 2) rfl (m1_sub _) (by decide) rfl (fun ls hl => ?_)
                            refine lv_goto (tgt := 45) hx hb dX6_countWays_102 (by decide) ?_
                            exact ih45 r (by omega) (by omega) _ _ hP hD hS ls (lv_sub hl [0, 3, 4] rfl)
                          ·
                            refine lv_lload_n hx hb dX6_countWays_74 rfl (lv_at hl 1 rfl) ?_
                            refine lv_aload_n hx hb dX6_countWays_75 rfl (lv_at hl 4 rfl) ?_
                            refine va_get (D := E.1) (ci := 6) (v := .ref wy) (C := RX6) (T := TX6) (N := 11) hx hb hts hinX6 hown hK.1 hP 0 rfl rfl 8 (by decide) fl_59 (fun _ h9 => h9) rfl dX6_countWays_76 ?_
                            refine lv_iload_n hx hb dX6_countWays_79 rfl (lv_at hl 2 rfl) ?_
                            refine lv_iload hx hb dX6_countWays_80 (lv_at hl 0 rfl) ?_
                            refine N_isub (a := r) (b := y) hx hb rfl rfl (by omega) dX6_countWays_82 ?_
                            refine lld hx hb hK hP 3 rfl (j := r - y) rfl (by omega) (by decide) dX6_countWays_83 ?_
                            rw [show wyM (wyL ro z) (wyL ro (z + 1)) (r + 1) (r - y) = wyL ro z (r - y) from wyM_in (by omega)]
                            refine lv_ladd hx hb dX6_countWays_84 ?_
                            refine lv_lstore_n (lv' := [(3, .long ((wyI (wyL ro z) r y) + (wyL ro z (r - y)))), (5, .int (nI y)), (2, .int (nI r)), (1, .int (nI z)), (0, .ref g0)]) hx hb dX6_countWays_85 rfl hl (by decide) rfl (fun ls hl => ?_)
                            refine lv_iinc (v := nI (y + 1)) (lv' := [(5, .int (nI (y + 1))), (3, .long ((wyI (wyL ro z) r y) + (wyL ro z (r - y)))), (2, .int (nI r)), (1, .int (nI z)), (0, .ref g0)]) hx hb dX6_countWays_86 hl (k := 1) rfl (nI_inc y) (by decide) rfl (fun ls hl => ?_)
                            refine lv_goto (tgt := 54) hx hb dX6_countWays_89 (by decide) ?_
                            exact ih54 (y + 1) (by omega) (wyK_lt (by omega) c_4 (by omega) (by omega)) (by omega) _ _ hP hD hS ls (lv_sub hl [0, 1, 2, 3, 4] rfl)
                    exact L54 _ 0 (by omega) (Nat.zero_le _) (Nat.lt_succ_self _) _ _ hP hD hS ls (lv_sub hl [0, 1, 2, 3, 4] rfl)
              exact L45 _ 109 (by omega) (Nat.lt_succ_self _) _ _ hP hD hS ls (lv_sub hl [0, 1, 2] rfl)
        exact L31 _ 0 (by omega) (Nat.lt_succ_self _) _ _ hP hD hS ls (lv_sub hl [0, 1] rfl)
      ·
        refine lv_aload_n hx hb dX6_countWays_8 rfl (lv_at hl 1 rfl) ?_
        refine va_get (D := E.1) (ci := 6) (v := .ref wy) (C := RX6) (T := TX6) (N := 11) hx hb hts hinX6 hown hK.1 hP 0 rfl rfl 8 (by decide) fl_59 (fun _ h9 => h9) rfl dX6_countWays_9 ?_
        refine lv_iload_n hx hb dX6_countWays_12 rfl (lv_at hl 0 rfl) ?_
        refine lv_iload_n hx hb dX6_countWays_13 rfl (lv_at hl 0 rfl) ?_
        refine ifN_ne (tgt := 21) (a := k) hx hb rfl (by omega) dX6_countWays_14 (by decide) (fun c_6 => ?_) (fun c_6 => ?_)
        ·
          refine lv_lconst (v := 0) hx hb dX6_countWays_21 (by decide) ?_
          rw [show (0 : Int64) = wyZ k from (if_neg (by omega)).symm]
          refine lst hx hb hK hP hD hS 3 rfl (j := k) rfl (by omega) (by decide) dX6_countWays_22 (fun H locs hP hD hS => ?_)
          have hP : va_P E.1 vwCl [ob g0 6 [.ref h0, .ref k0, .ref gs, .ref ht, .ref hd, .ref ho, .ref hr, .ref fo, .ref wy, .int tr, .int lf], ob h0 5 [.ref a0, .ref a1, .ref a2, .ref a3, .ref a4, .int (nI n), .int mo], ar E a3 6 ro, al E wy 109 (vp_updL (fil wyZ wv k) k (wyZ k))] H := hP
          have hD : va_D A [ob g0 6 [.ref h0, .ref k0, .ref gs, .ref ht, .ref hd, .ref ho, .ref hr, .ref fo, .ref wy, .int tr, .int lf], ob h0 5 [.ref a0, .ref a1, .ref a2, .ref a3, .ref a4, .int (nI n), .int mo], ar E a3 6 ro, al E wy 109 (vp_updL (fil wyZ wv k) k (wyZ k))] := hD
          rw [show vp_updL (fil wyZ wv k) k (wyZ k) = fil wyZ wv (k + 1) from fil_sL wyZ wv k] at hP hD
          refine lv_iinc (v := nI (k + 1)) (lv' := [(1, .int (nI (k + 1))), (0, .ref g0)]) hx hb dX6_countWays_23 hl (k := 0) rfl (nI_inc k) (by decide) rfl (fun ls hl => ?_)
          refine lv_goto (tgt := 2) hx hb dX6_countWays_26 (by decide) ?_
          exact ih2 (k + 1) (by omega) (by omega) _ _ hP hD hS ls (lv_sub hl [0, 1] rfl)
        ·
          refine lv_lconst (v := 1) hx hb dX6_countWays_17 (by decide) ?_
          refine lv_goto (tgt := 22) hx hb dX6_countWays_18 (by decide) ?_
          rw [show (1 : Int64) = wyZ k from (if_pos (by omega)).symm]
          refine lst hx hb hK hP hD hS 3 rfl (j := k) rfl (by omega) (by decide) dX6_countWays_22 (fun H locs hP hD hS => ?_)
          have hP : va_P E.1 vwCl [ob g0 6 [.ref h0, .ref k0, .ref gs, .ref ht, .ref hd, .ref ho, .ref hr, .ref fo, .ref wy, .int tr, .int lf], ob h0 5 [.ref a0, .ref a1, .ref a2, .ref a3, .ref a4, .int (nI n), .int mo], ar E a3 6 ro, al E wy 109 (vp_updL (fil wyZ wv k) k (wyZ k))] H := hP
          have hD : va_D A [ob g0 6 [.ref h0, .ref k0, .ref gs, .ref ht, .ref hd, .ref ho, .ref hr, .ref fo, .ref wy, .int tr, .int lf], ob h0 5 [.ref a0, .ref a1, .ref a2, .ref a3, .ref a4, .int (nI n), .int mo], ar E a3 6 ro, al E wy 109 (vp_updL (fil wyZ wv k) k (wyZ k))] := hD
          rw [show vp_updL (fil wyZ wv k) k (wyZ k) = fil wyZ wv (k + 1) from fil_sL wyZ wv k] at hP hD
          refine lv_iinc (v := nI (k + 1)) (lv' := [(1, .int (nI (k + 1))), (0, .ref g0)]) hx hb dX6_countWays_23 hl (k := 0) rfl (nI_inc k) (by decide) rfl (fun ls hl => ?_)
          refine lv_goto (tgt := 2) hx hb dX6_countWays_26 (by decide) ?_
          exact ih2 (k + 1) (by omega) (by omega) _ _ hP hD hS ls (lv_sub hl [0, 1] rfl)
  exact L2 _ 0 (by omega) (Nat.lt_succ_self _) _ _ hP hD hS ls (lv_sub hl [0, 1] rfl)
set_option maxHeartbeats 4000000 in
set_option maxRecDepth 100000 in
theorem c_X6_greatestDivisor (l : Launch) (E : gE) (a : Int64) (b : Int64) : Met l yX6_greatestDivisor wsX6_greatestDivisor ({ frames := 0, cells := 0, slots := 0, locals := 0 }) (PR E [.long a, .long b] []) (vp_Sl (fun r => gdP a b r)) 0 0 (fun _ => False) := by
  refine mkRl (cc := cX6_greatestDivisor) (maxL := 11) (by decide) rfl (Nat.le_of_ble_eq_true rfl) ?_
  intro p e s m args below meth c QQ hx hb hml hown hmn hts hK hP hret ls hl
  have hown : s.vm.findClass RX6 = some m.cls := hown
  have hl : lv_has ls 11 [(0, .long a), (2, .long b)] := hl
  refine lv_lload_n hx hb dX6_greatestDivisor_0 rfl (lv_at hl 0 rfl) ?_
  refine lv_lstore (lv' := [(4, .long a), (0, .long a), (2, .long b)]) hx hb dX6_greatestDivisor_1 hl (by decide) rfl (fun ls hl => ?_)
  refine lv_lload_n hx hb dX6_greatestDivisor_3 rfl (lv_at hl 2 rfl) ?_
  refine lv_lstore (lv' := [(6, .long b), (4, .long a), (0, .long a), (2, .long b)]) hx hb dX6_greatestDivisor_4 hl (by decide) rfl (fun ls hl => ?_)
  refine lv_iconst (v := 0) hx hb dX6_greatestDivisor_6 (by decide) ?_
  refine lv_istore (lv' := [(8, .int 0), (6, .long b), (4, .long a), (0, .long a), (2, .long b)]) hx hb dX6_greatestDivisor_7 hl (by decide) rfl (fun ls hl => ?_)
  have L9 : ∀ (fuel : Nat) (k : Nat), (k ≤ 200) → (200 - k) < fuel → ∀ ls : Array Slot, lv_has ls 11 [(8, .int (nI k)), (6, .long ((gdF a b k).2)), (4, .long ((gdF a b k).1)), (0, .long a), (2, .long b)] → W p l e ({ frames := 0, cells := 0, slots := 0, locals := 0 }) s m args below meth c s.heap [] 0 0 QQ (F0 m 9 ls []) := by
    intro fuel
    induction fuel with
    | zero => intro k hk hf; exact absurd hf (Nat.not_lt_zero _)
    | succ fuel ih9 =>
      intro k hk hf9 ls hl
      refine lv_iload hx hb dX6_greatestDivisor_9 (lv_at hl 0 rfl) ?_
      refine lv_sipush (v := 200) hx hb dX6_greatestDivisor_11 (by decide) ?_
      refine icmpN_ge (tgt := 45) (a := k) (b := 200) hx hb rfl rfl (by omega) (by omega) dX6_greatestDivisor_14 (by decide) (fun c_1 => ?_) (fun c_1 => ?_)
      ·
        obtain rfl : k = 200 := by omega
        refine lv_lload hx hb dX6_greatestDivisor_45 (lv_at hl 2 rfl) ?_
        exact hret _ _ _ dX6_greatestDivisor_47 (by rw [gdP])
      ·
        refine lv_lload hx hb dX6_greatestDivisor_17 (lv_at hl 1 rfl) ?_
        refine lv_lconst (v := 0) hx hb dX6_greatestDivisor_19 (by decide) ?_
        refine W.lcmp hx hb dX6_greatestDivisor_20 ?_
        refine lv_if_eq (tgt := 45) hx hb dX6_greatestDivisor_21 (by decide) (fun c_gd => ?_) (fun c_gd => ?_)
        ·
          refine lv_lload hx hb dX6_greatestDivisor_45 (lv_at hl 2 rfl) ?_
          exact hret _ _ _ dX6_greatestDivisor_47 (by rw [gdP, gdF_stop ((lg_cmp_eq _ _).mp c_gd) 200 (by omega)])
        ·
          refine lv_lload hx hb dX6_greatestDivisor_24 (lv_at hl 2 rfl) ?_
          refine lv_lload hx hb dX6_greatestDivisor_26 (lv_at hl 1 rfl) ?_
          refine lv_lrem hx hb dX6_greatestDivisor_28 (fun h => c_gd ((lg_cmp_eq _ _).mpr h)) ?_
          refine lv_lstore (lv' := [(9, .long (((gdF a b k).1) - ((gdF a b k).1) / ((gdF a b k).2) * ((gdF a b k).2))), (8, .int (nI k)), (6, .long ((gdF a b k).2)), (4, .long ((gdF a b k).1)), (0, .long a), (2, .long b)]) hx hb dX6_greatestDivisor_29 hl (by decide) rfl (fun ls hl => ?_)
          refine lv_lload hx hb dX6_greatestDivisor_31 (lv_at hl 2 rfl) ?_
          refine lv_lstore (lv' := [(4, .long ((gdF a b k).2)), (9, .long (((gdF a b k).1) - ((gdF a b k).1) / ((gdF a b k).2) * ((gdF a b k).2))), (8, .int (nI k)), (6, .long ((gdF a b k).2)), (0, .long a), (2, .long b)]) hx hb dX6_greatestDivisor_33 hl (by decide) rfl (fun ls hl => ?_)
          refine lv_lload hx hb dX6_greatestDivisor_35 (lv_at hl 1 rfl) ?_
          refine lv_lstore (lv' := [(6, .long (((gdF a b k).1) - ((gdF a b k).1) / ((gdF a b k).2) * ((gdF a b k).2))), (4, .long ((gdF a b k).2)), (9, .long (((gdF a b k).1) - ((gdF a b k).1) / ((gdF a b k).2) * ((gdF a b k).2))), (8, .int (nI k)), (0, .long a), (2, .long b)]) hx hb dX6_greatestDivisor_37 hl (by decide) rfl (fun ls hl => ?_)
          refine lv_iinc (v := nI (k + 1)) (lv' := [(8, .int (nI (k + 1))), (6, .long (((gdF a b k).1) - ((gdF a b k).1) / ((gdF a b k).2) * ((gdF a b k).2))), (4, .long ((gdF a b k).2)), (9, .long (((gdF a b k).1) - ((gdF a b k).1) / ((gdF a b k).2) * ((gdF a b k).2))), (0, .long a), (2, .long b)]) hx hb dX6_greatestDivisor_39 hl (k := 3) rfl (nI_inc k) (by decide) rfl (fun ls hl => ?_)
          refine lv_goto (tgt := 9) hx hb dX6_greatestDivisor_42 (by decide) ?_
          have eG : gdF a b (k + 1) = ((gdF a b k).2, (gdF a b k).1 - (gdF a b k).1 / (gdF a b k).2 * (gdF a b k).2) := if_neg (fun h => c_gd ((lg_cmp_eq _ _).mpr h))
          have hl : lv_has ls 11 [(8, .int (nI (k + 1))), (6, .long ((gdF a b (k + 1)).2)), (4, .long ((gdF a b (k + 1)).1)), (0, .long a), (2, .long b)] := by rw [eG]; exact lv_sub hl [0, 1, 2, 4, 5] rfl
          exact ih9 (k + 1) (by omega) (by omega) ls (lv_sub hl [0, 1, 2, 3, 4] rfl)
  exact L9 _ 0 (by omega) (Nat.lt_succ_self _) ls (lv_sub hl [0, 1, 2, 3, 4] rfl)
set_option maxHeartbeats 4000000 in
set_option maxRecDepth 100000 in
theorem c_X6_odds (l : Launch) (E : gE) (sz : Nat) (g0 : Nat) (h0 : Nat) (k0 : Nat) (gs : Nat) (ht : Nat) (hd : Nat) (ho : Nat) (hr : Nat) (fo : Nat) (wy : Nat) (tr : Int32) (lf : Int32) (a0 : Nat) (a1 : Nat) (a2 : Nat) (a3 : Nat) (a4 : Nat) (n : Nat) (mo : Int32) (ro : Nat → Int32) (wv : Nat → Int64) (x : Int32) (k : Int32) (hn : n ≤ 6) : Met l yX6_odds wsX6_odds ({ frames := 1, cells := 0, slots := 0, locals := 30 }) (PW E [.ref g0, .int x, .int k] [ob g0 6 [.ref h0, .ref k0, .ref gs, .ref ht, .ref hd, .ref ho, .ref hr, .ref fo, .ref wy, .int tr, .int lf], ob h0 5 [.ref a0, .ref a1, .ref a2, .ref a3, .ref a4, .int (nI n), .int mo], ar E a3 6 ro, al E wy 109 wv] sz) (QWl E (fun r _ => r = spOdds n mo ro x k) (fun (u : Nat → Int64) => [ob g0 6 [.ref h0, .ref k0, .ref gs, .ref ht, .ref hd, .ref ho, .ref hr, .ref fo, .ref wy, .int tr, .int lf], ob h0 5 [.ref a0, .ref a1, .ref a2, .ref a3, .ref a4, .int (nI n), .int mo], ar E a3 6 ro, al E wy 109 u]) (va_A [ob g0 6 [.ref h0, .ref k0, .ref gs, .ref ht, .ref hd, .ref ho, .ref hr, .ref fo, .ref wy, .int tr, .int lf], ob h0 5 [.ref a0, .ref a1, .ref a2, .ref a3, .ref a4, .int (nI n), .int mo], ar E a3 6 ro, al E wy 109 wv] sz)) 0 0 (va_A [ob g0 6 [.ref h0, .ref k0, .ref gs, .ref ht, .ref hd, .ref ho, .ref hr, .ref fo, .ref wy, .int tr, .int lf], ob h0 5 [.ref a0, .ref a1, .ref a2, .ref a3, .ref a4, .int (nI n), .int mo], ar E a3 6 ro, al E wy 109 wv] sz) := by
  refine mkWl (cc := cX6_odds) (maxL := 7) (by decide) rfl (Nat.le_of_ble_eq_true rfl) ?_
  intro p e s m args below meth c QQ A hx hb hml hown hmn hts hK hA hP hD hS hret ls hl
  have hown : s.vm.findClass RX6 = some m.cls := hown
  have hl : lv_has ls 7 [(0, .ref g0), (1, .int x), (2, .int k)] := hl
  have hinX5 : ∀ w ∈ wsX50, w ∈ wsX6_odds := by decide +kernel
  have hinX6 : ∀ w ∈ wsX60, w ∈ wsX6_odds := by decide +kernel
  have fl_12 := hts (.fieldLink RX6 12 "GuardAbacus" "wires" "LGuardAbacus$Wires;") (by decide +kernel)
  have fl_59 := hts (.fieldLink RX6 59 "GuardAbacus" "ways" "[J") (by decide +kernel)
  have fl_89 := hts (.fieldLink RX6 89 "GuardAbacus$Wires" "count" "I") (by decide +kernel)
  have fl_113 := hts (.fieldLink RX6 113 "GuardAbacus$Wires" "most" "I") (by decide +kernel)
  refine lv_iload_n hx hb dX6_odds_0 rfl (lv_at hl 1 rfl) ?_
  refine lv_if_lt (tgt := 19) hx hb dX6_odds_1 (by decide) (fun c_1 => ?_) (fun c_1 => ?_)
  ·
    have c_1b := Int32.not_le.mpr c_1
    refine lv_ldc2 hx hb hown (hts (.constantLong RX6 215 (-9223372036854775808)) (by decide +kernel)) dX6_odds_19 ?_
    exact hret _ _ _ _ _ wv dX6_odds_22 hS hP (by rw [spOdds, if_pos (fun h => h.1 c_1)])
  ·
    have c_1b := Int32.not_lt.mp c_1
    refine lv_iload_n hx hb dX6_odds_4 rfl (lv_at hl 1 rfl) ?_
    refine lv_bipush (v := 108) hx hb dX6_odds_5 (by decide) ?_
    refine lv_icmp_gt (tgt := 19) hx hb dX6_odds_7 (by decide) (fun c_2 => ?_) (fun c_2 => ?_)
    ·
      have c_2b := Int32.not_le.mpr c_2
      refine lv_ldc2 hx hb hown (hts (.constantLong RX6 215 (-9223372036854775808)) (by decide +kernel)) dX6_odds_19 ?_
      exact hret _ _ _ _ _ wv dX6_odds_22 hS hP (by rw [spOdds, if_pos (fun h => absurd h.2.1 c_2b)])
    ·
      have c_2b := Int32.not_lt.mp c_2
      refine lv_iload_n hx hb dX6_odds_10 rfl (lv_at hl 2 rfl) ?_
      refine lv_if_lt (tgt := 19) hx hb dX6_odds_11 (by decide) (fun c_3 => ?_) (fun c_3 => ?_)
      ·
        have c_3b := Int32.not_le.mpr c_3
        refine lv_ldc2 hx hb hown (hts (.constantLong RX6 215 (-9223372036854775808)) (by decide +kernel)) dX6_odds_19 ?_
        exact hret _ _ _ _ _ wv dX6_odds_22 hS hP (by rw [spOdds, if_pos (fun h => h.2.2.1 c_3)])
      ·
        have c_3b := Int32.not_lt.mp c_3
        refine lv_iload_n hx hb dX6_odds_14 rfl (lv_at hl 2 rfl) ?_
        refine lv_iconst (v := 1) hx hb dX6_odds_15 (by decide) ?_
        refine lv_icmp_le (tgt := 23) hx hb dX6_odds_16 (by decide) (fun c_4 => ?_) (fun c_4 => ?_)
        ·
          have c_4b := Int32.not_lt.mpr c_4
          refine lv_aload_n hx hb dX6_odds_23 rfl (lv_at hl 0 rfl) ?_
          refine va_get (D := E.1) (ci := 6) (v := .ref h0) (C := RX6) (T := TX6) (N := 11) hx hb hts hinX6 hown hK.1 hP 0 rfl rfl 0 (by decide) fl_12 (fun _ h9 => h9) rfl dX6_odds_24 ?_
          refine va_get (D := E.1) (ci := 5) (v := .int (nI n)) (C := RX5) (T := TX5) (N := 7) hx hb hts hinX5 hown hK.1 hP 1 rfl rfl 5 (by decide) fl_89 (fun _ h9 => h9) rfl dX6_odds_27 ?_
          refine ifN_ne (tgt := 37) (a := n) hx hb rfl (by omega) dX6_odds_30 (by decide) (fun c_5 => ?_) (fun c_5 => ?_)
          ·
            obtain ⟨y, hy, rfl⟩ := le_nat (n := 108) (M := 108) rfl c_1 c_2b
            have hixy : ix (nI y) = y := ix_nI (by omega)
            have hod : odT (nI y) k := ⟨c_1, c_2b, c_3, c_4⟩
            refine lv_aload_n hx hb dX6_odds_37 rfl (lv_at hl 0 rfl) ?_
            refine cwVv (As := []) (rest := []) ⟨hx, hb, hml, hown, hts⟩ (c_X6_countWays l E _ g0 h0 k0 gs ht hd ho hr fo wy tr lf a0 a1 a2 a3 a4 n mo ro wv (by first | assumption | omega)) (cwV 0 hts gX6_odds_X6_countWays rfl rfl rfl (by decide +kernel) ⟨Nat.le_of_ble_eq_true rfl, Nat.le_of_ble_eq_true rfl⟩) hK hP hD hS hA [0, 1, 2, 3] (by decide) rfl [g0, h0, a3, wy] (fun _ => rfl) rfl 0 rfl rfl rfl rfl hl.1 rfl (catLe (Nat.le_of_ble_eq_true rfl)) dX6_odds_38 ⟨Nat.zero_le _, Nat.zero_le _⟩ (fun u_7 H locs hwr_6 hP hD hS => ?_)
            have hP : va_P E.1 vwCl [ob g0 6 [.ref h0, .ref k0, .ref gs, .ref ht, .ref hd, .ref ho, .ref hr, .ref fo, .ref wy, .int tr, .int lf], ob h0 5 [.ref a0, .ref a1, .ref a2, .ref a3, .ref a4, .int (nI n), .int mo], ar E a3 6 ro, al E wy 109 (wyL ro n)] H := hP
            have hD : va_D A [ob g0 6 [.ref h0, .ref k0, .ref gs, .ref ht, .ref hd, .ref ho, .ref hr, .ref fo, .ref wy, .int tr, .int lf], ob h0 5 [.ref a0, .ref a1, .ref a2, .ref a3, .ref a4, .int (nI n), .int mo], ar E a3 6 ro, al E wy 109 (wyL ro n)] := hD
            refine lv_aload_n hx hb dX6_odds_41 rfl (lv_at hl 0 rfl) ?_
            refine va_get (D := E.1) (ci := 6) (v := .ref h0) (C := RX6) (T := TX6) (N := 11) hx hb hts hinX6 hown hK.1 hP 0 rfl rfl 0 (by decide) fl_12 (fun _ h9 => h9) rfl dX6_odds_42 ?_
            refine va_get (D := E.1) (ci := 5) (v := .int mo) (C := RX5) (T := TX5) (N := 7) hx hb hts hinX5 hown hK.1 hP 1 rfl rfl 6 (by decide) fl_113 (fun _ h9 => h9) rfl dX6_odds_45 ?_
            refine lv_i2l hx hb dX6_odds_48 rfl ?_
            refine lv_lconst (v := 1) hx hb dX6_odds_49 (by decide) ?_
            refine lv_ladd hx hb dX6_odds_50 ?_
            refine lv_lstore_n (lv' := [(3, .long (mo.toInt64 + 1)), (0, .ref g0), (1, .int (nI y)), (2, .int k)]) hx hb dX6_odds_51 rfl hl (by decide) rfl (fun ls hl => ?_)
            refine lv_lload_n hx hb dX6_odds_52 rfl (lv_at hl 0 rfl) ?_
            refine lv_aload_n hx hb dX6_odds_53 rfl (lv_at hl 1 rfl) ?_
            refine va_get (D := E.1) (ci := 6) (v := .ref wy) (C := RX6) (T := TX6) (N := 11) hx hb hts hinX6 hown hK.1 hP 0 rfl rfl 8 (by decide) fl_59 (fun _ h9 => h9) rfl dX6_odds_54 ?_
            refine lv_iload_n hx hb dX6_odds_57 rfl (lv_at hl 2 rfl) ?_
            refine lld hx hb hK hP 3 rfl (j := y) rfl (by omega) (by decide) dX6_odds_58 ?_
            refine crSl (As := [.long (mo.toInt64 + 1), .long ((wyL ro n) y)]) (rest := []) ⟨hx, hb, hml, hown, hts⟩ (c_X6_greatestDivisor l E (mo.toInt64 + 1) ((wyL ro n) y)) (va_cwS 2 hts gX6_odds_X6_greatestDivisor rfl rfl rfl (by decide +kernel) ⟨Nat.le_of_ble_eq_true rfl, Nat.le_of_ble_eq_true rfl⟩) hK hP [] rfl rfl hl.1 rfl (catLe (Nat.le_of_ble_eq_true rfl)) dX6_odds_59 ⟨Nat.zero_le _, Nat.zero_le _⟩ (fun r_8 hr_8 => ?_)
            refine lv_lstore (lv' := [(5, .long r_8), (3, .long (mo.toInt64 + 1)), (0, .ref g0), (1, .int (nI y)), (2, .int k)]) hx hb dX6_odds_62 hl (by decide) rfl (fun ls hl => ?_)
            refine lv_lload hx hb dX6_odds_64 (lv_at hl 0 rfl) ?_
            refine lv_lconst (v := 0) hx hb dX6_odds_66 (by decide) ?_
            refine W.lcmp hx hb dX6_odds_67 ?_
            refine lv_if_gt (tgt := 75) hx hb dX6_odds_68 (by decide) (fun c_od => ?_) (fun c_od => ?_)
            ·
              have c_odb := Int32.not_le.mpr c_od
              refine lv_iload_n hx hb dX6_odds_75 rfl (lv_at hl 4 rfl) ?_
              refine lv_if_ne (tgt := 88) hx hb dX6_odds_76 (by decide) (fun c_9 => ?_) (fun c_9 => ?_)
              ·
                refine lv_lload_n hx hb dX6_odds_88 rfl (lv_at hl 1 rfl) ?_
                refine lv_lload hx hb dX6_odds_89 (lv_at hl 0 rfl) ?_
                refine lv_ldiv hx hb dX6_odds_91 (fun h => by have h9 := (lg_cmp_gt _ _).mp c_od; rw [h] at h9; exact absurd h9 (by decide)) ?_
                exact hret _ _ _ _ _ (wyL ro n) dX6_odds_92 hS hP (by have e9 : r_8 = _ := hr_8; rw [spOdds, if_neg (not_not_intro hod), if_neg (by omega), hixy, ← e9, if_neg (not_not_intro ((lg_cmp_gt _ _).mp c_od)), if_neg c_9])
              ·
                refine lv_aload_n hx hb dX6_odds_79 rfl (lv_at hl 2 rfl) ?_
                refine va_get (D := E.1) (ci := 6) (v := .ref wy) (C := RX6) (T := TX6) (N := 11) hx hb hts hinX6 hown hK.1 hP 0 rfl rfl 8 (by decide) fl_59 (fun _ h9 => h9) rfl dX6_odds_80 ?_
                refine lv_iload_n hx hb dX6_odds_83 rfl (lv_at hl 3 rfl) ?_
                refine lld hx hb hK hP 3 rfl (j := y) rfl (by omega) (by decide) dX6_odds_84 ?_
                refine lv_goto (tgt := 89) hx hb dX6_odds_85 (by decide) ?_
                refine lv_lload hx hb dX6_odds_89 (lv_at hl 0 rfl) ?_
                refine lv_ldiv hx hb dX6_odds_91 (fun h => by have h9 := (lg_cmp_gt _ _).mp c_od; rw [h] at h9; exact absurd h9 (by decide)) ?_
                exact hret _ _ _ _ _ (wyL ro n) dX6_odds_92 hS hP (by have e9 : r_8 = _ := hr_8; rw [spOdds, if_neg (not_not_intro hod), if_neg (by omega), hixy, ← e9, if_neg (not_not_intro ((lg_cmp_gt _ _).mp c_od)), if_pos c_9])
            ·
              have c_odb := Int32.not_lt.mp c_od
              refine lv_ldc2 hx hb hown (hts (.constantLong RX6 215 (-9223372036854775808)) (by decide +kernel)) dX6_odds_71 ?_
              exact hret _ _ _ _ _ (wyL ro n) dX6_odds_74 hS hP (by have e9 : r_8 = _ := hr_8; rw [spOdds, if_neg (not_not_intro hod), if_neg (by omega), hixy, ← e9, if_pos (fun h => c_od ((lg_cmp_gt _ _).mpr h))])
          ·
            refine lv_ldc2 hx hb hown (hts (.constantLong RX6 215 (-9223372036854775808)) (by decide +kernel)) dX6_odds_33 ?_
            exact hret _ _ _ _ _ wv dX6_odds_36 hS hP (by rw [spOdds, if_neg (not_not_intro ⟨c_1, c_2b, c_3, c_4⟩), if_pos (by omega)])
        ·
          have c_4b := Int32.not_le.mp c_4
          refine lv_ldc2 hx hb hown (hts (.constantLong RX6 215 (-9223372036854775808)) (by decide +kernel)) dX6_odds_19 ?_
          exact hret _ _ _ _ _ wv dX6_odds_22 hS hP (by rw [spOdds, if_pos (fun h => c_4 h.2.2.2)])
