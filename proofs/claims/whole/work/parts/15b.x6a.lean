set_option maxHeartbeats 4000000 in
set_option maxRecDepth 100000 in
theorem c_X6_isSheet (l : Launch) (E : gE) (k : Int32) : Met l yX6_isSheet wsX6_isSheet ({ frames := 0, cells := 0, slots := 0, locals := 0 }) (PR E [.int k] []) (vp_Si (fun r => r = if shP k then 1 else 0)) 0 0 (fun _ => False) := by
  refine mkRz (cc := cX6_isSheet) (maxL := 1) (by decide) rfl (Nat.le_of_ble_eq_true rfl) ?_
  intro p e s m args below meth c QQ hx hb hml hown hmn hts hK hP hret ls hl
  have hown : s.vm.findClass RX6 = some m.cls := hown
  have hl : lv_has ls 1 [(0, .int k)] := hl
  refine lv_iload_n hx hb dX6_isSheet_0 rfl (lv_at hl 0 rfl) ?_
  refine lv_if_lt (tgt := 13) hx hb dX6_isSheet_1 (by decide) (fun c_1 => ?_) (fun c_1 => ?_)
  ·
    have c_1b := Int32.not_le.mpr c_1
    refine lv_iconst (v := 0) hx hb dX6_isSheet_13 (by decide) ?_
    exact hret _ _ _ dX6_isSheet_14 rfl (by simp [shP, c_1, c_1b])
  ·
    have c_1b := Int32.not_lt.mp c_1
    refine lv_iload_n hx hb dX6_isSheet_4 rfl (lv_at hl 0 rfl) ?_
    refine lv_iconst (v := 4) hx hb dX6_isSheet_5 (by decide) ?_
    refine lv_icmp_ge (tgt := 13) hx hb dX6_isSheet_6 (by decide) (fun c_2 => ?_) (fun c_2 => ?_)
    ·
      have c_2b := Int32.not_lt.mpr c_2
      refine lv_iconst (v := 0) hx hb dX6_isSheet_13 (by decide) ?_
      exact hret _ _ _ dX6_isSheet_14 rfl (by simp [shP, c_1, c_2, c_1b, c_2b])
    ·
      have c_2b := Int32.not_le.mp c_2
      refine lv_iconst (v := 1) hx hb dX6_isSheet_9 (by decide) ?_
      refine lv_goto (tgt := 14) hx hb dX6_isSheet_10 (by decide) ?_
      exact hret _ _ _ dX6_isSheet_14 rfl (by simp [shP, c_1, c_2, c_1b, c_2b])
set_option maxHeartbeats 4000000 in
set_option maxRecDepth 100000 in
theorem c_X6_isLane (l : Launch) (E : gE) (k : Int32) : Met l yX6_isLane wsX6_isLane ({ frames := 0, cells := 0, slots := 0, locals := 0 }) (PR E [.int k] []) (vp_Si (fun r => r = if laP k then 1 else 0)) 0 0 (fun _ => False) := by
  refine mkRz (cc := cX6_isLane) (maxL := 1) (by decide) rfl (Nat.le_of_ble_eq_true rfl) ?_
  intro p e s m args below meth c QQ hx hb hml hown hmn hts hK hP hret ls hl
  have hown : s.vm.findClass RX6 = some m.cls := hown
  have hl : lv_has ls 1 [(0, .int k)] := hl
  refine lv_iload_n hx hb dX6_isLane_0 rfl (lv_at hl 0 rfl) ?_
  refine lv_if_lt (tgt := 13) hx hb dX6_isLane_1 (by decide) (fun c_1 => ?_) (fun c_1 => ?_)
  ·
    have c_1b := Int32.not_le.mpr c_1
    refine lv_iconst (v := 0) hx hb dX6_isLane_13 (by decide) ?_
    exact hret _ _ _ dX6_isLane_14 rfl (by simp [laP, c_1, c_1b])
  ·
    have c_1b := Int32.not_lt.mp c_1
    refine lv_iload_n hx hb dX6_isLane_4 rfl (lv_at hl 0 rfl) ?_
    refine lv_iconst (v := 3) hx hb dX6_isLane_5 (by decide) ?_
    refine lv_icmp_ge (tgt := 13) hx hb dX6_isLane_6 (by decide) (fun c_2 => ?_) (fun c_2 => ?_)
    ·
      have c_2b := Int32.not_lt.mpr c_2
      refine lv_iconst (v := 0) hx hb dX6_isLane_13 (by decide) ?_
      exact hret _ _ _ dX6_isLane_14 rfl (by simp [laP, c_1, c_2, c_1b, c_2b])
    ·
      have c_2b := Int32.not_le.mp c_2
      refine lv_iconst (v := 1) hx hb dX6_isLane_9 (by decide) ?_
      refine lv_goto (tgt := 14) hx hb dX6_isLane_10 (by decide) ?_
      exact hret _ _ _ dX6_isLane_14 rfl (by simp [laP, c_1, c_2, c_1b, c_2b])
set_option maxHeartbeats 4000000 in
set_option maxRecDepth 100000 in
theorem c_X6_faulted (l : Launch) (E : gE) (sz : Nat) (g0 : Nat) (h0 : Nat) (k0 : Nat) (gs : Nat) (ht : Nat) (hd : Nat) (ho : Nat) (hr : Nat) (fo : Nat) (wy : Nat) (tr : Int32) (lf : Int32) (x : Int32) : Met l yX6_faulted wsX6_faulted ({ frames := 0, cells := 0, slots := 0, locals := 0 }) (PW E [.ref g0, .int x] [ob g0 6 [.ref h0, .ref k0, .ref gs, .ref ht, .ref hd, .ref ho, .ref hr, .ref fo, .ref wy, .int tr, .int lf]] sz) (QWi E (fun r _ => r = -10 - x) (fun (_ : Unit) => [ob g0 6 [.ref h0, .ref k0, .ref gs, .ref ht, .ref hd, .ref ho, .ref hr, .ref fo, .ref wy, .int tr, .int x]]) (va_A [ob g0 6 [.ref h0, .ref k0, .ref gs, .ref ht, .ref hd, .ref ho, .ref hr, .ref fo, .ref wy, .int tr, .int lf]] sz)) 0 0 (va_A [ob g0 6 [.ref h0, .ref k0, .ref gs, .ref ht, .ref hd, .ref ho, .ref hr, .ref fo, .ref wy, .int tr, .int lf]] sz) := by
  refine mkWi (cc := cX6_faulted) (maxL := 2) (by decide) rfl (Nat.le_of_ble_eq_true rfl) ?_
  intro p e s m args below meth c QQ A hx hb hml hown hmn hts hK hA hP hD hS hret ls hl
  have hown : s.vm.findClass RX6 = some m.cls := hown
  have hl : lv_has ls 2 [(0, .ref g0), (1, .int x)] := hl
  have hinX6 : ∀ w ∈ wsX60, w ∈ wsX6_faulted := by decide +kernel
  have fl_67 := hts (.fieldLink RX6 67 "GuardAbacus" "lastFault" "I") (by decide +kernel)
  refine lv_aload_n hx hb dX6_faulted_0 rfl (lv_at hl 0 rfl) ?_
  refine lv_iload_n hx hb dX6_faulted_1 rfl (lv_at hl 1 rfl) ?_
  refine va_put (D := E.1) (ci := 6) (v := .int x) (ty := .int) (C := RX6) (T := TX6) (N := 11) hx hb hts hinX6 tyX6 tyX6_ok nmX6 hown hK.1 hP hD hS 0 rfl rfl 10 (by decide) fl_67 (fun _ h9 => h9) rfl (by decide +kernel) rfl rfl (Nat.le_of_ble_eq_true rfl) dX6_faulted_2 (fun H locs hP hD hS => ?_)
  have hP : va_P E.1 vwCl [ob g0 6 [.ref h0, .ref k0, .ref gs, .ref ht, .ref hd, .ref ho, .ref hr, .ref fo, .ref wy, .int tr, .int x]] H := hP
  have hD : va_D A [ob g0 6 [.ref h0, .ref k0, .ref gs, .ref ht, .ref hd, .ref ho, .ref hr, .ref fo, .ref wy, .int tr, .int x]] := hD
  refine lv_bipush (v := (-10)) hx hb dX6_faulted_5 (by decide) ?_
  refine lv_iload_n hx hb dX6_faulted_7 rfl (lv_at hl 1 rfl) ?_
  refine lv_isub hx hb dX6_faulted_8 ?_
  exact hret _ _ _ _ _ () dX6_faulted_9 hS hP rfl
set_option maxHeartbeats 4000000 in
set_option maxRecDepth 100000 in
theorem c_X6_leaveTrace (l : Launch) (E : gE) (sz : Nat) (g0 : Nat) (h0 : Nat) (k0 : Nat) (gs : Nat) (ht : Nat) (hd : Nat) (ho : Nat) (hr : Nat) (fo : Nat) (wy : Nat) (tr : Int32) (lf : Int32) (x : Int32) : Met l yX6_leaveTrace wsX6_leaveTrace ({ frames := 0, cells := 0, slots := 0, locals := 0 }) (PW E [.ref g0, .int x] [ob g0 6 [.ref h0, .ref k0, .ref gs, .ref ht, .ref hd, .ref ho, .ref hr, .ref fo, .ref wy, .int tr, .int lf]] sz) (QWv E (fun _ => True) (fun (_ : Unit) => [ob g0 6 [.ref h0, .ref k0, .ref gs, .ref ht, .ref hd, .ref ho, .ref hr, .ref fo, .ref wy, .int (trF tr x), .int lf]]) (va_A [ob g0 6 [.ref h0, .ref k0, .ref gs, .ref ht, .ref hd, .ref ho, .ref hr, .ref fo, .ref wy, .int tr, .int lf]] sz)) 0 0 (va_A [ob g0 6 [.ref h0, .ref k0, .ref gs, .ref ht, .ref hd, .ref ho, .ref hr, .ref fo, .ref wy, .int tr, .int lf]] sz) := by
  refine mkWv (cc := cX6_leaveTrace) (maxL := 2) (by decide) rfl (Nat.le_of_ble_eq_true rfl) ?_
  intro p e s m args below meth c QQ A hx hb hml hown hmn hts hK hA hP hD hS hret ls hl
  have hown : s.vm.findClass RX6 = some m.cls := hown
  have hl : lv_has ls 2 [(0, .ref g0), (1, .int x)] := hl
  have hinX6 : ∀ w ∈ wsX60, w ∈ wsX6_leaveTrace := by decide +kernel
  have fl_63 := hts (.fieldLink RX6 63 "GuardAbacus" "traced" "I") (by decide +kernel)
  refine lv_aload_n hx hb dX6_leaveTrace_0 rfl (lv_at hl 0 rfl) ?_
  refine lv_bipush (v := 31) hx hb dX6_leaveTrace_1 (by decide) ?_
  refine lv_aload_n hx hb dX6_leaveTrace_3 rfl (lv_at hl 0 rfl) ?_
  refine va_get (D := E.1) (ci := 6) (v := .int tr) (C := RX6) (T := TX6) (N := 11) hx hb hts hinX6 hown hK.1 hP 0 rfl rfl 9 (by decide) fl_63 (fun _ h9 => h9) rfl dX6_leaveTrace_4 ?_
  refine lv_imul hx hb dX6_leaveTrace_7 ?_
  refine lv_iload_n hx hb dX6_leaveTrace_8 rfl (lv_at hl 1 rfl) ?_
  refine lv_iadd hx hb dX6_leaveTrace_9 ?_
  refine va_put (D := E.1) (ci := 6) (v := .int ((31 * tr) + x)) (ty := .int) (C := RX6) (T := TX6) (N := 11) hx hb hts hinX6 tyX6 tyX6_ok nmX6 hown hK.1 hP hD hS 0 rfl rfl 9 (by decide) fl_63 (fun _ h9 => h9) rfl (by decide +kernel) rfl rfl (Nat.le_of_ble_eq_true rfl) dX6_leaveTrace_10 (fun H locs hP hD hS => ?_)
  have hP : va_P E.1 vwCl [ob g0 6 [.ref h0, .ref k0, .ref gs, .ref ht, .ref hd, .ref ho, .ref hr, .ref fo, .ref wy, .int ((31 * tr) + x), .int lf]] H := hP
  have hD : va_D A [ob g0 6 [.ref h0, .ref k0, .ref gs, .ref ht, .ref hd, .ref ho, .ref hr, .ref fo, .ref wy, .int ((31 * tr) + x), .int lf]] := hD
  have eo_1 : (trF tr x) = ((31 * tr) + x) := by simp only [trF]
  exact hret _ _ _ _ () dX6_leaveTrace_13 hS (by rw [eo_1]; exact hP) trivial
set_option maxHeartbeats 4000000 in
set_option maxRecDepth 100000 in
theorem c_X6_plainTells (l : Launch) (E : gE) (sz : Nat) (g0 : Nat) (h0 : Nat) (k0 : Nat) (gs : Nat) (ht : Nat) (hd : Nat) (ho : Nat) (hr : Nat) (fo : Nat) (wy : Nat) (tr : Int32) (lf : Int32) (x : Int32) : Met l yX6_plainTells wsX6_plainTells ({ frames := 1, cells := 0, slots := 0, locals := 21 }) (PW E [.ref g0, .int x] [ob g0 6 [.ref h0, .ref k0, .ref gs, .ref ht, .ref hd, .ref ho, .ref hr, .ref fo, .ref wy, .int tr, .int lf]] sz) (QWi E (fun r _ => r = x) (fun (_ : Unit) => [ob g0 6 [.ref h0, .ref k0, .ref gs, .ref ht, .ref hd, .ref ho, .ref hr, .ref fo, .ref wy, .int (trF tr 1), .int lf]]) (va_A [ob g0 6 [.ref h0, .ref k0, .ref gs, .ref ht, .ref hd, .ref ho, .ref hr, .ref fo, .ref wy, .int tr, .int lf]] sz)) 0 0 (va_A [ob g0 6 [.ref h0, .ref k0, .ref gs, .ref ht, .ref hd, .ref ho, .ref hr, .ref fo, .ref wy, .int tr, .int lf]] sz) := by
  refine mkWi (cc := cX6_plainTells) (maxL := 2) (by decide) rfl (Nat.le_of_ble_eq_true rfl) ?_
  intro p e s m args below meth c QQ A hx hb hml hown hmn hts hK hA hP hD hS hret ls hl
  have hown : s.vm.findClass RX6 = some m.cls := hown
  have hl : lv_has ls 2 [(0, .ref g0), (1, .int x)] := hl
  refine lv_aload_n hx hb dX6_plainTells_0 rfl (lv_at hl 0 rfl) ?_
  refine lv_iconst (v := 1) hx hb dX6_plainTells_1 (by decide) ?_
  refine cwVv (As := [.int 1]) (rest := []) ⟨hx, hb, hml, hown, hts⟩ (c_X6_leaveTrace l E _ g0 h0 k0 gs ht hd ho hr fo wy tr lf 1) (cwV 1 hts gX6_plainTells_X6_leaveTrace rfl rfl rfl (by decide +kernel) ⟨Nat.le_of_ble_eq_true rfl, Nat.le_of_ble_eq_true rfl⟩) hK hP hD hS hA [0] (by decide) rfl [g0] (fun _ => rfl) rfl 0 rfl rfl rfl rfl hl.1 rfl (catLe (Nat.le_of_ble_eq_true rfl)) dX6_plainTells_2 ⟨Nat.zero_le _, Nat.zero_le _⟩ (fun u_2 H locs hwr_1 hP hD hS => ?_)
  have hP : va_P E.1 vwCl [ob g0 6 [.ref h0, .ref k0, .ref gs, .ref ht, .ref hd, .ref ho, .ref hr, .ref fo, .ref wy, .int (trF tr 1), .int lf]] H := hP
  have hD : va_D A [ob g0 6 [.ref h0, .ref k0, .ref gs, .ref ht, .ref hd, .ref ho, .ref hr, .ref fo, .ref wy, .int (trF tr 1), .int lf]] := hD
  refine lv_iload_n hx hb dX6_plainTells_5 rfl (lv_at hl 1 rfl) ?_
  exact hret _ _ _ _ _ () dX6_plainTells_6 hS hP rfl
set_option maxHeartbeats 4000000 in
set_option maxRecDepth 100000 in
theorem c_X6_longTells (l : Launch) (E : gE) (sz : Nat) (g0 : Nat) (h0 : Nat) (k0 : Nat) (gs : Nat) (ht : Nat) (hd : Nat) (ho : Nat) (hr : Nat) (fo : Nat) (wy : Nat) (tr : Int32) (lf : Int32) (x : Int32) : Met l yX6_longTells wsX6_longTells ({ frames := 2, cells := 0, slots := 0, locals := 42 }) (PW E [.ref g0, .int x] [ob g0 6 [.ref h0, .ref k0, .ref gs, .ref ht, .ref hd, .ref ho, .ref hr, .ref fo, .ref wy, .int tr, .int lf]] sz) (QWi E (fun r _ => r = x + 100) (fun (_ : Unit) => [ob g0 6 [.ref h0, .ref k0, .ref gs, .ref ht, .ref hd, .ref ho, .ref hr, .ref fo, .ref wy, .int (trF (trF tr 2) 1), .int lf]]) (va_A [ob g0 6 [.ref h0, .ref k0, .ref gs, .ref ht, .ref hd, .ref ho, .ref hr, .ref fo, .ref wy, .int tr, .int lf]] sz)) 0 0 (va_A [ob g0 6 [.ref h0, .ref k0, .ref gs, .ref ht, .ref hd, .ref ho, .ref hr, .ref fo, .ref wy, .int tr, .int lf]] sz) := by
  refine mkWi (cc := cX6_longTells) (maxL := 2) (by decide) rfl (Nat.le_of_ble_eq_true rfl) ?_
  intro p e s m args below meth c QQ A hx hb hml hown hmn hts hK hA hP hD hS hret ls hl
  have hown : s.vm.findClass RX6 = some m.cls := hown
  have hl : lv_has ls 2 [(0, .ref g0), (1, .int x)] := hl
  refine lv_aload_n hx hb dX6_longTells_0 rfl (lv_at hl 0 rfl) ?_
  refine lv_iconst (v := 2) hx hb dX6_longTells_1 (by decide) ?_
  refine cwVv (As := [.int 2]) (rest := []) ⟨hx, hb, hml, hown, hts⟩ (c_X6_leaveTrace l E _ g0 h0 k0 gs ht hd ho hr fo wy tr lf 2) (cwV 1 hts gX6_longTells_X6_leaveTrace rfl rfl rfl (by decide +kernel) ⟨Nat.le_of_ble_eq_true rfl, Nat.le_of_ble_eq_true rfl⟩) hK hP hD hS hA [0] (by decide) rfl [g0] (fun _ => rfl) rfl 0 rfl rfl rfl rfl hl.1 rfl (catLe (Nat.le_of_ble_eq_true rfl)) dX6_longTells_2 ⟨Nat.zero_le _, Nat.zero_le _⟩ (fun u_2 H locs hwr_1 hP hD hS => ?_)
  have hP : va_P E.1 vwCl [ob g0 6 [.ref h0, .ref k0, .ref gs, .ref ht, .ref hd, .ref ho, .ref hr, .ref fo, .ref wy, .int (trF tr 2), .int lf]] H := hP
  have hD : va_D A [ob g0 6 [.ref h0, .ref k0, .ref gs, .ref ht, .ref hd, .ref ho, .ref hr, .ref fo, .ref wy, .int (trF tr 2), .int lf]] := hD
  refine lv_aload_n hx hb dX6_longTells_5 rfl (lv_at hl 0 rfl) ?_
  refine lv_iload_n hx hb dX6_longTells_6 rfl (lv_at hl 1 rfl) ?_
  refine cwVi (As := [.int x]) (rest := []) ⟨hx, hb, hml, hown, hts⟩ (c_X6_plainTells l E _ g0 h0 k0 gs ht hd ho hr fo wy (trF tr 2) lf x) (cwV 1 hts gX6_longTells_X6_plainTells rfl rfl rfl (by decide +kernel) ⟨Nat.le_of_ble_eq_true rfl, Nat.le_of_ble_eq_true rfl⟩) hK hP hD hS hA [0] (by decide) rfl [g0] (fun _ => rfl) rfl 0 rfl rfl rfl rfl hl.1 rfl (catLe (Nat.le_of_ble_eq_true rfl)) dX6_longTells_7 ⟨Nat.zero_le _, Nat.zero_le _⟩ (fun r_3 u_4 H locs hwr_3 hP hD hS => ?_)
  have hP : va_P E.1 vwCl [ob g0 6 [.ref h0, .ref k0, .ref gs, .ref ht, .ref hd, .ref ho, .ref hr, .ref fo, .ref wy, .int (trF (trF tr 2) 1), .int lf]] H := hP
  have hD : va_D A [ob g0 6 [.ref h0, .ref k0, .ref gs, .ref ht, .ref hd, .ref ho, .ref hr, .ref fo, .ref wy, .int (trF (trF tr 2) 1), .int lf]] := hD
  subst hwr_3
  refine lv_bipush (v := 100) hx hb dX6_longTells_10 (by decide) ?_
  refine lv_iadd hx hb dX6_longTells_12 ?_
  exact hret _ _ _ _ _ () dX6_longTells_13 hS hP rfl
set_option maxHeartbeats 4000000 in
set_option maxRecDepth 100000 in
theorem c_X6_windowedTells (l : Launch) (E : gE) (sz : Nat) (g0 : Nat) (h0 : Nat) (k0 : Nat) (gs : Nat) (ht : Nat) (hd : Nat) (ho : Nat) (hr : Nat) (fo : Nat) (wy : Nat) (tr : Int32) (lf : Int32) (x : Int32) : Met l yX6_windowedTells wsX6_windowedTells ({ frames := 3, cells := 0, slots := 0, locals := 63 }) (PW E [.ref g0, .int x] [ob g0 6 [.ref h0, .ref k0, .ref gs, .ref ht, .ref hd, .ref ho, .ref hr, .ref fo, .ref wy, .int tr, .int lf]] sz) (QWi E (fun r _ => r = x + 100 + x) (fun (_ : Unit) => [ob g0 6 [.ref h0, .ref k0, .ref gs, .ref ht, .ref hd, .ref ho, .ref hr, .ref fo, .ref wy, .int (trF (trF (trF (trF tr 3) 2) 1) 1), .int lf]]) (va_A [ob g0 6 [.ref h0, .ref k0, .ref gs, .ref ht, .ref hd, .ref ho, .ref hr, .ref fo, .ref wy, .int tr, .int lf]] sz)) 0 0 (va_A [ob g0 6 [.ref h0, .ref k0, .ref gs, .ref ht, .ref hd, .ref ho, .ref hr, .ref fo, .ref wy, .int tr, .int lf]] sz) := by
  refine mkWi (cc := cX6_windowedTells) (maxL := 3) (by decide) rfl (Nat.le_of_ble_eq_true rfl) ?_
  intro p e s m args below meth c QQ A hx hb hml hown hmn hts hK hA hP hD hS hret ls hl
  have hown : s.vm.findClass RX6 = some m.cls := hown
  have hl : lv_has ls 3 [(0, .ref g0), (1, .int x)] := hl
  refine lv_aload_n hx hb dX6_windowedTells_0 rfl (lv_at hl 0 rfl) ?_
  refine lv_iconst (v := 3) hx hb dX6_windowedTells_1 (by decide) ?_
  refine cwVv (As := [.int 3]) (rest := []) ⟨hx, hb, hml, hown, hts⟩ (c_X6_leaveTrace l E _ g0 h0 k0 gs ht hd ho hr fo wy tr lf 3) (cwV 1 hts gX6_windowedTells_X6_leaveTrace rfl rfl rfl (by decide +kernel) ⟨Nat.le_of_ble_eq_true rfl, Nat.le_of_ble_eq_true rfl⟩) hK hP hD hS hA [0] (by decide) rfl [g0] (fun _ => rfl) rfl 0 rfl rfl rfl rfl hl.1 rfl (catLe (Nat.le_of_ble_eq_true rfl)) dX6_windowedTells_2 ⟨Nat.zero_le _, Nat.zero_le _⟩ (fun u_2 H locs hwr_1 hP hD hS => ?_)
  have hP : va_P E.1 vwCl [ob g0 6 [.ref h0, .ref k0, .ref gs, .ref ht, .ref hd, .ref ho, .ref hr, .ref fo, .ref wy, .int (trF tr 3), .int lf]] H := hP
  have hD : va_D A [ob g0 6 [.ref h0, .ref k0, .ref gs, .ref ht, .ref hd, .ref ho, .ref hr, .ref fo, .ref wy, .int (trF tr 3), .int lf]] := hD
  refine lv_aload_n hx hb dX6_windowedTells_5 rfl (lv_at hl 0 rfl) ?_
  refine lv_iload_n hx hb dX6_windowedTells_6 rfl (lv_at hl 1 rfl) ?_
  refine cwVi (As := [.int x]) (rest := []) ⟨hx, hb, hml, hown, hts⟩ (c_X6_longTells l E _ g0 h0 k0 gs ht hd ho hr fo wy (trF tr 3) lf x) (cwV 1 hts gX6_windowedTells_X6_longTells rfl rfl rfl (by decide +kernel) ⟨Nat.le_of_ble_eq_true rfl, Nat.le_of_ble_eq_true rfl⟩) hK hP hD hS hA [0] (by decide) rfl [g0] (fun _ => rfl) rfl 0 rfl rfl rfl rfl hl.1 rfl (catLe (Nat.le_of_ble_eq_true rfl)) dX6_windowedTells_7 ⟨Nat.zero_le _, Nat.zero_le _⟩ (fun r_3 u_4 H locs hwr_3 hP hD hS => ?_)
  have hP : va_P E.1 vwCl [ob g0 6 [.ref h0, .ref k0, .ref gs, .ref ht, .ref hd, .ref ho, .ref hr, .ref fo, .ref wy, .int (trF (trF (trF tr 3) 2) 1), .int lf]] H := hP
  have hD : va_D A [ob g0 6 [.ref h0, .ref k0, .ref gs, .ref ht, .ref hd, .ref ho, .ref hr, .ref fo, .ref wy, .int (trF (trF (trF tr 3) 2) 1), .int lf]] := hD
  subst hwr_3
  refine lv_istore_n (lv' := [(2, .int (x + 100)), (0, .ref g0), (1, .int x)]) hx hb dX6_windowedTells_10 rfl hl (by decide) rfl (fun ls hl => ?_)
  refine lv_iload_n hx hb dX6_windowedTells_11 rfl (lv_at hl 0 rfl) ?_
  refine lv_aload_n hx hb dX6_windowedTells_12 rfl (lv_at hl 1 rfl) ?_
  refine lv_iload_n hx hb dX6_windowedTells_13 rfl (lv_at hl 2 rfl) ?_
  refine cwVi (As := [.int x]) (rest := [.int (x + 100)]) ⟨hx, hb, hml, hown, hts⟩ (c_X6_plainTells l E _ g0 h0 k0 gs ht hd ho hr fo wy (trF (trF (trF tr 3) 2) 1) lf x) (cwV 1 hts gX6_windowedTells_X6_plainTells rfl rfl rfl (by decide +kernel) ⟨Nat.le_of_ble_eq_true rfl, Nat.le_of_ble_eq_true rfl⟩) hK hP hD hS hA [0] (by decide) rfl [g0] (fun _ => rfl) rfl 0 rfl rfl rfl rfl hl.1 rfl (catLe (Nat.le_of_ble_eq_true rfl)) dX6_windowedTells_14 ⟨Nat.zero_le _, Nat.zero_le _⟩ (fun r_5 u_6 H locs hwr_5 hP hD hS => ?_)
  have hP : va_P E.1 vwCl [ob g0 6 [.ref h0, .ref k0, .ref gs, .ref ht, .ref hd, .ref ho, .ref hr, .ref fo, .ref wy, .int (trF (trF (trF (trF tr 3) 2) 1) 1), .int lf]] H := hP
  have hD : va_D A [ob g0 6 [.ref h0, .ref k0, .ref gs, .ref ht, .ref hd, .ref ho, .ref hr, .ref fo, .ref wy, .int (trF (trF (trF (trF tr 3) 2) 1) 1), .int lf]] := hD
  subst hwr_5
  refine lv_iadd hx hb dX6_windowedTells_17 ?_
  exact hret _ _ _ _ _ () dX6_windowedTells_18 hS hP rfl
set_option maxHeartbeats 4000000 in
set_option maxRecDepth 100000 in
theorem c_X6_trace (l : Launch) (E : gE) (g0 : Nat) (h0 : Nat) (k0 : Nat) (gs : Nat) (ht : Nat) (hd : Nat) (ho : Nat) (hr : Nat) (fo : Nat) (wy : Nat) (tr : Int32) (lf : Int32) : Met l yX6_trace wsX6_trace ({ frames := 0, cells := 0, slots := 0, locals := 0 }) (PR E [.ref g0] [ob g0 6 [.ref h0, .ref k0, .ref gs, .ref ht, .ref hd, .ref ho, .ref hr, .ref fo, .ref wy, .int tr, .int lf]]) (vp_Si (fun r => r = tr)) 0 0 (fun _ => False) := by
  refine mkRi (cc := cX6_trace) (maxL := 1) (by decide) rfl (Nat.le_of_ble_eq_true rfl) ?_
  intro p e s m args below meth c QQ hx hb hml hown hmn hts hK hP hret ls hl
  have hown : s.vm.findClass RX6 = some m.cls := hown
  have hl : lv_has ls 1 [(0, .ref g0)] := hl
  have hinX6 : ∀ w ∈ wsX60, w ∈ wsX6_trace := by decide +kernel
  have fl_63 := hts (.fieldLink RX6 63 "GuardAbacus" "traced" "I") (by decide +kernel)
  refine lv_aload_n hx hb dX6_trace_0 rfl (lv_at hl 0 rfl) ?_
  refine va_get (D := E.1) (ci := 6) (v := .int tr) (C := RX6) (T := TX6) (N := 11) hx hb hts hinX6 hown hK.1 hP 0 rfl rfl 9 (by decide) fl_63 (fun _ h9 => h9) rfl dX6_trace_1 ?_
  exact hret _ _ _ dX6_trace_4 rfl
set_option maxHeartbeats 4000000 in
set_option maxRecDepth 100000 in
theorem c_X6_fault (l : Launch) (E : gE) (g0 : Nat) (h0 : Nat) (k0 : Nat) (gs : Nat) (ht : Nat) (hd : Nat) (ho : Nat) (hr : Nat) (fo : Nat) (wy : Nat) (tr : Int32) (lf : Int32) : Met l yX6_fault wsX6_fault ({ frames := 0, cells := 0, slots := 0, locals := 0 }) (PR E [.ref g0] [ob g0 6 [.ref h0, .ref k0, .ref gs, .ref ht, .ref hd, .ref ho, .ref hr, .ref fo, .ref wy, .int tr, .int lf]]) (vp_Si (fun r => r = lf)) 0 0 (fun _ => False) := by
  refine mkRi (cc := cX6_fault) (maxL := 1) (by decide) rfl (Nat.le_of_ble_eq_true rfl) ?_
  intro p e s m args below meth c QQ hx hb hml hown hmn hts hK hP hret ls hl
  have hown : s.vm.findClass RX6 = some m.cls := hown
  have hl : lv_has ls 1 [(0, .ref g0)] := hl
  have hinX6 : ∀ w ∈ wsX60, w ∈ wsX6_fault := by decide +kernel
  have fl_67 := hts (.fieldLink RX6 67 "GuardAbacus" "lastFault" "I") (by decide +kernel)
  refine lv_aload_n hx hb dX6_fault_0 rfl (lv_at hl 0 rfl) ?_
  refine va_get (D := E.1) (ci := 6) (v := .int lf) (C := RX6) (T := TX6) (N := 11) hx hb hts hinX6 hown hK.1 hP 0 rfl rfl 10 (by decide) fl_67 (fun _ h9 => h9) rfl dX6_fault_1 ?_
  exact hret _ _ _ dX6_fault_4 rfl
set_option maxHeartbeats 4000000 in
set_option maxRecDepth 100000 in
theorem c_X6_ofWire (l : Launch) (E : gE) (g0 : Nat) (h0 : Nat) (k0 : Nat) (gs : Nat) (ht : Nat) (hd : Nat) (ho : Nat) (hr : Nat) (fo : Nat) (wy : Nat) (tr : Int32) (lf : Int32) (a0 : Nat) (a1 : Nat) (a2 : Nat) (a3 : Nat) (a4 : Nat) (n : Nat) (mo : Int32) (kd : Nat → Int32) (mn : Nat → Int32) (pu : Nat → Int32) (ro : Nat → Int32) (wo : Nat → Int32) (w : Int32) (what : Int32) (hn : n ≤ 6) : Met l yX6_ofWire wsX6_ofWire ({ frames := 1, cells := 0, slots := 0, locals := 21 }) (PR E [.ref g0, .int w, .int what] [ob g0 6 [.ref h0, .ref k0, .ref gs, .ref ht, .ref hd, .ref ho, .ref hr, .ref fo, .ref wy, .int tr, .int lf], ob h0 5 [.ref a0, .ref a1, .ref a2, .ref a3, .ref a4, .int (nI n), .int mo], ar E a0 6 kd, ar E a1 6 mn, ar E a2 6 pu, ar E a3 6 ro, ar E a4 6 wo]) (vp_Si (fun r => r = spOfWire n kd mn pu ro wo w what)) 0 0 (fun _ => False) := by
  refine mkRi (cc := cX6_ofWire) (maxL := 3) (by decide) rfl (Nat.le_of_ble_eq_true rfl) ?_
  intro p e s m args below meth c QQ hx hb hml hown hmn hts hK hP hret ls hl
  have hown : s.vm.findClass RX6 = some m.cls := hown
  have hl : lv_has ls 3 [(0, .ref g0), (1, .int w), (2, .int what)] := hl
  have hinX5 : ∀ w ∈ wsX50, w ∈ wsX6_ofWire := by decide +kernel
  have hinX6 : ∀ w ∈ wsX60, w ∈ wsX6_ofWire := by decide +kernel
  have fl_12 := hts (.fieldLink RX6 12 "GuardAbacus" "wires" "LGuardAbacus$Wires;") (by decide +kernel)
  have fl_94 := hts (.fieldLink RX6 94 "GuardAbacus$Wires" "kind" "[I") (by decide +kernel)
  have fl_97 := hts (.fieldLink RX6 97 "GuardAbacus$Wires" "men" "[I") (by decide +kernel)
  have fl_100 := hts (.fieldLink RX6 100 "GuardAbacus$Wires" "room" "[I") (by decide +kernel)
  have fl_103 := hts (.fieldLink RX6 103 "GuardAbacus$Wires" "pushed" "[I") (by decide +kernel)
  have fl_106 := hts (.fieldLink RX6 106 "GuardAbacus$Wires" "worth" "[I") (by decide +kernel)
  refine lv_aload_n hx hb dX6_ofWire_0 rfl (lv_at hl 0 rfl) ?_
  refine va_get (D := E.1) (ci := 6) (v := .ref h0) (C := RX6) (T := TX6) (N := 11) hx hb hts hinX6 hown hK.1 hP 0 rfl rfl 0 (by decide) fl_12 (fun _ h9 => h9) rfl dX6_ofWire_1 ?_
  refine lv_iload_n hx hb dX6_ofWire_4 rfl (lv_at hl 1 rfl) ?_
  refine crV (As := [.int w]) (rest := []) ⟨hx, hb, hml, hown, hts⟩ (c_X5_has l E h0 a0 a1 a2 a3 a4 n mo w (by first | assumption | omega)) (cwV 1 hts gX6_ofWire_X5_has rfl rfl rfl (by decide +kernel) ⟨Nat.le_of_ble_eq_true rfl, Nat.le_of_ble_eq_true rfl⟩) hK hP [1] rfl 0 rfl rfl rfl rfl hl.1 rfl (catLe (Nat.le_of_ble_eq_true rfl)) dX6_ofWire_5 ⟨Nat.zero_le _, Nat.zero_le _⟩ (fun r_1 hr_1 => ?_)
  subst hr_1
  refine ifB_ne (P := hasP n w) (tgt := 13) hx hb dX6_ofWire_8 (by decide) (fun c_2 => ?_) (fun c_2 => ?_)
  ·
    obtain ⟨j, hj, rfl⟩ := hasP_of c_2 hn
    have hix_j : ix (nI j) = j := ix_nI (by omega)
    refine lv_iload_n hx hb dX6_ofWire_13 rfl (lv_at hl 2 rfl) ?_
    by_cases q_3 : what = 0
    ·
      subst q_3
      refine lv_tableIn (off := 34) (tgt := 48) hx hb dX6_ofWire_14 (by decide) (by decide) rfl (by decide) ?_
      refine lv_aload_n hx hb dX6_ofWire_48 rfl (lv_at hl 0 rfl) ?_
      refine va_get (D := E.1) (ci := 6) (v := .ref h0) (C := RX6) (T := TX6) (N := 11) hx hb hts hinX6 hown hK.1 hP 0 rfl rfl 0 (by decide) fl_12 (fun _ h9 => h9) rfl dX6_ofWire_49 ?_
      refine va_get (D := E.1) (ci := 5) (v := .ref a0) (C := RX5) (T := TX5) (N := 7) hx hb hts hinX5 hown hK.1 hP 1 rfl rfl 0 (by decide) fl_94 (fun _ h9 => h9) rfl dX6_ofWire_52 ?_
      refine lv_iload_n hx hb dX6_ofWire_55 rfl (lv_at hl 1 rfl) ?_
      refine ild hx hb hK hP 2 rfl (j := j) rfl (by omega) (by decide) dX6_ofWire_56 ?_
      exact hret _ _ _ dX6_ofWire_57 (by simp [spOfWire, c_2, hix_j])
    by_cases q_4 : what = 1
    ·
      subst q_4
      refine lv_tableIn (off := 44) (tgt := 58) hx hb dX6_ofWire_14 (by decide) (by decide) rfl (by decide) ?_
      refine lv_aload_n hx hb dX6_ofWire_58 rfl (lv_at hl 0 rfl) ?_
      refine va_get (D := E.1) (ci := 6) (v := .ref h0) (C := RX6) (T := TX6) (N := 11) hx hb hts hinX6 hown hK.1 hP 0 rfl rfl 0 (by decide) fl_12 (fun _ h9 => h9) rfl dX6_ofWire_59 ?_
      refine va_get (D := E.1) (ci := 5) (v := .ref a1) (C := RX5) (T := TX5) (N := 7) hx hb hts hinX5 hown hK.1 hP 1 rfl rfl 1 (by decide) fl_97 (fun _ h9 => h9) rfl dX6_ofWire_62 ?_
      refine lv_iload_n hx hb dX6_ofWire_65 rfl (lv_at hl 1 rfl) ?_
      refine ild hx hb hK hP 3 rfl (j := j) rfl (by omega) (by decide) dX6_ofWire_66 ?_
      exact hret _ _ _ dX6_ofWire_67 (by simp [spOfWire, c_2, hix_j])
    by_cases q_5 : what = 2
    ·
      subst q_5
      refine lv_tableIn (off := 54) (tgt := 68) hx hb dX6_ofWire_14 (by decide) (by decide) rfl (by decide) ?_
      refine lv_aload_n hx hb dX6_ofWire_68 rfl (lv_at hl 0 rfl) ?_
      refine va_get (D := E.1) (ci := 6) (v := .ref h0) (C := RX6) (T := TX6) (N := 11) hx hb hts hinX6 hown hK.1 hP 0 rfl rfl 0 (by decide) fl_12 (fun _ h9 => h9) rfl dX6_ofWire_69 ?_
      refine va_get (D := E.1) (ci := 5) (v := .ref a3) (C := RX5) (T := TX5) (N := 7) hx hb hts hinX5 hown hK.1 hP 1 rfl rfl 3 (by decide) fl_100 (fun _ h9 => h9) rfl dX6_ofWire_72 ?_
      refine lv_iload_n hx hb dX6_ofWire_75 rfl (lv_at hl 1 rfl) ?_
      refine ild hx hb hK hP 5 rfl (j := j) rfl (by omega) (by decide) dX6_ofWire_76 ?_
      exact hret _ _ _ dX6_ofWire_77 (by simp [spOfWire, c_2, hix_j])
    by_cases q_6 : what = 3
    ·
      subst q_6
      refine lv_tableIn (off := 64) (tgt := 78) hx hb dX6_ofWire_14 (by decide) (by decide) rfl (by decide) ?_
      refine lv_aload_n hx hb dX6_ofWire_78 rfl (lv_at hl 0 rfl) ?_
      refine va_get (D := E.1) (ci := 6) (v := .ref h0) (C := RX6) (T := TX6) (N := 11) hx hb hts hinX6 hown hK.1 hP 0 rfl rfl 0 (by decide) fl_12 (fun _ h9 => h9) rfl dX6_ofWire_79 ?_
      refine va_get (D := E.1) (ci := 5) (v := .ref a2) (C := RX5) (T := TX5) (N := 7) hx hb hts hinX5 hown hK.1 hP 1 rfl rfl 2 (by decide) fl_103 (fun _ h9 => h9) rfl dX6_ofWire_82 ?_
      refine lv_iload_n hx hb dX6_ofWire_85 rfl (lv_at hl 1 rfl) ?_
      refine ild hx hb hK hP 4 rfl (j := j) rfl (by omega) (by decide) dX6_ofWire_86 ?_
      exact hret _ _ _ dX6_ofWire_87 (by simp [spOfWire, c_2, hix_j])
    by_cases q_7 : what = 4
    ·
      subst q_7
      refine lv_tableIn (off := 74) (tgt := 88) hx hb dX6_ofWire_14 (by decide) (by decide) rfl (by decide) ?_
      refine lv_aload_n hx hb dX6_ofWire_88 rfl (lv_at hl 0 rfl) ?_
      refine va_get (D := E.1) (ci := 6) (v := .ref h0) (C := RX6) (T := TX6) (N := 11) hx hb hts hinX6 hown hK.1 hP 0 rfl rfl 0 (by decide) fl_12 (fun _ h9 => h9) rfl dX6_ofWire_89 ?_
      refine va_get (D := E.1) (ci := 5) (v := .ref a4) (C := RX5) (T := TX5) (N := 7) hx hb hts hinX5 hown hK.1 hP 1 rfl rfl 4 (by decide) fl_106 (fun _ h9 => h9) rfl dX6_ofWire_92 ?_
      refine lv_iload_n hx hb dX6_ofWire_95 rfl (lv_at hl 1 rfl) ?_
      refine ild hx hb hK hP 6 rfl (j := j) rfl (by omega) (by decide) dX6_ofWire_96 ?_
      exact hret _ _ _ dX6_ofWire_97 (by simp [spOfWire, c_2, hix_j])
    refine lv_tableOut (tgt := 98) hx hb dX6_ofWire_14 (by have z0 := lv_neT q_3 (show (0 : Int32).toInt = 0 from rfl); have z1 := lv_neT q_4 (show (1 : Int32).toInt = 1 from rfl); have z2 := lv_neT q_5 (show (2 : Int32).toInt = 2 from rfl); have z3 := lv_neT q_6 (show (3 : Int32).toInt = 3 from rfl); have z4 := lv_neT q_7 (show (4 : Int32).toInt = 4 from rfl); omega) (by decide) ?_
    refine lv_bipush (v := (-2)) hx hb dX6_ofWire_98 (by decide) ?_
    exact hret _ _ _ dX6_ofWire_100 (by simp [spOfWire, c_2, hix_j, q_3, q_4, q_5, q_6, q_7])
  ·
    refine lv_iconst (v := (-1)) hx hb dX6_ofWire_11 (by decide) ?_
    exact hret _ _ _ dX6_ofWire_12 (by simp [spOfWire, c_2])
set_option maxHeartbeats 4000000 in
set_option maxRecDepth 100000 in
theorem c_X6_number (l : Launch) (E : gE) (g0 : Nat) (h0 : Nat) (k0 : Nat) (gs : Nat) (ht : Nat) (hd : Nat) (ho : Nat) (hr : Nat) (fo : Nat) (wy : Nat) (tr : Int32) (lf : Int32) (a0 : Nat) (a1 : Nat) (a2 : Nat) (a3 : Nat) (a4 : Nat) (n : Nat) (mo : Int32) (pu : Nat → Int32) (wo : Nat → Int32) (what : Int32) (hn : n ≤ 6) : Met l yX6_number wsX6_number ({ frames := 1, cells := 0, slots := 0, locals := 22 }) (PR E [.ref g0, .int what] [ob g0 6 [.ref h0, .ref k0, .ref gs, .ref ht, .ref hd, .ref ho, .ref hr, .ref fo, .ref wy, .int tr, .int lf], ob h0 5 [.ref a0, .ref a1, .ref a2, .ref a3, .ref a4, .int (nI n), .int mo], ar E a2 6 pu, ar E a4 6 wo]) (vp_Si (fun r => r = spNumber n mo pu wo what)) 0 0 (fun _ => False) := by
  refine mkRi (cc := cX6_number) (maxL := 2) (by decide) rfl (Nat.le_of_ble_eq_true rfl) ?_
  intro p e s m args below meth c QQ hx hb hml hown hmn hts hK hP hret ls hl
  have hown : s.vm.findClass RX6 = some m.cls := hown
  have hl : lv_has ls 2 [(0, .ref g0), (1, .int what)] := hl
  have hinX5 : ∀ w ∈ wsX50, w ∈ wsX6_number := by decide +kernel
  have hinX6 : ∀ w ∈ wsX60, w ∈ wsX6_number := by decide +kernel
  have fl_12 := hts (.fieldLink RX6 12 "GuardAbacus" "wires" "LGuardAbacus$Wires;") (by decide +kernel)
  have fl_89 := hts (.fieldLink RX6 89 "GuardAbacus$Wires" "count" "I") (by decide +kernel)
  have fl_113 := hts (.fieldLink RX6 113 "GuardAbacus$Wires" "most" "I") (by decide +kernel)
  refine lv_iload_n hx hb dX6_number_0 rfl (lv_at hl 1 rfl) ?_
  refine lv_if_lt (tgt := 9) hx hb dX6_number_1 (by decide) (fun c_1 => ?_) (fun c_1 => ?_)
  ·
    have c_1b := Int32.not_le.mpr c_1
    refine lv_bipush (v := (-2)) hx hb dX6_number_9 (by decide) ?_
    exact hret _ _ _ dX6_number_11 (by simp only [spNumber]; simp [c_1, c_1b]; try omega)
  ·
    have c_1b := Int32.not_lt.mp c_1
    refine lv_iload_n hx hb dX6_number_4 rfl (lv_at hl 1 rfl) ?_
    refine lv_iconst (v := 2) hx hb dX6_number_5 (by decide) ?_
    refine lv_icmp_le (tgt := 12) hx hb dX6_number_6 (by decide) (fun c_2 => ?_) (fun c_2 => ?_)
    ·
      have c_2b := Int32.not_lt.mpr c_2
      refine lv_aload_n hx hb dX6_number_12 rfl (lv_at hl 0 rfl) ?_
      refine va_get (D := E.1) (ci := 6) (v := .ref h0) (C := RX6) (T := TX6) (N := 11) hx hb hts hinX6 hown hK.1 hP 0 rfl rfl 0 (by decide) fl_12 (fun _ h9 => h9) rfl dX6_number_13 ?_
      refine va_get (D := E.1) (ci := 5) (v := .int (nI n)) (C := RX5) (T := TX5) (N := 7) hx hb hts hinX5 hown hK.1 hP 1 rfl rfl 5 (by decide) fl_89 (fun _ h9 => h9) rfl dX6_number_16 ?_
      refine ifN_ne (tgt := 25) (a := n) hx hb rfl (by omega) dX6_number_19 (by decide) (fun c_3 => ?_) (fun c_3 => ?_)
      ·
        refine lv_iload_n hx hb dX6_number_25 rfl (lv_at hl 1 rfl) ?_
        refine lv_if_ne (tgt := 37) hx hb dX6_number_26 (by decide) (fun c_4 => ?_) (fun c_4 => ?_)
        ·
          refine lv_iload_n hx hb dX6_number_37 rfl (lv_at hl 1 rfl) ?_
          refine lv_iconst (v := 1) hx hb dX6_number_38 (by decide) ?_
          refine lv_icmp_ne (tgt := 52) hx hb dX6_number_39 (by decide) (fun c_5 => ?_) (fun c_5 => ?_)
          ·
            refine lv_aload_n hx hb dX6_number_52 rfl (lv_at hl 0 rfl) ?_
            refine va_get (D := E.1) (ci := 6) (v := .ref h0) (C := RX6) (T := TX6) (N := 11) hx hb hts hinX6 hown hK.1 hP 0 rfl rfl 0 (by decide) fl_12 (fun _ h9 => h9) rfl dX6_number_53 ?_
            refine crV (As := []) (rest := []) ⟨hx, hb, hml, hown, hts⟩ (c_X5_pushedTogether l E h0 a0 a1 a2 a3 a4 n mo pu (by first | assumption | omega)) (cwV 0 hts gX6_number_X5_pushedTogether rfl rfl rfl (by decide +kernel) ⟨Nat.le_of_ble_eq_true rfl, Nat.le_of_ble_eq_true rfl⟩) hK hP [1, 2] rfl 0 rfl rfl rfl rfl hl.1 rfl (catLe (Nat.le_of_ble_eq_true rfl)) dX6_number_56 ⟨Nat.zero_le _, Nat.zero_le _⟩ (fun r_6 hr_6 => ?_)
            subst hr_6
            exact hret _ _ _ dX6_number_59 (by simp only [spNumber]; simp [c_1, c_2, c_3, c_4, c_5, c_1b, c_2b]; try omega)
          ·
            refine lv_aload_n hx hb dX6_number_42 rfl (lv_at hl 0 rfl) ?_
            refine va_get (D := E.1) (ci := 6) (v := .ref h0) (C := RX6) (T := TX6) (N := 11) hx hb hts hinX6 hown hK.1 hP 0 rfl rfl 0 (by decide) fl_12 (fun _ h9 => h9) rfl dX6_number_43 ?_
            refine va_get (D := E.1) (ci := 5) (v := .int mo) (C := RX5) (T := TX5) (N := 7) hx hb hts hinX5 hown hK.1 hP 1 rfl rfl 6 (by decide) fl_113 (fun _ h9 => h9) rfl dX6_number_46 ?_
            refine lv_goto (tgt := 59) hx hb dX6_number_49 (by decide) ?_
            exact hret _ _ _ dX6_number_59 (by simp only [spNumber]; simp [c_1, c_2, c_3, c_4, c_5, c_1b, c_2b]; try omega)
        ·
          refine lv_aload_n hx hb dX6_number_29 rfl (lv_at hl 0 rfl) ?_
          refine va_get (D := E.1) (ci := 6) (v := .ref h0) (C := RX6) (T := TX6) (N := 11) hx hb hts hinX6 hown hK.1 hP 0 rfl rfl 0 (by decide) fl_12 (fun _ h9 => h9) rfl dX6_number_30 ?_
          refine crV (As := []) (rest := []) ⟨hx, hb, hml, hown, hts⟩ (c_X5_numberNow l E h0 a0 a1 a2 a3 a4 n mo pu wo (by first | assumption | omega)) (cwV 0 hts gX6_number_X5_numberNow rfl rfl rfl (by decide +kernel) ⟨Nat.le_of_ble_eq_true rfl, Nat.le_of_ble_eq_true rfl⟩) hK hP [1, 2, 3] rfl 0 rfl rfl rfl rfl hl.1 rfl (catLe (Nat.le_of_ble_eq_true rfl)) dX6_number_33 ⟨Nat.zero_le _, Nat.zero_le _⟩ (fun r_7 hr_7 => ?_)
          subst hr_7
          exact hret _ _ _ dX6_number_36 (by simp only [spNumber]; simp [c_1, c_2, c_3, c_4, c_1b, c_2b]; try omega)
      ·
        refine lv_bipush (v := (-3)) hx hb dX6_number_22 (by decide) ?_
        exact hret _ _ _ dX6_number_24 (by simp only [spNumber]; simp [c_1, c_2, c_3, c_1b, c_2b]; try omega)
    ·
      have c_2b := Int32.not_le.mp c_2
      refine lv_bipush (v := (-2)) hx hb dX6_number_9 (by decide) ?_
      exact hret _ _ _ dX6_number_11 (by simp only [spNumber]; simp [c_1, c_2, c_1b, c_2b]; try omega)
set_option maxHeartbeats 4000000 in
set_option maxRecDepth 100000 in
theorem c_X6_figure (l : Launch) (E : gE) (g0 : Nat) (h0 : Nat) (k0 : Nat) (gs : Nat) (ht : Nat) (hd : Nat) (ho : Nat) (hr : Nat) (fo : Nat) (wy : Nat) (tr : Int32) (lf : Int32) (a0 : Nat) (a1 : Nat) (a2 : Nat) (a3 : Nat) (a4 : Nat) (n : Nat) (mo : Int32) (ro : Nat → Int32) (wo : Nat → Int32) (w : Int32) (v : Int32) (hg : WG n ro wo) : Met l yX6_figure wsX6_figure ({ frames := 2, cells := 0, slots := 0, locals := 43 }) (PR E [.ref g0, .int w, .int v] [ob g0 6 [.ref h0, .ref k0, .ref gs, .ref ht, .ref hd, .ref ho, .ref hr, .ref fo, .ref wy, .int tr, .int lf], ob h0 5 [.ref a0, .ref a1, .ref a2, .ref a3, .ref a4, .int (nI n), .int mo], ar E a3 6 ro, ar E a4 6 wo]) (vp_Si (fun r => r = spFigure n mo ro wo w v)) 0 0 (fun _ => False) := by
  refine mkRi (cc := cX6_figure) (maxL := 3) (by decide) rfl (Nat.le_of_ble_eq_true rfl) ?_
  intro p e s m args below meth c QQ hx hb hml hown hmn hts hK hP hret ls hl
  have hown : s.vm.findClass RX6 = some m.cls := hown
  have hl : lv_has ls 3 [(0, .ref g0), (1, .int w), (2, .int v)] := hl
  have hinX5 : ∀ w ∈ wsX50, w ∈ wsX6_figure := by decide +kernel
  have hinX6 : ∀ w ∈ wsX60, w ∈ wsX6_figure := by decide +kernel
  have fl_12 := hts (.fieldLink RX6 12 "GuardAbacus" "wires" "LGuardAbacus$Wires;") (by decide +kernel)
  have fl_113 := hts (.fieldLink RX6 113 "GuardAbacus$Wires" "most" "I") (by decide +kernel)
  have hn := hg.le
  refine lv_aload_n hx hb dX6_figure_0 rfl (lv_at hl 0 rfl) ?_
  refine va_get (D := E.1) (ci := 6) (v := .ref h0) (C := RX6) (T := TX6) (N := 11) hx hb hts hinX6 hown hK.1 hP 0 rfl rfl 0 (by decide) fl_12 (fun _ h9 => h9) rfl dX6_figure_1 ?_
  refine lv_iload_n hx hb dX6_figure_4 rfl (lv_at hl 1 rfl) ?_
  refine crV (As := [.int w]) (rest := []) ⟨hx, hb, hml, hown, hts⟩ (c_X5_has l E h0 a0 a1 a2 a3 a4 n mo w (by first | assumption | omega)) (cwV 1 hts gX6_figure_X5_has rfl rfl rfl (by decide +kernel) ⟨Nat.le_of_ble_eq_true rfl, Nat.le_of_ble_eq_true rfl⟩) hK hP [1] rfl 0 rfl rfl rfl rfl hl.1 rfl (catLe (Nat.le_of_ble_eq_true rfl)) dX6_figure_5 ⟨Nat.zero_le _, Nat.zero_le _⟩ (fun r_1 hr_1 => ?_)
  subst hr_1
  refine ifB_ne (P := hasP n w) (tgt := 13) hx hb dX6_figure_8 (by decide) (fun c_2 => ?_) (fun c_2 => ?_)
  ·
    obtain ⟨j, hj, rfl⟩ := hasP_of c_2 hn
    have hix_j : ix (nI j) = j := ix_nI (by omega)
    refine lv_iload_n hx hb dX6_figure_13 rfl (lv_at hl 2 rfl) ?_
    refine lv_if_lt (tgt := 28) hx hb dX6_figure_14 (by decide) (fun c_3 => ?_) (fun c_3 => ?_)
    ·
      have c_3b := Int32.not_le.mpr c_3
      refine lv_bipush (v := (-2)) hx hb dX6_figure_28 (by decide) ?_
      exact hret _ _ _ dX6_figure_30 (by simp [spFigure, c_2, hix_j, c_3, c_3b])
    ·
      have c_3b := Int32.not_lt.mp c_3
      refine lv_iload_n hx hb dX6_figure_17 rfl (lv_at hl 2 rfl) ?_
      refine lv_aload_n hx hb dX6_figure_18 rfl (lv_at hl 0 rfl) ?_
      refine va_get (D := E.1) (ci := 6) (v := .ref h0) (C := RX6) (T := TX6) (N := 11) hx hb hts hinX6 hown hK.1 hP 0 rfl rfl 0 (by decide) fl_12 (fun _ h9 => h9) rfl dX6_figure_19 ?_
      refine va_get (D := E.1) (ci := 5) (v := .int mo) (C := RX5) (T := TX5) (N := 7) hx hb hts hinX5 hown hK.1 hP 1 rfl rfl 6 (by decide) fl_113 (fun _ h9 => h9) rfl dX6_figure_22 ?_
      refine lv_icmp_le (tgt := 31) hx hb dX6_figure_25 (by decide) (fun c_4 => ?_) (fun c_4 => ?_)
      ·
        have c_4b := Int32.not_lt.mpr c_4
        refine lv_aload_n hx hb dX6_figure_31 rfl (lv_at hl 0 rfl) ?_
        refine va_get (D := E.1) (ci := 6) (v := .ref h0) (C := RX6) (T := TX6) (N := 11) hx hb hts hinX6 hown hK.1 hP 0 rfl rfl 0 (by decide) fl_12 (fun _ h9 => h9) rfl dX6_figure_32 ?_
        refine lv_iload_n hx hb dX6_figure_35 rfl (lv_at hl 1 rfl) ?_
        refine lv_iload_n hx hb dX6_figure_36 rfl (lv_at hl 2 rfl) ?_
        refine crV (As := [.int (nI j), .int v]) (rest := []) ⟨hx, hb, hml, hown, hts⟩ (c_X5_figureOf l E h0 a0 a1 a2 a3 a4 n mo ro wo (nI j) j v (by first | assumption | omega) (by first | assumption | omega) rfl) (cwV 2 hts gX6_figure_X5_figureOf rfl rfl rfl (by decide +kernel) ⟨Nat.le_of_ble_eq_true rfl, Nat.le_of_ble_eq_true rfl⟩) hK hP [1, 2, 3] rfl 0 rfl rfl rfl rfl hl.1 rfl (catLe (Nat.le_of_ble_eq_true rfl)) dX6_figure_37 ⟨Nat.zero_le _, Nat.zero_le _⟩ (fun r_5 hr_5 => ?_)
        subst hr_5
        exact hret _ _ _ dX6_figure_40 (by simp [spFigure, c_2, hix_j, c_3, c_4, c_3b, c_4b])
      ·
        have c_4b := Int32.not_le.mp c_4
        refine lv_bipush (v := (-2)) hx hb dX6_figure_28 (by decide) ?_
        exact hret _ _ _ dX6_figure_30 (by simp [spFigure, c_2, hix_j, c_3, c_4, c_3b, c_4b])
  ·
    refine lv_iconst (v := (-1)) hx hb dX6_figure_11 (by decide) ?_
    exact hret _ _ _ dX6_figure_12 (by simp [spFigure, c_2])
set_option maxHeartbeats 4000000 in
set_option maxRecDepth 100000 in
theorem c_X6_slide (l : Launch) (E : gE) (sz : Nat) (g0 : Nat) (h0 : Nat) (k0 : Nat) (gs : Nat) (ht : Nat) (hd : Nat) (ho : Nat) (hr : Nat) (fo : Nat) (wy : Nat) (tr : Int32) (lf : Int32) (a0 : Nat) (a1 : Nat) (a2 : Nat) (a3 : Nat) (a4 : Nat) (n : Nat) (mo : Int32) (pu : Nat → Int32) (ro : Nat → Int32) (w : Int32) (v : Int32) (hn : n ≤ 6) : Met l yX6_slide wsX6_slide ({ frames := 1, cells := 0, slots := 0, locals := 21 }) (PW E [.ref g0, .int w, .int v] [ob g0 6 [.ref h0, .ref k0, .ref gs, .ref ht, .ref hd, .ref ho, .ref hr, .ref fo, .ref wy, .int tr, .int lf], ob h0 5 [.ref a0, .ref a1, .ref a2, .ref a3, .ref a4, .int (nI n), .int mo], ar E a2 6 pu, ar E a3 6 ro] sz) (QWi E (fun r _ => r = spSlide n pu ro w v) (fun (_ : Unit) => [ob g0 6 [.ref h0, .ref k0, .ref gs, .ref ht, .ref hd, .ref ho, .ref hr, .ref fo, .ref wy, .int tr, .int lf], ob h0 5 [.ref a0, .ref a1, .ref a2, .ref a3, .ref a4, .int (nI n), .int mo], ar E a2 6 (spSlideP n pu ro w v), ar E a3 6 ro]) (va_A [ob g0 6 [.ref h0, .ref k0, .ref gs, .ref ht, .ref hd, .ref ho, .ref hr, .ref fo, .ref wy, .int tr, .int lf], ob h0 5 [.ref a0, .ref a1, .ref a2, .ref a3, .ref a4, .int (nI n), .int mo], ar E a2 6 pu, ar E a3 6 ro] sz)) 0 0 (va_A [ob g0 6 [.ref h0, .ref k0, .ref gs, .ref ht, .ref hd, .ref ho, .ref hr, .ref fo, .ref wy, .int tr, .int lf], ob h0 5 [.ref a0, .ref a1, .ref a2, .ref a3, .ref a4, .int (nI n), .int mo], ar E a2 6 pu, ar E a3 6 ro] sz) := by
  refine mkWi (cc := cX6_slide) (maxL := 4) (by decide) rfl (Nat.le_of_ble_eq_true rfl) ?_
  intro p e s m args below meth c QQ A hx hb hml hown hmn hts hK hA hP hD hS hret ls hl
  have hown : s.vm.findClass RX6 = some m.cls := hown
  have hl : lv_has ls 4 [(0, .ref g0), (1, .int w), (2, .int v)] := hl
  have hinX5 : ∀ w ∈ wsX50, w ∈ wsX6_slide := by decide +kernel
  have hinX6 : ∀ w ∈ wsX60, w ∈ wsX6_slide := by decide +kernel
  have fl_12 := hts (.fieldLink RX6 12 "GuardAbacus" "wires" "LGuardAbacus$Wires;") (by decide +kernel)
  have fl_100 := hts (.fieldLink RX6 100 "GuardAbacus$Wires" "room" "[I") (by decide +kernel)
  have fl_103 := hts (.fieldLink RX6 103 "GuardAbacus$Wires" "pushed" "[I") (by decide +kernel)
  refine lv_aload_n hx hb dX6_slide_0 rfl (lv_at hl 0 rfl) ?_
  refine va_get (D := E.1) (ci := 6) (v := .ref h0) (C := RX6) (T := TX6) (N := 11) hx hb hts hinX6 hown hK.1 hP 0 rfl rfl 0 (by decide) fl_12 (fun _ h9 => h9) rfl dX6_slide_1 ?_
  refine lv_iload_n hx hb dX6_slide_4 rfl (lv_at hl 1 rfl) ?_
  refine crV (As := [.int w]) (rest := []) ⟨hx, hb, hml, hown, hts⟩ (c_X5_has l E h0 a0 a1 a2 a3 a4 n mo w (by first | assumption | omega)) (cwV 1 hts gX6_slide_X5_has rfl rfl rfl (by decide +kernel) ⟨Nat.le_of_ble_eq_true rfl, Nat.le_of_ble_eq_true rfl⟩) hK hP [1] rfl 0 rfl rfl rfl rfl hl.1 rfl (catLe (Nat.le_of_ble_eq_true rfl)) dX6_slide_5 ⟨Nat.zero_le _, Nat.zero_le _⟩ (fun r_1 hr_1 => ?_)
  subst hr_1
  refine ifB_ne (P := hasP n w) (tgt := 13) hx hb dX6_slide_8 (by decide) (fun c_2 => ?_) (fun c_2 => ?_)
  ·
    obtain ⟨j, hj, rfl⟩ := hasP_of c_2 hn
    have hix_j : ix (nI j) = j := ix_nI (by omega)
    refine lv_iload_n hx hb dX6_slide_13 rfl (lv_at hl 2 rfl) ?_
    refine lv_if_lt (tgt := 30) hx hb dX6_slide_14 (by decide) (fun c_3 => ?_) (fun c_3 => ?_)
    ·
      have c_3b := Int32.not_le.mpr c_3
      refine lv_bipush (v := (-2)) hx hb dX6_slide_30 (by decide) ?_
      have eo_4 : (spSlideP n pu ro (nI j) v) = pu := by simp [spSlideP, c_2, hix_j, c_3, c_3b]
      exact hret _ _ _ _ _ () dX6_slide_32 hS (by rw [eo_4]; exact hP) (by simp [spSlide, c_2, hix_j, c_3, c_3b])
    ·
      have c_3b := Int32.not_lt.mp c_3
      refine lv_iload_n hx hb dX6_slide_17 rfl (lv_at hl 2 rfl) ?_
      refine lv_aload_n hx hb dX6_slide_18 rfl (lv_at hl 0 rfl) ?_
      refine va_get (D := E.1) (ci := 6) (v := .ref h0) (C := RX6) (T := TX6) (N := 11) hx hb hts hinX6 hown hK.1 hP 0 rfl rfl 0 (by decide) fl_12 (fun _ h9 => h9) rfl dX6_slide_19 ?_
      refine va_get (D := E.1) (ci := 5) (v := .ref a3) (C := RX5) (T := TX5) (N := 7) hx hb hts hinX5 hown hK.1 hP 1 rfl rfl 3 (by decide) fl_100 (fun _ h9 => h9) rfl dX6_slide_22 ?_
      refine lv_iload_n hx hb dX6_slide_25 rfl (lv_at hl 1 rfl) ?_
      refine ild hx hb hK hP 3 rfl (j := j) rfl (by omega) (by decide) dX6_slide_26 ?_
      refine lv_icmp_le (tgt := 33) hx hb dX6_slide_27 (by decide) (fun c_5 => ?_) (fun c_5 => ?_)
      ·
        have c_5b := Int32.not_lt.mpr c_5
        refine lv_aload_n hx hb dX6_slide_33 rfl (lv_at hl 0 rfl) ?_
        refine va_get (D := E.1) (ci := 6) (v := .ref h0) (C := RX6) (T := TX6) (N := 11) hx hb hts hinX6 hown hK.1 hP 0 rfl rfl 0 (by decide) fl_12 (fun _ h9 => h9) rfl dX6_slide_34 ?_
        refine va_get (D := E.1) (ci := 5) (v := .ref a2) (C := RX5) (T := TX5) (N := 7) hx hb hts hinX5 hown hK.1 hP 1 rfl rfl 2 (by decide) fl_103 (fun _ h9 => h9) rfl dX6_slide_37 ?_
        refine lv_iload_n hx hb dX6_slide_40 rfl (lv_at hl 1 rfl) ?_
        refine ild hx hb hK hP 2 rfl (j := j) rfl (by omega) (by decide) dX6_slide_41 ?_
        refine lv_istore_n (lv' := [(3, .int (pu j)), (0, .ref g0), (1, .int (nI j)), (2, .int v)]) hx hb dX6_slide_42 rfl hl (by decide) rfl (fun ls hl => ?_)
        refine lv_aload_n hx hb dX6_slide_43 rfl (lv_at hl 1 rfl) ?_
        refine va_get (D := E.1) (ci := 6) (v := .ref h0) (C := RX6) (T := TX6) (N := 11) hx hb hts hinX6 hown hK.1 hP 0 rfl rfl 0 (by decide) fl_12 (fun _ h9 => h9) rfl dX6_slide_44 ?_
        refine va_get (D := E.1) (ci := 5) (v := .ref a2) (C := RX5) (T := TX5) (N := 7) hx hb hts hinX5 hown hK.1 hP 1 rfl rfl 2 (by decide) fl_103 (fun _ h9 => h9) rfl dX6_slide_47 ?_
        refine lv_iload_n hx hb dX6_slide_50 rfl (lv_at hl 2 rfl) ?_
        refine lv_iload_n hx hb dX6_slide_51 rfl (lv_at hl 3 rfl) ?_
        refine ist hx hb hK hP hD hS 2 rfl (j := j) rfl (by omega) (by decide) dX6_slide_52 (fun H locs hP hD hS => ?_)
        have hP : va_P E.1 vwCl [ob g0 6 [.ref h0, .ref k0, .ref gs, .ref ht, .ref hd, .ref ho, .ref hr, .ref fo, .ref wy, .int tr, .int lf], ob h0 5 [.ref a0, .ref a1, .ref a2, .ref a3, .ref a4, .int (nI n), .int mo], ar E a2 6 (upd pu j v), ar E a3 6 ro] H := hP
        have hD : va_D A [ob g0 6 [.ref h0, .ref k0, .ref gs, .ref ht, .ref hd, .ref ho, .ref hr, .ref fo, .ref wy, .int tr, .int lf], ob h0 5 [.ref a0, .ref a1, .ref a2, .ref a3, .ref a4, .int (nI n), .int mo], ar E a2 6 (upd pu j v), ar E a3 6 ro] := hD
        refine lv_iload_n hx hb dX6_slide_53 rfl (lv_at hl 0 rfl) ?_
        have eo_6 : (spSlideP n pu ro (nI j) v) = (upd pu j v) := by simp [spSlideP, c_2, hix_j, c_3, c_5, c_3b, c_5b]
        exact hret _ _ _ _ _ () dX6_slide_54 hS (by rw [eo_6]; exact hP) (by simp [spSlide, c_2, hix_j, c_3, c_5, c_3b, c_5b])
      ·
        have c_5b := Int32.not_le.mp c_5
        refine lv_bipush (v := (-2)) hx hb dX6_slide_30 (by decide) ?_
        have eo_7 : (spSlideP n pu ro (nI j) v) = pu := by simp [spSlideP, c_2, hix_j, c_3, c_5, c_3b, c_5b]
        exact hret _ _ _ _ _ () dX6_slide_32 hS (by rw [eo_7]; exact hP) (by simp [spSlide, c_2, hix_j, c_3, c_5, c_3b, c_5b])
  ·
    refine lv_iconst (v := (-1)) hx hb dX6_slide_11 (by decide) ?_
    have eo_8 : (spSlideP n pu ro w v) = pu := by simp [spSlideP, c_2]
    exact hret _ _ _ _ _ () dX6_slide_12 hS (by rw [eo_8]; exact hP) (by simp [spSlide, c_2])
set_option maxHeartbeats 4000000 in
set_option maxRecDepth 100000 in
theorem c_X6_add (l : Launch) (E : gE) (sz : Nat) (g0 : Nat) (h0 : Nat) (k0 : Nat) (gs : Nat) (ht : Nat) (hd : Nat) (ho : Nat) (hr : Nat) (fo : Nat) (wy : Nat) (tr : Int32) (lf : Int32) (a0 : Nat) (a1 : Nat) (a2 : Nat) (a3 : Nat) (a4 : Nat) (n : Nat) (mo : Int32) (pu : Nat → Int32) (ro : Nat → Int32) (wo : Nat → Int32) (v : Int32) (hg : WG n ro wo) : Met l yX6_add wsX6_add ({ frames := 4, cells := 0, slots := 0, locals := 90 }) (PW E [.ref g0, .int v] [ob g0 6 [.ref h0, .ref k0, .ref gs, .ref ht, .ref hd, .ref ho, .ref hr, .ref fo, .ref wy, .int tr, .int lf], ob h0 5 [.ref a0, .ref a1, .ref a2, .ref a3, .ref a4, .int (nI n), .int mo], ar E a2 6 pu, ar E a3 6 ro, ar E a4 6 wo] sz) (QWi E (fun r _ => r = spAdd n mo pu ro wo v) (fun (_ : Unit) => [ob g0 6 [.ref h0, .ref k0, .ref gs, .ref ht, .ref hd, .ref ho, .ref hr, .ref fo, .ref wy, .int tr, .int lf], ob h0 5 [.ref a0, .ref a1, .ref a2, .ref a3, .ref a4, .int (nI n), .int mo], ar E a2 6 (spAddP n mo pu ro wo v), ar E a3 6 ro, ar E a4 6 wo]) (va_A [ob g0 6 [.ref h0, .ref k0, .ref gs, .ref ht, .ref hd, .ref ho, .ref hr, .ref fo, .ref wy, .int tr, .int lf], ob h0 5 [.ref a0, .ref a1, .ref a2, .ref a3, .ref a4, .int (nI n), .int mo], ar E a2 6 pu, ar E a3 6 ro, ar E a4 6 wo] sz)) 0 0 (va_A [ob g0 6 [.ref h0, .ref k0, .ref gs, .ref ht, .ref hd, .ref ho, .ref hr, .ref fo, .ref wy, .int tr, .int lf], ob h0 5 [.ref a0, .ref a1, .ref a2, .ref a3, .ref a4, .int (nI n), .int mo], ar E a2 6 pu, ar E a3 6 ro, ar E a4 6 wo] sz) := by
  refine mkWi (cc := cX6_add) (maxL := 2) (by decide) rfl (Nat.le_of_ble_eq_true rfl) ?_
  intro p e s m args below meth c QQ A hx hb hml hown hmn hts hK hA hP hD hS hret ls hl
  have hown : s.vm.findClass RX6 = some m.cls := hown
  have hl : lv_has ls 2 [(0, .ref g0), (1, .int v)] := hl
  have hinX6 : ∀ w ∈ wsX60, w ∈ wsX6_add := by decide +kernel
  have fl_12 := hts (.fieldLink RX6 12 "GuardAbacus" "wires" "LGuardAbacus$Wires;") (by decide +kernel)
  have hn := hg.le
  refine lv_iload_n hx hb dX6_add_0 rfl (lv_at hl 1 rfl) ?_
  refine lv_if_ge (tgt := 7) hx hb dX6_add_1 (by decide) (fun c_1 => ?_) (fun c_1 => ?_)
  ·
    have c_1b := Int32.not_lt.mpr c_1
    refine lv_aload_n hx hb dX6_add_7 rfl (lv_at hl 0 rfl) ?_
    refine va_get (D := E.1) (ci := 6) (v := .ref h0) (C := RX6) (T := TX6) (N := 11) hx hb hts hinX6 hown hK.1 hP 0 rfl rfl 0 (by decide) fl_12 (fun _ h9 => h9) rfl dX6_add_8 ?_
    refine lv_iload_n hx hb dX6_add_11 rfl (lv_at hl 1 rfl) ?_
    refine crV (As := [.int v]) (rest := []) ⟨hx, hb, hml, hown, hts⟩ (c_X5_canSum l E h0 a0 a1 a2 a3 a4 n mo pu wo v (by first | assumption | omega)) (cwV 1 hts gX6_add_X5_canSum rfl rfl rfl (by decide +kernel) ⟨Nat.le_of_ble_eq_true rfl, Nat.le_of_ble_eq_true rfl⟩) hK hP [1, 2, 4] rfl 0 rfl rfl rfl rfl hl.1 rfl (catLe (Nat.le_of_ble_eq_true rfl)) dX6_add_12 ⟨Nat.zero_le _, Nat.zero_le _⟩ (fun r_2 hr_2 => ?_)
    subst hr_2
    refine ifB_ne (P := canP n mo (numF pu wo n) v) (tgt := 21) hx hb dX6_add_15 (by decide) (fun c_3 => ?_) (fun c_3 => ?_)
    ·
      refine lv_aload_n hx hb dX6_add_21 rfl (lv_at hl 0 rfl) ?_
      refine va_get (D := E.1) (ci := 6) (v := .ref h0) (C := RX6) (T := TX6) (N := 11) hx hb hts hinX6 hown hK.1 hP 0 rfl rfl 0 (by decide) fl_12 (fun _ h9 => h9) rfl dX6_add_22 ?_
      refine lv_aload_n hx hb dX6_add_25 rfl (lv_at hl 0 rfl) ?_
      refine va_get (D := E.1) (ci := 6) (v := .ref h0) (C := RX6) (T := TX6) (N := 11) hx hb hts hinX6 hown hK.1 hP 0 rfl rfl 0 (by decide) fl_12 (fun _ h9 => h9) rfl dX6_add_26 ?_
      refine crV (As := []) (rest := [.ref h0]) ⟨hx, hb, hml, hown, hts⟩ (c_X5_numberNow l E h0 a0 a1 a2 a3 a4 n mo pu wo (by first | assumption | omega)) (cwV 0 hts gX6_add_X5_numberNow rfl rfl rfl (by decide +kernel) ⟨Nat.le_of_ble_eq_true rfl, Nat.le_of_ble_eq_true rfl⟩) hK hP [1, 2, 4] rfl 0 rfl rfl rfl rfl hl.1 rfl (catLe (Nat.le_of_ble_eq_true rfl)) dX6_add_29 ⟨Nat.zero_le _, Nat.zero_le _⟩ (fun r_4 hr_4 => ?_)
      subst hr_4
      refine lv_iload_n hx hb dX6_add_32 rfl (lv_at hl 1 rfl) ?_
      refine lv_iadd hx hb dX6_add_33 ?_
      refine cwVi (As := [.int ((numF pu wo n) + v)]) (rest := []) ⟨hx, hb, hml, hown, hts⟩ (c_X5_moveTo l E _ h0 a0 a1 a2 a3 a4 n mo pu ro wo ((numF pu wo n) + v) (by first | assumption | omega)) (cwV 1 hts gX6_add_X5_moveTo rfl rfl rfl (by decide +kernel) ⟨Nat.le_of_ble_eq_true rfl, Nat.le_of_ble_eq_true rfl⟩) hK hP hD hS hA [1, 2, 3, 4] (by decide) rfl [h0, a2, a3, a4] (fun _ => rfl) rfl 0 rfl rfl rfl rfl hl.1 rfl (catLe (Nat.le_of_ble_eq_true rfl)) dX6_add_34 ⟨Nat.zero_le _, Nat.zero_le _⟩ (fun r_5 u_6 H locs hwr_5 hP hD hS => ?_)
      have hP : va_P E.1 vwCl [ob g0 6 [.ref h0, .ref k0, .ref gs, .ref ht, .ref hd, .ref ho, .ref hr, .ref fo, .ref wy, .int tr, .int lf], ob h0 5 [.ref a0, .ref a1, .ref a2, .ref a3, .ref a4, .int (nI n), .int mo], ar E a2 6 (fil (fun w => figF (wo w) (ro w) ((numF pu wo n) + v)) pu n), ar E a3 6 ro, ar E a4 6 wo] H := hP
      have hD : va_D A [ob g0 6 [.ref h0, .ref k0, .ref gs, .ref ht, .ref hd, .ref ho, .ref hr, .ref fo, .ref wy, .int tr, .int lf], ob h0 5 [.ref a0, .ref a1, .ref a2, .ref a3, .ref a4, .int (nI n), .int mo], ar E a2 6 (fil (fun w => figF (wo w) (ro w) ((numF pu wo n) + v)) pu n), ar E a3 6 ro, ar E a4 6 wo] := hD
      subst hwr_5
      have eo_7 : (spAddP n mo pu ro wo v) = (fil (fun w => figF (wo w) (ro w) ((numF pu wo n) + v)) pu n) := by simp [spAddP, c_1, c_3, c_1b]
      exact hret _ _ _ _ _ () dX6_add_37 hS (by rw [eo_7]; exact hP) (by simp [spAdd, c_1, c_3, c_1b])
    ·
      refine lv_bipush (v := (-3)) hx hb dX6_add_18 (by decide) ?_
      have eo_8 : (spAddP n mo pu ro wo v) = pu := by simp [spAddP, c_1, c_3, c_1b]
      exact hret _ _ _ _ _ () dX6_add_20 hS (by rw [eo_8]; exact hP) (by simp [spAdd, c_1, c_3, c_1b])
  ·
    have c_1b := Int32.not_le.mp c_1
    refine lv_bipush (v := (-2)) hx hb dX6_add_4 (by decide) ?_
    have eo_9 : (spAddP n mo pu ro wo v) = pu := by simp [spAddP, c_1, c_1b]
    exact hret _ _ _ _ _ () dX6_add_6 hS (by rw [eo_9]; exact hP) (by simp [spAdd, c_1, c_1b])
set_option maxHeartbeats 4000000 in
set_option maxRecDepth 100000 in
theorem c_X6_take (l : Launch) (E : gE) (sz : Nat) (g0 : Nat) (h0 : Nat) (k0 : Nat) (gs : Nat) (ht : Nat) (hd : Nat) (ho : Nat) (hr : Nat) (fo : Nat) (wy : Nat) (tr : Int32) (lf : Int32) (a0 : Nat) (a1 : Nat) (a2 : Nat) (a3 : Nat) (a4 : Nat) (n : Nat) (mo : Int32) (pu : Nat → Int32) (ro : Nat → Int32) (wo : Nat → Int32) (v : Int32) (hg : WG n ro wo) : Met l yX6_take wsX6_take ({ frames := 4, cells := 0, slots := 0, locals := 90 }) (PW E [.ref g0, .int v] [ob g0 6 [.ref h0, .ref k0, .ref gs, .ref ht, .ref hd, .ref ho, .ref hr, .ref fo, .ref wy, .int tr, .int lf], ob h0 5 [.ref a0, .ref a1, .ref a2, .ref a3, .ref a4, .int (nI n), .int mo], ar E a2 6 pu, ar E a3 6 ro, ar E a4 6 wo] sz) (QWi E (fun r _ => r = spTake n pu ro wo v) (fun (_ : Unit) => [ob g0 6 [.ref h0, .ref k0, .ref gs, .ref ht, .ref hd, .ref ho, .ref hr, .ref fo, .ref wy, .int tr, .int lf], ob h0 5 [.ref a0, .ref a1, .ref a2, .ref a3, .ref a4, .int (nI n), .int mo], ar E a2 6 (spTakeP n pu ro wo v), ar E a3 6 ro, ar E a4 6 wo]) (va_A [ob g0 6 [.ref h0, .ref k0, .ref gs, .ref ht, .ref hd, .ref ho, .ref hr, .ref fo, .ref wy, .int tr, .int lf], ob h0 5 [.ref a0, .ref a1, .ref a2, .ref a3, .ref a4, .int (nI n), .int mo], ar E a2 6 pu, ar E a3 6 ro, ar E a4 6 wo] sz)) 0 0 (va_A [ob g0 6 [.ref h0, .ref k0, .ref gs, .ref ht, .ref hd, .ref ho, .ref hr, .ref fo, .ref wy, .int tr, .int lf], ob h0 5 [.ref a0, .ref a1, .ref a2, .ref a3, .ref a4, .int (nI n), .int mo], ar E a2 6 pu, ar E a3 6 ro, ar E a4 6 wo] sz) := by
  refine mkWi (cc := cX6_take) (maxL := 2) (by decide) rfl (Nat.le_of_ble_eq_true rfl) ?_
  intro p e s m args below meth c QQ A hx hb hml hown hmn hts hK hA hP hD hS hret ls hl
  have hown : s.vm.findClass RX6 = some m.cls := hown
  have hl : lv_has ls 2 [(0, .ref g0), (1, .int v)] := hl
  have hinX6 : ∀ w ∈ wsX60, w ∈ wsX6_take := by decide +kernel
  have fl_12 := hts (.fieldLink RX6 12 "GuardAbacus" "wires" "LGuardAbacus$Wires;") (by decide +kernel)
  have hn := hg.le
  refine lv_iload_n hx hb dX6_take_0 rfl (lv_at hl 1 rfl) ?_
  refine lv_if_ge (tgt := 7) hx hb dX6_take_1 (by decide) (fun c_1 => ?_) (fun c_1 => ?_)
  ·
    have c_1b := Int32.not_lt.mpr c_1
    refine lv_aload_n hx hb dX6_take_7 rfl (lv_at hl 0 rfl) ?_
    refine va_get (D := E.1) (ci := 6) (v := .ref h0) (C := RX6) (T := TX6) (N := 11) hx hb hts hinX6 hown hK.1 hP 0 rfl rfl 0 (by decide) fl_12 (fun _ h9 => h9) rfl dX6_take_8 ?_
    refine lv_iload_n hx hb dX6_take_11 rfl (lv_at hl 1 rfl) ?_
    refine crV (As := [.int v]) (rest := []) ⟨hx, hb, hml, hown, hts⟩ (c_X5_canTake l E h0 a0 a1 a2 a3 a4 n mo pu wo v (by first | assumption | omega)) (cwV 1 hts gX6_take_X5_canTake rfl rfl rfl (by decide +kernel) ⟨Nat.le_of_ble_eq_true rfl, Nat.le_of_ble_eq_true rfl⟩) hK hP [1, 2, 4] rfl 0 rfl rfl rfl rfl hl.1 rfl (catLe (Nat.le_of_ble_eq_true rfl)) dX6_take_12 ⟨Nat.zero_le _, Nat.zero_le _⟩ (fun r_2 hr_2 => ?_)
    subst hr_2
    refine ifB_ne (P := takP n (numF pu wo n) v) (tgt := 21) hx hb dX6_take_15 (by decide) (fun c_3 => ?_) (fun c_3 => ?_)
    ·
      refine lv_aload_n hx hb dX6_take_21 rfl (lv_at hl 0 rfl) ?_
      refine va_get (D := E.1) (ci := 6) (v := .ref h0) (C := RX6) (T := TX6) (N := 11) hx hb hts hinX6 hown hK.1 hP 0 rfl rfl 0 (by decide) fl_12 (fun _ h9 => h9) rfl dX6_take_22 ?_
      refine lv_aload_n hx hb dX6_take_25 rfl (lv_at hl 0 rfl) ?_
      refine va_get (D := E.1) (ci := 6) (v := .ref h0) (C := RX6) (T := TX6) (N := 11) hx hb hts hinX6 hown hK.1 hP 0 rfl rfl 0 (by decide) fl_12 (fun _ h9 => h9) rfl dX6_take_26 ?_
      refine crV (As := []) (rest := [.ref h0]) ⟨hx, hb, hml, hown, hts⟩ (c_X5_numberNow l E h0 a0 a1 a2 a3 a4 n mo pu wo (by first | assumption | omega)) (cwV 0 hts gX6_take_X5_numberNow rfl rfl rfl (by decide +kernel) ⟨Nat.le_of_ble_eq_true rfl, Nat.le_of_ble_eq_true rfl⟩) hK hP [1, 2, 4] rfl 0 rfl rfl rfl rfl hl.1 rfl (catLe (Nat.le_of_ble_eq_true rfl)) dX6_take_29 ⟨Nat.zero_le _, Nat.zero_le _⟩ (fun r_4 hr_4 => ?_)
      subst hr_4
      refine lv_iload_n hx hb dX6_take_32 rfl (lv_at hl 1 rfl) ?_
      refine lv_isub hx hb dX6_take_33 ?_
      refine cwVi (As := [.int ((numF pu wo n) - v)]) (rest := []) ⟨hx, hb, hml, hown, hts⟩ (c_X5_moveTo l E _ h0 a0 a1 a2 a3 a4 n mo pu ro wo ((numF pu wo n) - v) (by first | assumption | omega)) (cwV 1 hts gX6_take_X5_moveTo rfl rfl rfl (by decide +kernel) ⟨Nat.le_of_ble_eq_true rfl, Nat.le_of_ble_eq_true rfl⟩) hK hP hD hS hA [1, 2, 3, 4] (by decide) rfl [h0, a2, a3, a4] (fun _ => rfl) rfl 0 rfl rfl rfl rfl hl.1 rfl (catLe (Nat.le_of_ble_eq_true rfl)) dX6_take_34 ⟨Nat.zero_le _, Nat.zero_le _⟩ (fun r_5 u_6 H locs hwr_5 hP hD hS => ?_)
      have hP : va_P E.1 vwCl [ob g0 6 [.ref h0, .ref k0, .ref gs, .ref ht, .ref hd, .ref ho, .ref hr, .ref fo, .ref wy, .int tr, .int lf], ob h0 5 [.ref a0, .ref a1, .ref a2, .ref a3, .ref a4, .int (nI n), .int mo], ar E a2 6 (fil (fun w => figF (wo w) (ro w) ((numF pu wo n) - v)) pu n), ar E a3 6 ro, ar E a4 6 wo] H := hP
      have hD : va_D A [ob g0 6 [.ref h0, .ref k0, .ref gs, .ref ht, .ref hd, .ref ho, .ref hr, .ref fo, .ref wy, .int tr, .int lf], ob h0 5 [.ref a0, .ref a1, .ref a2, .ref a3, .ref a4, .int (nI n), .int mo], ar E a2 6 (fil (fun w => figF (wo w) (ro w) ((numF pu wo n) - v)) pu n), ar E a3 6 ro, ar E a4 6 wo] := hD
      subst hwr_5
      have eo_7 : (spTakeP n pu ro wo v) = (fil (fun w => figF (wo w) (ro w) ((numF pu wo n) - v)) pu n) := by simp [spTakeP, c_1, c_3, c_1b]
      exact hret _ _ _ _ _ () dX6_take_37 hS (by rw [eo_7]; exact hP) (by simp [spTake, c_1, c_3, c_1b])
    ·
      refine lv_bipush (v := (-3)) hx hb dX6_take_18 (by decide) ?_
      have eo_8 : (spTakeP n pu ro wo v) = pu := by simp [spTakeP, c_1, c_3, c_1b]
      exact hret _ _ _ _ _ () dX6_take_20 hS (by rw [eo_8]; exact hP) (by simp [spTake, c_1, c_3, c_1b])
  ·
    have c_1b := Int32.not_le.mp c_1
    refine lv_bipush (v := (-2)) hx hb dX6_take_4 (by decide) ?_
    have eo_9 : (spTakeP n pu ro wo v) = pu := by simp [spTakeP, c_1, c_1b]
    exact hret _ _ _ _ _ () dX6_take_6 hS (by rw [eo_9]; exact hP) (by simp [spTake, c_1, c_1b])
set_option maxHeartbeats 4000000 in
set_option maxRecDepth 100000 in
theorem c_X6_work (l : Launch) (E : gE) (g0 : Nat) (h0 : Nat) (k0 : Nat) (gs : Nat) (ht : Nat) (hd : Nat) (ho : Nat) (hr : Nat) (fo : Nat) (wy : Nat) (tr : Int32) (lf : Int32) (a0 : Nat) (a1 : Nat) (a2 : Nat) (a3 : Nat) (a4 : Nat) (n : Nat) (mo : Int32) (pu : Nat → Int32) (ro : Nat → Int32) (wo : Nat → Int32) (v : Int32) (what : Int32) (hg : WG n ro wo) : Met l yX6_work wsX6_work ({ frames := 3, cells := 0, slots := 0, locals := 68 }) (PR E [.ref g0, .int v, .int what] [ob g0 6 [.ref h0, .ref k0, .ref gs, .ref ht, .ref hd, .ref ho, .ref hr, .ref fo, .ref wy, .int tr, .int lf], ob h0 5 [.ref a0, .ref a1, .ref a2, .ref a3, .ref a4, .int (nI n), .int mo], ar E a2 6 pu, ar E a3 6 ro, ar E a4 6 wo]) (vp_Si (fun r => r = spWork n mo pu ro wo v what)) 0 0 (fun _ => False) := by
  refine mkRi (cc := cX6_work) (maxL := 4) (by decide) rfl (Nat.le_of_ble_eq_true rfl) ?_
  intro p e s m args below meth c QQ hx hb hml hown hmn hts hK hP hret ls hl
  have hown : s.vm.findClass RX6 = some m.cls := hown
  have hl : lv_has ls 4 [(0, .ref g0), (1, .int v), (2, .int what)] := hl
  have hinX6 : ∀ w ∈ wsX60, w ∈ wsX6_work := by decide +kernel
  have fl_12 := hts (.fieldLink RX6 12 "GuardAbacus" "wires" "LGuardAbacus$Wires;") (by decide +kernel)
  have hn := hg.le
  refine lv_iload_n hx hb dX6_work_0 rfl (lv_at hl 1 rfl) ?_
  refine lv_if_lt (tgt := 13) hx hb dX6_work_1 (by decide) (fun c_1 => ?_) (fun c_1 => ?_)
  ·
    have c_1b := Int32.not_le.mpr c_1
    refine lv_bipush (v := (-2)) hx hb dX6_work_13 (by decide) ?_
    exact hret _ _ _ dX6_work_15 (by simp [spWork, c_1, c_1b])
  ·
    have c_1b := Int32.not_lt.mp c_1
    refine lv_iload_n hx hb dX6_work_4 rfl (lv_at hl 2 rfl) ?_
    refine lv_if_lt (tgt := 13) hx hb dX6_work_5 (by decide) (fun c_2 => ?_) (fun c_2 => ?_)
    ·
      have c_2b := Int32.not_le.mpr c_2
      refine lv_bipush (v := (-2)) hx hb dX6_work_13 (by decide) ?_
      exact hret _ _ _ dX6_work_15 (by simp [spWork, c_1, c_2, c_1b, c_2b])
    ·
      have c_2b := Int32.not_lt.mp c_2
      refine lv_iload_n hx hb dX6_work_8 rfl (lv_at hl 2 rfl) ?_
      refine lv_iconst (v := 1) hx hb dX6_work_9 (by decide) ?_
      refine lv_icmp_le (tgt := 16) hx hb dX6_work_10 (by decide) (fun c_3 => ?_) (fun c_3 => ?_)
      ·
        have c_3b := Int32.not_lt.mpr c_3
        refine lv_aload_n hx hb dX6_work_16 rfl (lv_at hl 0 rfl) ?_
        refine va_get (D := E.1) (ci := 6) (v := .ref h0) (C := RX6) (T := TX6) (N := 11) hx hb hts hinX6 hown hK.1 hP 0 rfl rfl 0 (by decide) fl_12 (fun _ h9 => h9) rfl dX6_work_17 ?_
        refine lv_iload_n hx hb dX6_work_20 rfl (lv_at hl 1 rfl) ?_
        refine crV (As := [.int v]) (rest := []) ⟨hx, hb, hml, hown, hts⟩ (c_X5_canSum l E h0 a0 a1 a2 a3 a4 n mo pu wo v (by first | assumption | omega)) (cwV 1 hts gX6_work_X5_canSum rfl rfl rfl (by decide +kernel) ⟨Nat.le_of_ble_eq_true rfl, Nat.le_of_ble_eq_true rfl⟩) hK hP [1, 2, 4] rfl 0 rfl rfl rfl rfl hl.1 rfl (catLe (Nat.le_of_ble_eq_true rfl)) dX6_work_21 ⟨Nat.zero_le _, Nat.zero_le _⟩ (fun r_4 hr_4 => ?_)
        subst hr_4
        refine ifB_ne (P := canP n mo (numF pu wo n) v) (tgt := 30) hx hb dX6_work_24 (by decide) (fun c_5 => ?_) (fun c_5 => ?_)
        ·
          refine lv_aload_n hx hb dX6_work_30 rfl (lv_at hl 0 rfl) ?_
          refine va_get (D := E.1) (ci := 6) (v := .ref h0) (C := RX6) (T := TX6) (N := 11) hx hb hts hinX6 hown hK.1 hP 0 rfl rfl 0 (by decide) fl_12 (fun _ h9 => h9) rfl dX6_work_31 ?_
          refine crV (As := []) (rest := []) ⟨hx, hb, hml, hown, hts⟩ (c_X5_numberNow l E h0 a0 a1 a2 a3 a4 n mo pu wo (by first | assumption | omega)) (cwV 0 hts gX6_work_X5_numberNow rfl rfl rfl (by decide +kernel) ⟨Nat.le_of_ble_eq_true rfl, Nat.le_of_ble_eq_true rfl⟩) hK hP [1, 2, 4] rfl 0 rfl rfl rfl rfl hl.1 rfl (catLe (Nat.le_of_ble_eq_true rfl)) dX6_work_34 ⟨Nat.zero_le _, Nat.zero_le _⟩ (fun r_6 hr_6 => ?_)
          subst hr_6
          refine lv_istore_n (lv' := [(3, .int (numF pu wo n)), (0, .ref g0), (1, .int v), (2, .int what)]) hx hb dX6_work_37 rfl hl (by decide) rfl (fun ls hl => ?_)
          refine lv_iload_n hx hb dX6_work_38 rfl (lv_at hl 3 rfl) ?_
          refine lv_if_ne (tgt := 56) hx hb dX6_work_39 (by decide) (fun c_7 => ?_) (fun c_7 => ?_)
          ·
            refine lv_aload_n hx hb dX6_work_56 rfl (lv_at hl 1 rfl) ?_
            refine va_get (D := E.1) (ci := 6) (v := .ref h0) (C := RX6) (T := TX6) (N := 11) hx hb hts hinX6 hown hK.1 hP 0 rfl rfl 0 (by decide) fl_12 (fun _ h9 => h9) rfl dX6_work_57 ?_
            refine lv_iload_n hx hb dX6_work_60 rfl (lv_at hl 0 rfl) ?_
            refine lv_iload_n hx hb dX6_work_61 rfl (lv_at hl 2 rfl) ?_
            refine crV (As := [.int (numF pu wo n), .int v]) (rest := []) ⟨hx, hb, hml, hown, hts⟩ (c_X5_carriedBy l E h0 a0 a1 a2 a3 a4 n mo ro wo (numF pu wo n) v (by first | assumption | omega)) (cwV 2 hts gX6_work_X5_carriedBy rfl rfl rfl (by decide +kernel) ⟨Nat.le_of_ble_eq_true rfl, Nat.le_of_ble_eq_true rfl⟩) hK hP [1, 3, 4] rfl 0 rfl rfl rfl rfl hl.1 rfl (catLe (Nat.le_of_ble_eq_true rfl)) dX6_work_62 ⟨Nat.zero_le _, Nat.zero_le _⟩ (fun r_8 hr_8 => ?_)
            subst hr_8
            exact hret _ _ _ dX6_work_65 (by simp [spWork, c_1, c_2, c_3, c_5, c_7, c_1b, c_2b, c_3b])
          ·
            refine lv_aload_n hx hb dX6_work_42 rfl (lv_at hl 1 rfl) ?_
            refine va_get (D := E.1) (ci := 6) (v := .ref h0) (C := RX6) (T := TX6) (N := 11) hx hb hts hinX6 hown hK.1 hP 0 rfl rfl 0 (by decide) fl_12 (fun _ h9 => h9) rfl dX6_work_43 ?_
            refine lv_iload_n hx hb dX6_work_46 rfl (lv_at hl 0 rfl) ?_
            refine lv_iload_n hx hb dX6_work_47 rfl (lv_at hl 0 rfl) ?_
            refine lv_iload_n hx hb dX6_work_48 rfl (lv_at hl 2 rfl) ?_
            refine lv_iadd hx hb dX6_work_49 ?_
            refine crV (As := [.int (numF pu wo n), .int ((numF pu wo n) + v)]) (rest := []) ⟨hx, hb, hml, hown, hts⟩ (c_X5_slidBetween l E h0 a0 a1 a2 a3 a4 n mo ro wo (numF pu wo n) ((numF pu wo n) + v) (by first | assumption | omega)) (cwV 2 hts gX6_work_X5_slidBetween rfl rfl rfl (by decide +kernel) ⟨Nat.le_of_ble_eq_true rfl, Nat.le_of_ble_eq_true rfl⟩) hK hP [1, 3, 4] rfl 0 rfl rfl rfl rfl hl.1 rfl (catLe (Nat.le_of_ble_eq_true rfl)) dX6_work_50 ⟨Nat.zero_le _, Nat.zero_le _⟩ (fun r_9 hr_9 => ?_)
            subst hr_9
            refine lv_goto (tgt := 65) hx hb dX6_work_53 (by decide) ?_
            exact hret _ _ _ dX6_work_65 (by simp [spWork, c_1, c_2, c_3, c_5, c_7, c_1b, c_2b, c_3b])
        ·
          refine lv_bipush (v := (-3)) hx hb dX6_work_27 (by decide) ?_
          exact hret _ _ _ dX6_work_29 (by simp [spWork, c_1, c_2, c_3, c_5, c_1b, c_2b, c_3b])
      ·
        have c_3b := Int32.not_le.mp c_3
        refine lv_bipush (v := (-2)) hx hb dX6_work_13 (by decide) ?_
        exact hret _ _ _ dX6_work_15 (by simp [spWork, c_1, c_2, c_3, c_1b, c_2b, c_3b])
set_option maxHeartbeats 4000000 in
set_option maxRecDepth 100000 in
theorem c_X6_turn (l : Launch) (E : gE) (g0 : Nat) (h0 : Nat) (k0 : Nat) (gs : Nat) (ht : Nat) (hd : Nat) (ho : Nat) (hr : Nat) (fo : Nat) (wy : Nat) (tr : Int32) (lf : Int32) (a0 : Nat) (a1 : Nat) (a2 : Nat) (a3 : Nat) (a4 : Nat) (n : Nat) (mo : Int32) (pu : Nat → Int32) (what : Int32) (hn : n ≤ 6) : Met l yX6_turn wsX6_turn ({ frames := 0, cells := 0, slots := 0, locals := 0 }) (PR E [.ref g0, .int what] [ob g0 6 [.ref h0, .ref k0, .ref gs, .ref ht, .ref hd, .ref ho, .ref hr, .ref fo, .ref wy, .int tr, .int lf], ob h0 5 [.ref a0, .ref a1, .ref a2, .ref a3, .ref a4, .int (nI n), .int mo], ar E a2 6 pu]) (vp_Si (fun r => r = spTurn n pu what)) 0 0 (fun _ => False) := by
  refine mkRi (cc := cX6_turn) (maxL := 5) (by decide) rfl (Nat.le_of_ble_eq_true rfl) ?_
  intro p e s m args below meth c QQ hx hb hml hown hmn hts hK hP hret ls hl
  have hown : s.vm.findClass RX6 = some m.cls := hown
  have hl : lv_has ls 5 [(0, .ref g0), (1, .int what)] := hl
  have hinX5 : ∀ w ∈ wsX50, w ∈ wsX6_turn := by decide +kernel
  have hinX6 : ∀ w ∈ wsX60, w ∈ wsX6_turn := by decide +kernel
  have fl_12 := hts (.fieldLink RX6 12 "GuardAbacus" "wires" "LGuardAbacus$Wires;") (by decide +kernel)
  have fl_89 := hts (.fieldLink RX6 89 "GuardAbacus$Wires" "count" "I") (by decide +kernel)
  have fl_103 := hts (.fieldLink RX6 103 "GuardAbacus$Wires" "pushed" "[I") (by decide +kernel)
  refine lv_iload_n hx hb dX6_turn_0 rfl (lv_at hl 1 rfl) ?_
  refine lv_if_lt (tgt := 9) hx hb dX6_turn_1 (by decide) (fun c_1 => ?_) (fun c_1 => ?_)
  ·
    have c_1b := Int32.not_le.mpr c_1
    refine lv_bipush (v := (-2)) hx hb dX6_turn_9 (by decide) ?_
    exact hret _ _ _ dX6_turn_11 (by simp only [spTurn]; simp [c_1, c_1b]; try omega)
  ·
    have c_1b := Int32.not_lt.mp c_1
    refine lv_iload_n hx hb dX6_turn_4 rfl (lv_at hl 1 rfl) ?_
    refine lv_iconst (v := 1) hx hb dX6_turn_5 (by decide) ?_
    refine lv_icmp_le (tgt := 12) hx hb dX6_turn_6 (by decide) (fun c_2 => ?_) (fun c_2 => ?_)
    ·
      have c_2b := Int32.not_lt.mpr c_2
      refine lv_aload_n hx hb dX6_turn_12 rfl (lv_at hl 0 rfl) ?_
      refine va_get (D := E.1) (ci := 6) (v := .ref h0) (C := RX6) (T := TX6) (N := 11) hx hb hts hinX6 hown hK.1 hP 0 rfl rfl 0 (by decide) fl_12 (fun _ h9 => h9) rfl dX6_turn_13 ?_
      refine va_get (D := E.1) (ci := 5) (v := .int (nI n)) (C := RX5) (T := TX5) (N := 7) hx hb hts hinX5 hown hK.1 hP 1 rfl rfl 5 (by decide) fl_89 (fun _ h9 => h9) rfl dX6_turn_16 ?_
      refine ifN_ne (tgt := 25) (a := n) hx hb rfl (by omega) dX6_turn_19 (by decide) (fun c_3 => ?_) (fun c_3 => ?_)
      ·
        refine lv_iconst (v := 0) hx hb dX6_turn_25 (by decide) ?_
        refine lv_istore_n (lv' := [(2, .int 0), (0, .ref g0), (1, .int what)]) hx hb dX6_turn_26 rfl hl (by decide) rfl (fun ls hl => ?_)
        refine lv_iconst (v := 0) hx hb dX6_turn_27 (by decide) ?_
        refine lv_istore_n (lv' := [(3, .int 0), (2, .int 0), (0, .ref g0), (1, .int what)]) hx hb dX6_turn_28 rfl hl (by decide) rfl (fun ls hl => ?_)
        have L29 : ∀ (fuel : Nat) (k : Nat), (k ≤ n) → (n - k) < fuel → ∀ ls : Array Slot, lv_has ls 5 [(3, .int (nI k)), (2, .int (xrF pu k)), (0, .ref g0), (1, .int what)] → W p l e ({ frames := 0, cells := 0, slots := 0, locals := 0 }) s m args below meth c s.heap [] 0 0 QQ (F0 m 29 ls []) := by
          intro fuel
          induction fuel with
          | zero => intro k hk hf; exact absurd hf (Nat.not_lt_zero _)
          | succ fuel ih29 =>
            intro k hk hf29 ls hl
            refine lv_iload_n hx hb dX6_turn_29 rfl (lv_at hl 0 rfl) ?_
            refine lv_aload_n hx hb dX6_turn_30 rfl (lv_at hl 2 rfl) ?_
            refine va_get (D := E.1) (ci := 6) (v := .ref h0) (C := RX6) (T := TX6) (N := 11) hx hb hts hinX6 hown hK.1 hP 0 rfl rfl 0 (by decide) fl_12 (fun _ h9 => h9) rfl dX6_turn_31 ?_
            refine va_get (D := E.1) (ci := 5) (v := .int (nI n)) (C := RX5) (T := TX5) (N := 7) hx hb hts hinX5 hown hK.1 hP 1 rfl rfl 5 (by decide) fl_89 (fun _ h9 => h9) rfl dX6_turn_34 ?_
            refine icmpN_ge (tgt := 58) (a := k) (b := n) hx hb rfl rfl (by omega) (by omega) dX6_turn_37 (by decide) (fun c_4 => ?_) (fun c_4 => ?_)
            ·
              obtain rfl : n = k := by omega
              refine lv_iconst (v := 0) hx hb dX6_turn_58 (by decide) ?_
              refine lv_istore_n (lv' := [(3, .int 0), (2, .int (xrF pu n)), (0, .ref g0), (1, .int what)]) hx hb dX6_turn_59 rfl hl (by decide) rfl (fun ls hl => ?_)
              have L60 : ∀ (fuel : Nat) (z : Nat), (z ≤ n) → (tuF pu (xrF pu n) z = none) → (n - z) < fuel → ∀ ls : Array Slot, lv_has ls 5 [(3, .int (nI z)), (2, .int (xrF pu n)), (0, .ref g0), (1, .int what)] → W p l e ({ frames := 0, cells := 0, slots := 0, locals := 0 }) s m args below meth c s.heap [] 0 0 QQ (F0 m 60 ls []) := by
                intro fuel
                induction fuel with
                | zero => intro z hz hq hf; exact absurd hf (Nat.not_lt_zero _)
                | succ fuel ih60 =>
                  intro z hz hq hf60 ls hl
                  refine lv_iload_n hx hb dX6_turn_60 rfl (lv_at hl 0 rfl) ?_
                  refine lv_aload_n hx hb dX6_turn_61 rfl (lv_at hl 2 rfl) ?_
                  refine va_get (D := E.1) (ci := 6) (v := .ref h0) (C := RX6) (T := TX6) (N := 11) hx hb hts hinX6 hown hK.1 hP 0 rfl rfl 0 (by decide) fl_12 (fun _ h9 => h9) rfl dX6_turn_62 ?_
                  refine va_get (D := E.1) (ci := 5) (v := .int (nI n)) (C := RX5) (T := TX5) (N := 7) hx hb hts hinX5 hown hK.1 hP 1 rfl rfl 5 (by decide) fl_89 (fun _ h9 => h9) rfl dX6_turn_65 ?_
                  refine icmpN_ge (tgt := 115) (a := z) (b := n) hx hb rfl rfl (by omega) (by omega) dX6_turn_68 (by decide) (fun c_5 => ?_) (fun c_5 => ?_)
                  ·
                    obtain rfl : n = z := by omega
                    refine lv_bipush (v := (-9)) hx hb dX6_turn_115 (by decide) ?_
                    exact hret _ _ _ dX6_turn_117 (by simp only [spTurn]; rw [hq]; simp [c_1, c_2, c_3]; try omega)
                  ·
                    refine lv_aload_n hx hb dX6_turn_71 rfl (lv_at hl 2 rfl) ?_
                    refine va_get (D := E.1) (ci := 6) (v := .ref h0) (C := RX6) (T := TX6) (N := 11) hx hb hts hinX6 hown hK.1 hP 0 rfl rfl 0 (by decide) fl_12 (fun _ h9 => h9) rfl dX6_turn_72 ?_
                    refine va_get (D := E.1) (ci := 5) (v := .ref a2) (C := RX5) (T := TX5) (N := 7) hx hb hts hinX5 hown hK.1 hP 1 rfl rfl 2 (by decide) fl_103 (fun _ h9 => h9) rfl dX6_turn_75 ?_
                    refine lv_iload_n hx hb dX6_turn_78 rfl (lv_at hl 0 rfl) ?_
                    refine ild hx hb hK hP 2 rfl (j := z) rfl (by omega) (by decide) dX6_turn_79 ?_
                    refine lv_iload_n hx hb dX6_turn_80 rfl (lv_at hl 1 rfl) ?_
                    refine lv_ixor hx hb dX6_turn_81 ?_
                    refine lv_istore (lv' := [(4, .int ((pu z) ^^^ (xrF pu n))), (3, .int (nI z)), (2, .int (xrF pu n)), (0, .ref g0), (1, .int what)]) hx hb dX6_turn_82 hl (by decide) rfl (fun ls hl => ?_)
                    refine lv_iload hx hb dX6_turn_84 (lv_at hl 0 rfl) ?_
                    refine lv_aload_n hx hb dX6_turn_86 rfl (lv_at hl 3 rfl) ?_
                    refine va_get (D := E.1) (ci := 6) (v := .ref h0) (C := RX6) (T := TX6) (N := 11) hx hb hts hinX6 hown hK.1 hP 0 rfl rfl 0 (by decide) fl_12 (fun _ h9 => h9) rfl dX6_turn_87 ?_
                    refine va_get (D := E.1) (ci := 5) (v := .ref a2) (C := RX5) (T := TX5) (N := 7) hx hb hts hinX5 hown hK.1 hP 1 rfl rfl 2 (by decide) fl_103 (fun _ h9 => h9) rfl dX6_turn_90 ?_
                    refine lv_iload_n hx hb dX6_turn_93 rfl (lv_at hl 1 rfl) ?_
                    refine ild hx hb hK hP 2 rfl (j := z) rfl (by omega) (by decide) dX6_turn_94 ?_
                    refine lv_icmp_ge (tgt := 109) hx hb dX6_turn_95 (by decide) (fun c_6 => ?_) (fun c_6 => ?_)
                    ·
                      have c_6b := Int32.not_lt.mpr c_6
                      refine lv_iinc (v := nI (z + 1)) (lv' := [(3, .int (nI (z + 1))), (4, .int ((pu z) ^^^ (xrF pu n))), (2, .int (xrF pu n)), (0, .ref g0), (1, .int what)]) hx hb dX6_turn_109 hl (k := 1) rfl (nI_inc z) (by decide) rfl (fun ls hl => ?_)
                      refine lv_goto (tgt := 60) hx hb dX6_turn_112 (by decide) ?_
                      exact ih60 (z + 1) (by omega) (tuF_miss hq (Int32.not_lt.mpr c_6)) (by omega) ls (lv_sub hl [0, 2, 3, 4] rfl)
                    ·
                      have c_6b := Int32.not_le.mp c_6
                      refine lv_iload_n hx hb dX6_turn_98 rfl (lv_at hl 4 rfl) ?_
                      refine lv_if_ne (tgt := 106) hx hb dX6_turn_99 (by decide) (fun c_7 => ?_) (fun c_7 => ?_)
                      ·
                        refine lv_iload hx hb dX6_turn_106 (lv_at hl 0 rfl) ?_
                        exact hret _ _ _ dX6_turn_108 (by simp only [spTurn]; rw [tuF_hit hq (Int32.not_le.mp c_6) n (by omega)]; simp [c_1, c_2, c_3, c_7]; try omega)
                      ·
                        refine lv_iload_n hx hb dX6_turn_102 rfl (lv_at hl 1 rfl) ?_
                        refine lv_goto (tgt := 108) hx hb dX6_turn_103 (by decide) ?_
                        exact hret _ _ _ dX6_turn_108 (by simp only [spTurn]; rw [tuF_hit hq (Int32.not_le.mp c_6) n (by omega)]; simp [c_1, c_2, c_3, c_7]; try omega)
              exact L60 _ 0 (by omega) rfl (Nat.lt_succ_self _) ls (lv_sub hl [0, 1, 2, 3] rfl)
            ·
              refine lv_iload_n hx hb dX6_turn_40 rfl (lv_at hl 1 rfl) ?_
              refine lv_aload_n hx hb dX6_turn_41 rfl (lv_at hl 2 rfl) ?_
              refine va_get (D := E.1) (ci := 6) (v := .ref h0) (C := RX6) (T := TX6) (N := 11) hx hb hts hinX6 hown hK.1 hP 0 rfl rfl 0 (by decide) fl_12 (fun _ h9 => h9) rfl dX6_turn_42 ?_
              refine va_get (D := E.1) (ci := 5) (v := .ref a2) (C := RX5) (T := TX5) (N := 7) hx hb hts hinX5 hown hK.1 hP 1 rfl rfl 2 (by decide) fl_103 (fun _ h9 => h9) rfl dX6_turn_45 ?_
              refine lv_iload_n hx hb dX6_turn_48 rfl (lv_at hl 0 rfl) ?_
              refine ild hx hb hK hP 2 rfl (j := k) rfl (by omega) (by decide) dX6_turn_49 ?_
              refine lv_ixor hx hb dX6_turn_50 ?_
              refine lv_istore_n (lv' := [(2, .int ((xrF pu k) ^^^ (pu k))), (3, .int (nI k)), (0, .ref g0), (1, .int what)]) hx hb dX6_turn_51 rfl hl (by decide) rfl (fun ls hl => ?_)
              refine lv_iinc (v := nI (k + 1)) (lv' := [(3, .int (nI (k + 1))), (2, .int ((xrF pu k) ^^^ (pu k))), (0, .ref g0), (1, .int what)]) hx hb dX6_turn_52 hl (k := 1) rfl (nI_inc k) (by decide) rfl (fun ls hl => ?_)
              refine lv_goto (tgt := 29) hx hb dX6_turn_55 (by decide) ?_
              exact ih29 (k + 1) (by omega) (by omega) ls (lv_sub hl [0, 1, 2, 3] rfl)
        exact L29 _ 0 (by omega) (Nat.lt_succ_self _) ls (lv_sub hl [0, 1, 2, 3] rfl)
      ·
        refine lv_bipush (v := (-3)) hx hb dX6_turn_22 (by decide) ?_
        exact hret _ _ _ dX6_turn_24 (by simp only [spTurn]; simp [c_1, c_2, c_3, c_1b, c_2b]; try omega)
    ·
      have c_2b := Int32.not_le.mp c_2
      refine lv_bipush (v := (-2)) hx hb dX6_turn_9 (by decide) ?_
      exact hret _ _ _ dX6_turn_11 (by simp only [spTurn]; simp [c_1, c_2, c_1b, c_2b]; try omega)
set_option maxHeartbeats 4000000 in
set_option maxRecDepth 100000 in
theorem c_X6_reading (l : Launch) (E : gE) (sz : Nat) (g0 : Nat) (h0 : Nat) (k0 : Nat) (gs : Nat) (ht : Nat) (hd : Nat) (ho : Nat) (hr : Nat) (fo : Nat) (wy : Nat) (tr : Int32) (lf : Int32) (a0 : Nat) (a1 : Nat) (a2 : Nat) (a3 : Nat) (a4 : Nat) (n : Nat) (mo : Int32) (s0 : Nat) (s1 : Nat) (s2 : Nat) (rc : Nat) (rs : Nat → Int32) (rw : Nat → Int32) (rf : Nat → Int32) (v : Int32) (w : Int32) (fg : Int32) (hn : n ≤ 6) (hrc : rc ≤ 8) : Met l yX6_reading wsX6_reading ({ frames := 1, cells := 0, slots := 0, locals := 23 }) (PW E [.ref g0, .int v, .int w, .int fg] [ob g0 6 [.ref h0, .ref k0, .ref gs, .ref ht, .ref hd, .ref ho, .ref hr, .ref fo, .ref wy, .int tr, .int lf], ob h0 5 [.ref a0, .ref a1, .ref a2, .ref a3, .ref a4, .int (nI n), .int mo], ob hr 2 [.ref s0, .ref s1, .ref s2, .int (nI rc)], ar E s0 8 rs, ar E s1 8 rw, ar E s2 8 rf] sz) (QWi E (fun r _ => r = spReading n rc v w fg) (fun (_ : Unit) => [ob g0 6 [.ref h0, .ref k0, .ref gs, .ref ht, .ref hd, .ref ho, .ref hr, .ref fo, .ref wy, .int tr, .int lf], ob h0 5 [.ref a0, .ref a1, .ref a2, .ref a3, .ref a4, .int (nI n), .int mo], ob hr 2 [.ref s0, .ref s1, .ref s2, .int (nI (if rdOk n v w fg ∧ rc < 8 then rc + 1 else rc))], ar E s0 8 (if rdOk n v w fg then upd rs rc v else rs), ar E s1 8 (if rdOk n v w fg then upd rw rc w else rw), ar E s2 8 (if rdOk n v w fg then upd rf rc fg else rf)]) (va_A [ob g0 6 [.ref h0, .ref k0, .ref gs, .ref ht, .ref hd, .ref ho, .ref hr, .ref fo, .ref wy, .int tr, .int lf], ob h0 5 [.ref a0, .ref a1, .ref a2, .ref a3, .ref a4, .int (nI n), .int mo], ob hr 2 [.ref s0, .ref s1, .ref s2, .int (nI rc)], ar E s0 8 rs, ar E s1 8 rw, ar E s2 8 rf] sz)) 0 0 (va_A [ob g0 6 [.ref h0, .ref k0, .ref gs, .ref ht, .ref hd, .ref ho, .ref hr, .ref fo, .ref wy, .int tr, .int lf], ob h0 5 [.ref a0, .ref a1, .ref a2, .ref a3, .ref a4, .int (nI n), .int mo], ob hr 2 [.ref s0, .ref s1, .ref s2, .int (nI rc)], ar E s0 8 rs, ar E s1 8 rw, ar E s2 8 rf] sz) := by
  refine mkWi (cc := cX6_reading) (maxL := 5) (by decide) rfl (Nat.le_of_ble_eq_true rfl) ?_
  intro p e s m args below meth c QQ A hx hb hml hown hmn hts hK hA hP hD hS hret ls hl
  have hown : s.vm.findClass RX6 = some m.cls := hown
  have hl : lv_has ls 5 [(0, .ref g0), (1, .int v), (2, .int w), (3, .int fg)] := hl
  have hinX2 : ∀ w ∈ wsX20, w ∈ wsX6_reading := by decide +kernel
  have hinX6 : ∀ w ∈ wsX60, w ∈ wsX6_reading := by decide +kernel
  have fl_12 := hts (.fieldLink RX6 12 "GuardAbacus" "wires" "LGuardAbacus$Wires;") (by decide +kernel)
  have fl_51 := hts (.fieldLink RX6 51 "GuardAbacus" "readings" "LGuardAbacus$Readings;") (by decide +kernel)
  have fl_86 := hts (.fieldLink RX6 86 "GuardAbacus$Readings" "count" "I") (by decide +kernel)
  refine lv_aload_n hx hb dX6_reading_0 rfl (lv_at hl 0 rfl) ?_
  refine va_get (D := E.1) (ci := 6) (v := .ref h0) (C := RX6) (T := TX6) (N := 11) hx hb hts hinX6 hown hK.1 hP 0 rfl rfl 0 (by decide) fl_12 (fun _ h9 => h9) rfl dX6_reading_1 ?_
  refine lv_iload_n hx hb dX6_reading_4 rfl (lv_at hl 2 rfl) ?_
  refine crV (As := [.int w]) (rest := []) ⟨hx, hb, hml, hown, hts⟩ (c_X5_has l E h0 a0 a1 a2 a3 a4 n mo w (by first | assumption | omega)) (cwV 1 hts gX6_reading_X5_has rfl rfl rfl (by decide +kernel) ⟨Nat.le_of_ble_eq_true rfl, Nat.le_of_ble_eq_true rfl⟩) hK hP [1] rfl 0 rfl rfl rfl rfl hl.1 rfl (catLe (Nat.le_of_ble_eq_true rfl)) dX6_reading_5 ⟨Nat.zero_le _, Nat.zero_le _⟩ (fun r_1 hr_1 => ?_)
  subst hr_1
  refine ifB_ne (P := hasP n w) (tgt := 13) hx hb dX6_reading_8 (by decide) (fun c_2 => ?_) (fun c_2 => ?_)
  ·
    have hh1 := c_2.1
    have hh2 := c_2.2
    refine lv_iload_n hx hb dX6_reading_13 rfl (lv_at hl 1 rfl) ?_
    refine lv_if_lt (tgt := 34) hx hb dX6_reading_14 (by decide) (fun c_3 => ?_) (fun c_3 => ?_)
    ·
      have c_3b := Int32.not_le.mpr c_3
      refine lv_bipush (v := (-2)) hx hb dX6_reading_34 (by decide) ?_
      have eo_4 : (nI (if rdOk n v w fg ∧ rc < 8 then rc + 1 else rc)) = (nI rc) := by simp [rdOk, rdBad, hasP, c_2, hh1, hh2, c_3, c_3b]
      have eo_5 : (if rdOk n v w fg then upd rs rc v else rs) = rs := by simp [rdOk, rdBad, hasP, c_2, hh1, hh2, c_3, c_3b]
      have eo_6 : (if rdOk n v w fg then upd rw rc w else rw) = rw := by simp [rdOk, rdBad, hasP, c_2, hh1, hh2, c_3, c_3b]
      have eo_7 : (if rdOk n v w fg then upd rf rc fg else rf) = rf := by simp [rdOk, rdBad, hasP, c_2, hh1, hh2, c_3, c_3b]
      exact hret _ _ _ _ _ () dX6_reading_36 hS (by rw [eo_4, eo_5, eo_6, eo_7]; exact hP) (by simp only [spReading]; simp [rdBad, c_2, hh1, hh2, c_3, c_3b]; try omega)
    ·
      have c_3b := Int32.not_lt.mp c_3
      refine lv_iload_n hx hb dX6_reading_17 rfl (lv_at hl 1 rfl) ?_
      refine lv_sipush (v := 999) hx hb dX6_reading_18 (by decide) ?_
      refine lv_icmp_gt (tgt := 34) hx hb dX6_reading_21 (by decide) (fun c_8 => ?_) (fun c_8 => ?_)
      ·
        have c_8b := Int32.not_le.mpr c_8
        refine lv_bipush (v := (-2)) hx hb dX6_reading_34 (by decide) ?_
        have eo_9 : (nI (if rdOk n v w fg ∧ rc < 8 then rc + 1 else rc)) = (nI rc) := by simp [rdOk, rdBad, hasP, c_2, hh1, hh2, c_3, c_8, c_3b, c_8b]
        have eo_10 : (if rdOk n v w fg then upd rs rc v else rs) = rs := by simp [rdOk, rdBad, hasP, c_2, hh1, hh2, c_3, c_8, c_3b, c_8b]
        have eo_11 : (if rdOk n v w fg then upd rw rc w else rw) = rw := by simp [rdOk, rdBad, hasP, c_2, hh1, hh2, c_3, c_8, c_3b, c_8b]
        have eo_12 : (if rdOk n v w fg then upd rf rc fg else rf) = rf := by simp [rdOk, rdBad, hasP, c_2, hh1, hh2, c_3, c_8, c_3b, c_8b]
        exact hret _ _ _ _ _ () dX6_reading_36 hS (by rw [eo_9, eo_10, eo_11, eo_12]; exact hP) (by simp only [spReading]; simp [rdBad, c_2, hh1, hh2, c_3, c_8, c_3b, c_8b]; try omega)
      ·
        have c_8b := Int32.not_lt.mp c_8
        refine lv_iload_n hx hb dX6_reading_24 rfl (lv_at hl 3 rfl) ?_
        refine lv_if_lt (tgt := 34) hx hb dX6_reading_25 (by decide) (fun c_13 => ?_) (fun c_13 => ?_)
        ·
          have c_13b := Int32.not_le.mpr c_13
          refine lv_bipush (v := (-2)) hx hb dX6_reading_34 (by decide) ?_
          have eo_14 : (nI (if rdOk n v w fg ∧ rc < 8 then rc + 1 else rc)) = (nI rc) := by simp [rdOk, rdBad, hasP, c_2, hh1, hh2, c_3, c_8, c_13, c_3b, c_8b, c_13b]
          have eo_15 : (if rdOk n v w fg then upd rs rc v else rs) = rs := by simp [rdOk, rdBad, hasP, c_2, hh1, hh2, c_3, c_8, c_13, c_3b, c_8b, c_13b]
          have eo_16 : (if rdOk n v w fg then upd rw rc w else rw) = rw := by simp [rdOk, rdBad, hasP, c_2, hh1, hh2, c_3, c_8, c_13, c_3b, c_8b, c_13b]
          have eo_17 : (if rdOk n v w fg then upd rf rc fg else rf) = rf := by simp [rdOk, rdBad, hasP, c_2, hh1, hh2, c_3, c_8, c_13, c_3b, c_8b, c_13b]
          exact hret _ _ _ _ _ () dX6_reading_36 hS (by rw [eo_14, eo_15, eo_16, eo_17]; exact hP) (by simp only [spReading]; simp [rdBad, c_2, hh1, hh2, c_3, c_8, c_13, c_3b, c_8b, c_13b]; try omega)
        ·
          have c_13b := Int32.not_lt.mp c_13
          refine lv_iload_n hx hb dX6_reading_28 rfl (lv_at hl 3 rfl) ?_
          refine lv_bipush (v := 18) hx hb dX6_reading_29 (by decide) ?_
          refine lv_icmp_le (tgt := 37) hx hb dX6_reading_31 (by decide) (fun c_18 => ?_) (fun c_18 => ?_)
          ·
            have c_18b := Int32.not_lt.mpr c_18
            refine lv_aload_n hx hb dX6_reading_37 rfl (lv_at hl 0 rfl) ?_
            refine va_get (D := E.1) (ci := 6) (v := .ref hr) (C := RX6) (T := TX6) (N := 11) hx hb hts hinX6 hown hK.1 hP 0 rfl rfl 6 (by decide) fl_51 (fun _ h9 => h9) rfl dX6_reading_38 ?_
            refine va_get (D := E.1) (ci := 2) (v := .int (nI rc)) (C := RX2) (T := TX2) (N := 4) hx hb hts hinX2 hown hK.1 hP 2 rfl rfl 3 (by decide) fl_86 (fun _ h9 => h9) rfl dX6_reading_41 ?_
            refine lv_istore (lv' := [(4, .int (nI rc)), (0, .ref g0), (1, .int v), (2, .int w), (3, .int fg)]) hx hb dX6_reading_44 hl (by decide) rfl (fun ls hl => ?_)
            refine lv_aload_n hx hb dX6_reading_46 rfl (lv_at hl 1 rfl) ?_
            refine va_get (D := E.1) (ci := 6) (v := .ref hr) (C := RX6) (T := TX6) (N := 11) hx hb hts hinX6 hown hK.1 hP 0 rfl rfl 6 (by decide) fl_51 (fun _ h9 => h9) rfl dX6_reading_47 ?_
            refine lv_iload_n hx hb dX6_reading_50 rfl (lv_at hl 2 rfl) ?_
            refine lv_iload_n hx hb dX6_reading_51 rfl (lv_at hl 3 rfl) ?_
            refine lv_iload_n hx hb dX6_reading_52 rfl (lv_at hl 4 rfl) ?_
            refine cwVi (As := [.int v, .int w, .int fg]) (rest := []) ⟨hx, hb, hml, hown, hts⟩ (c_X2_keep l E _ hr s0 s1 s2 rc rs rw rf v w fg (by first | assumption | omega)) (cwV 3 hts gX6_reading_X2_keep rfl rfl rfl (by decide +kernel) ⟨Nat.le_of_ble_eq_true rfl, Nat.le_of_ble_eq_true rfl⟩) hK hP hD hS hA [2, 3, 4, 5] (by decide) rfl [hr, s0, s1, s2] (fun _ => rfl) rfl 0 rfl rfl rfl rfl hl.1 rfl (catLe (Nat.le_of_ble_eq_true rfl)) dX6_reading_53 ⟨Nat.zero_le _, Nat.zero_le _⟩ (fun r_19 u_20 H locs hwr_19 hP hD hS => ?_)
            have hP : va_P E.1 vwCl [ob g0 6 [.ref h0, .ref k0, .ref gs, .ref ht, .ref hd, .ref ho, .ref hr, .ref fo, .ref wy, .int tr, .int lf], ob h0 5 [.ref a0, .ref a1, .ref a2, .ref a3, .ref a4, .int (nI n), .int mo], ob hr 2 [.ref s0, .ref s1, .ref s2, .int (nI (if rc < 8 then rc + 1 else rc))], ar E s0 8 (upd rs rc v), ar E s1 8 (upd rw rc w), ar E s2 8 (upd rf rc fg)] H := hP
            have hD : va_D A [ob g0 6 [.ref h0, .ref k0, .ref gs, .ref ht, .ref hd, .ref ho, .ref hr, .ref fo, .ref wy, .int tr, .int lf], ob h0 5 [.ref a0, .ref a1, .ref a2, .ref a3, .ref a4, .int (nI n), .int mo], ob hr 2 [.ref s0, .ref s1, .ref s2, .int (nI (if rc < 8 then rc + 1 else rc))], ar E s0 8 (upd rs rc v), ar E s1 8 (upd rw rc w), ar E s2 8 (upd rf rc fg)] := hD
            subst hwr_19
            refine ifB_eq (P := rc < 8) (tgt := 64) hx hb dX6_reading_56 (by decide) (fun c_21 => ?_) (fun c_21 => ?_)
            ·
              refine lv_bipush (v := (-4)) hx hb dX6_reading_64 (by decide) ?_
              have eo_22 : (nI (if rdOk n v w fg ∧ rc < 8 then rc + 1 else rc)) = (nI (if rc < 8 then rc + 1 else rc)) := by simp [rdOk, rdBad, hasP, c_2, hh1, hh2, c_3, c_8, c_13, c_18, c_21, c_3b, c_8b, c_13b, c_18b]
              have eo_23 : (if rdOk n v w fg then upd rs rc v else rs) = (upd rs rc v) := by simp [rdOk, rdBad, hasP, c_2, hh1, hh2, c_3, c_8, c_13, c_18, c_21, c_3b, c_8b, c_13b, c_18b]
              have eo_24 : (if rdOk n v w fg then upd rw rc w else rw) = (upd rw rc w) := by simp [rdOk, rdBad, hasP, c_2, hh1, hh2, c_3, c_8, c_13, c_18, c_21, c_3b, c_8b, c_13b, c_18b]
              have eo_25 : (if rdOk n v w fg then upd rf rc fg else rf) = (upd rf rc fg) := by simp [rdOk, rdBad, hasP, c_2, hh1, hh2, c_3, c_8, c_13, c_18, c_21, c_3b, c_8b, c_13b, c_18b]
              exact hret _ _ _ _ _ () dX6_reading_66 hS (by rw [eo_22, eo_23, eo_24, eo_25]; exact hP) (by simp only [spReading]; simp [rdBad, c_2, hh1, hh2, c_3, c_8, c_13, c_18, c_21, c_3b, c_8b, c_13b, c_18b]; try omega)
            ·
              refine lv_iload hx hb dX6_reading_59 (lv_at hl 0 rfl) ?_
              refine lv_goto (tgt := 66) hx hb dX6_reading_61 (by decide) ?_
              have eo_26 : (nI (if rdOk n v w fg ∧ rc < 8 then rc + 1 else rc)) = (nI (if rc < 8 then rc + 1 else rc)) := by simp [rdOk, rdBad, hasP, c_2, hh1, hh2, c_3, c_8, c_13, c_18, c_21, c_3b, c_8b, c_13b, c_18b]
              have eo_27 : (if rdOk n v w fg then upd rs rc v else rs) = (upd rs rc v) := by simp [rdOk, rdBad, hasP, c_2, hh1, hh2, c_3, c_8, c_13, c_18, c_21, c_3b, c_8b, c_13b, c_18b]
              have eo_28 : (if rdOk n v w fg then upd rw rc w else rw) = (upd rw rc w) := by simp [rdOk, rdBad, hasP, c_2, hh1, hh2, c_3, c_8, c_13, c_18, c_21, c_3b, c_8b, c_13b, c_18b]
              have eo_29 : (if rdOk n v w fg then upd rf rc fg else rf) = (upd rf rc fg) := by simp [rdOk, rdBad, hasP, c_2, hh1, hh2, c_3, c_8, c_13, c_18, c_21, c_3b, c_8b, c_13b, c_18b]
              exact hret _ _ _ _ _ () dX6_reading_66 hS (by rw [eo_26, eo_27, eo_28, eo_29]; exact hP) (by simp only [spReading]; simp [rdBad, c_2, hh1, hh2, c_3, c_8, c_13, c_18, c_21, c_3b, c_8b, c_13b, c_18b]; try omega)
          ·
            have c_18b := Int32.not_le.mp c_18
            refine lv_bipush (v := (-2)) hx hb dX6_reading_34 (by decide) ?_
            have eo_30 : (nI (if rdOk n v w fg ∧ rc < 8 then rc + 1 else rc)) = (nI rc) := by simp [rdOk, rdBad, hasP, c_2, hh1, hh2, c_3, c_8, c_13, c_18, c_3b, c_8b, c_13b, c_18b]
            have eo_31 : (if rdOk n v w fg then upd rs rc v else rs) = rs := by simp [rdOk, rdBad, hasP, c_2, hh1, hh2, c_3, c_8, c_13, c_18, c_3b, c_8b, c_13b, c_18b]
            have eo_32 : (if rdOk n v w fg then upd rw rc w else rw) = rw := by simp [rdOk, rdBad, hasP, c_2, hh1, hh2, c_3, c_8, c_13, c_18, c_3b, c_8b, c_13b, c_18b]
            have eo_33 : (if rdOk n v w fg then upd rf rc fg else rf) = rf := by simp [rdOk, rdBad, hasP, c_2, hh1, hh2, c_3, c_8, c_13, c_18, c_3b, c_8b, c_13b, c_18b]
            exact hret _ _ _ _ _ () dX6_reading_36 hS (by rw [eo_30, eo_31, eo_32, eo_33]; exact hP) (by simp only [spReading]; simp [rdBad, c_2, hh1, hh2, c_3, c_8, c_13, c_18, c_3b, c_8b, c_13b, c_18b]; try omega)
  ·
    refine lv_iconst (v := (-1)) hx hb dX6_reading_11 (by decide) ?_
    have eo_34 : (nI (if rdOk n v w fg ∧ rc < 8 then rc + 1 else rc)) = (nI rc) := by simp [rdOk, rdBad, c_2]
    have eo_35 : (if rdOk n v w fg then upd rs rc v else rs) = rs := by simp [rdOk, rdBad, c_2]
    have eo_36 : (if rdOk n v w fg then upd rw rc w else rw) = rw := by simp [rdOk, rdBad, c_2]
    have eo_37 : (if rdOk n v w fg then upd rf rc fg else rf) = rf := by simp [rdOk, rdBad, c_2]
    exact hret _ _ _ _ _ () dX6_reading_12 hS (by rw [eo_34, eo_35, eo_36, eo_37]; exact hP) (by simp only [spReading]; simp [rdBad, c_2]; try omega)
set_option maxHeartbeats 4000000 in
set_option maxRecDepth 100000 in
theorem c_X6_back (l : Launch) (E : gE) (sz : Nat) (g0 : Nat) (h0 : Nat) (k0 : Nat) (gs : Nat) (ht : Nat) (hd : Nat) (ho : Nat) (hr : Nat) (fo : Nat) (wy : Nat) (tr : Int32) (lf : Int32) (s0 : Nat) (s1 : Nat) (s2 : Nat) (rc : Nat) (x : Int32) (hrc : rc ≤ 8) : Met l yX6_back wsX6_back ({ frames := 0, cells := 0, slots := 0, locals := 0 }) (PW E [.ref g0, .int x] [ob g0 6 [.ref h0, .ref k0, .ref gs, .ref ht, .ref hd, .ref ho, .ref hr, .ref fo, .ref wy, .int tr, .int lf], ob hr 2 [.ref s0, .ref s1, .ref s2, .int (nI rc)]] sz) (QWi E (fun r _ => r = spBack rc x) (fun (_ : Unit) => [ob g0 6 [.ref h0, .ref k0, .ref gs, .ref ht, .ref hd, .ref ho, .ref hr, .ref fo, .ref wy, .int tr, .int lf], ob hr 2 [.ref s0, .ref s1, .ref s2, .int (nI (spBackC rc x))]]) (va_A [ob g0 6 [.ref h0, .ref k0, .ref gs, .ref ht, .ref hd, .ref ho, .ref hr, .ref fo, .ref wy, .int tr, .int lf], ob hr 2 [.ref s0, .ref s1, .ref s2, .int (nI rc)]] sz)) 0 0 (va_A [ob g0 6 [.ref h0, .ref k0, .ref gs, .ref ht, .ref hd, .ref ho, .ref hr, .ref fo, .ref wy, .int tr, .int lf], ob hr 2 [.ref s0, .ref s1, .ref s2, .int (nI rc)]] sz) := by
  refine mkWi (cc := cX6_back) (maxL := 2) (by decide) rfl (Nat.le_of_ble_eq_true rfl) ?_
  intro p e s m args below meth c QQ A hx hb hml hown hmn hts hK hA hP hD hS hret ls hl
  have hown : s.vm.findClass RX6 = some m.cls := hown
  have hl : lv_has ls 2 [(0, .ref g0), (1, .int x)] := hl
  have hinX2 : ∀ w ∈ wsX20, w ∈ wsX6_back := by decide +kernel
  have hinX6 : ∀ w ∈ wsX60, w ∈ wsX6_back := by decide +kernel
  have fl_51 := hts (.fieldLink RX6 51 "GuardAbacus" "readings" "LGuardAbacus$Readings;") (by decide +kernel)
  have fl_86 := hts (.fieldLink RX6 86 "GuardAbacus$Readings" "count" "I") (by decide +kernel)
  refine lv_iload_n hx hb dX6_back_0 rfl (lv_at hl 1 rfl) ?_
  refine lv_if_lt (tgt := 15) hx hb dX6_back_1 (by decide) (fun c_1 => ?_) (fun c_1 => ?_)
  ·
    have c_1b := Int32.not_le.mpr c_1
    refine lv_bipush (v := (-2)) hx hb dX6_back_15 (by decide) ?_
    have eo_2 : (nI (spBackC rc x)) = (nI rc) := by simp [spBackC, c_1, c_1b]
    exact hret _ _ _ _ _ () dX6_back_17 hS (by rw [eo_2]; exact hP) (by simp [spBack, c_1, c_1b])
  ·
    have c_1b := Int32.not_lt.mp c_1
    refine lv_iload_n hx hb dX6_back_4 rfl (lv_at hl 1 rfl) ?_
    refine lv_aload_n hx hb dX6_back_5 rfl (lv_at hl 0 rfl) ?_
    refine va_get (D := E.1) (ci := 6) (v := .ref hr) (C := RX6) (T := TX6) (N := 11) hx hb hts hinX6 hown hK.1 hP 0 rfl rfl 6 (by decide) fl_51 (fun _ h9 => h9) rfl dX6_back_6 ?_
    refine va_get (D := E.1) (ci := 2) (v := .int (nI rc)) (C := RX2) (T := TX2) (N := 4) hx hb hts hinX2 hown hK.1 hP 1 rfl rfl 3 (by decide) fl_86 (fun _ h9 => h9) rfl dX6_back_9 ?_
    refine lv_icmp_le (tgt := 18) hx hb dX6_back_12 (by decide) (fun c_3 => ?_) (fun c_3 => ?_)
    ·
      have c_3b := Int32.not_lt.mpr c_3
      obtain ⟨y, hy, rfl⟩ := nI_of2 (n := rc) (nI_toInt (by omega)) c_1 c_3
      have hix_y : ix (nI y) = y := ix_nI (by omega)
      refine lv_aload_n hx hb dX6_back_18 rfl (lv_at hl 0 rfl) ?_
      refine va_get (D := E.1) (ci := 6) (v := .ref hr) (C := RX6) (T := TX6) (N := 11) hx hb hts hinX6 hown hK.1 hP 0 rfl rfl 6 (by decide) fl_51 (fun _ h9 => h9) rfl dX6_back_19 ?_
      refine lv_dup hx hb dX6_back_22 rfl ?_
      refine va_get (D := E.1) (ci := 2) (v := .int (nI rc)) (C := RX2) (T := TX2) (N := 4) hx hb hts hinX2 hown hK.1 hP 1 rfl rfl 3 (by decide) fl_86 (fun _ h9 => h9) rfl dX6_back_23 ?_
      refine lv_iload_n hx hb dX6_back_26 rfl (lv_at hl 1 rfl) ?_
      refine N_isub (a := rc) (b := y) hx hb rfl rfl (by omega) dX6_back_27 ?_
      refine va_put (D := E.1) (ci := 2) (v := .int (nI (rc - y))) (ty := .int) (C := RX2) (T := TX2) (N := 4) hx hb hts hinX2 tyX2 tyX2_ok nmX2 hown hK.1 hP hD hS 1 rfl rfl 3 (by decide) fl_86 (fun _ h9 => h9) rfl (by decide +kernel) rfl rfl (Nat.le_of_ble_eq_true rfl) dX6_back_28 (fun H locs hP hD hS => ?_)
      have hP : va_P E.1 vwCl [ob g0 6 [.ref h0, .ref k0, .ref gs, .ref ht, .ref hd, .ref ho, .ref hr, .ref fo, .ref wy, .int tr, .int lf], ob hr 2 [.ref s0, .ref s1, .ref s2, .int (nI (rc - y))]] H := hP
      have hD : va_D A [ob g0 6 [.ref h0, .ref k0, .ref gs, .ref ht, .ref hd, .ref ho, .ref hr, .ref fo, .ref wy, .int tr, .int lf], ob hr 2 [.ref s0, .ref s1, .ref s2, .int (nI (rc - y))]] := hD
      refine lv_aload_n hx hb dX6_back_31 rfl (lv_at hl 0 rfl) ?_
      refine va_get (D := E.1) (ci := 6) (v := .ref hr) (C := RX6) (T := TX6) (N := 11) hx hb hts hinX6 hown hK.1 hP 0 rfl rfl 6 (by decide) fl_51 (fun _ h9 => h9) rfl dX6_back_32 ?_
      refine va_get (D := E.1) (ci := 2) (v := .int (nI (rc - y))) (C := RX2) (T := TX2) (N := 4) hx hb hts hinX2 hown hK.1 hP 1 rfl rfl 3 (by decide) fl_86 (fun _ h9 => h9) rfl dX6_back_35 ?_
      have eo_4 : (nI (spBackC rc (nI y))) = (nI (rc - y)) := by simp [spBackC, c_1, c_3, hix_y, c_1b, c_3b]
      exact hret _ _ _ _ _ () dX6_back_38 hS (by rw [eo_4]; exact hP) (by simp [spBack, c_1, c_3, hix_y, c_1b, c_3b])
    ·
      have c_3b := Int32.not_le.mp c_3
      refine lv_bipush (v := (-2)) hx hb dX6_back_15 (by decide) ?_
      have eo_5 : (nI (spBackC rc x)) = (nI rc) := by simp [spBackC, c_1, c_3, c_1b, c_3b]
      exact hret _ _ _ _ _ () dX6_back_17 hS (by rw [eo_5]; exact hP) (by simp [spBack, c_1, c_3, c_1b, c_3b])
set_option maxHeartbeats 4000000 in
set_option maxRecDepth 100000 in
theorem c_X6_tell (l : Launch) (E : gE) (sz : Nat) (g0 : Nat) (h0 : Nat) (k0 : Nat) (gs : Nat) (ht : Nat) (hd : Nat) (ho : Nat) (hr : Nat) (fo : Nat) (wy : Nat) (tr : Int32) (lf : Int32) (a0 : Nat) (a1 : Nat) (a2 : Nat) (a3 : Nat) (a4 : Nat) (n : Nat) (mo : Int32) (kd : Nat → Int32) (mn : Nat → Int32) (w : Int32) (hn : n ≤ 6) : Met l yX6_tell wsX6_tell ({ frames := 4, cells := 0, slots := 0, locals := 85 }) (PW E [.ref g0, .int w] [ob g0 6 [.ref h0, .ref k0, .ref gs, .ref ht, .ref hd, .ref ho, .ref hr, .ref fo, .ref wy, .int tr, .int lf], ob h0 5 [.ref a0, .ref a1, .ref a2, .ref a3, .ref a4, .int (nI n), .int mo], ar E a0 6 kd, ar E a1 6 mn] sz) (QWi E (fun r _ => r = spTell n kd mn w) (fun (_ : Unit) => [ob g0 6 [.ref h0, .ref k0, .ref gs, .ref ht, .ref hd, .ref ho, .ref hr, .ref fo, .ref wy, .int (spTellT n kd w tr), .int lf], ob h0 5 [.ref a0, .ref a1, .ref a2, .ref a3, .ref a4, .int (nI n), .int mo], ar E a0 6 kd, ar E a1 6 mn]) (va_A [ob g0 6 [.ref h0, .ref k0, .ref gs, .ref ht, .ref hd, .ref ho, .ref hr, .ref fo, .ref wy, .int tr, .int lf], ob h0 5 [.ref a0, .ref a1, .ref a2, .ref a3, .ref a4, .int (nI n), .int mo], ar E a0 6 kd, ar E a1 6 mn] sz)) 0 0 (va_A [ob g0 6 [.ref h0, .ref k0, .ref gs, .ref ht, .ref hd, .ref ho, .ref hr, .ref fo, .ref wy, .int tr, .int lf], ob h0 5 [.ref a0, .ref a1, .ref a2, .ref a3, .ref a4, .int (nI n), .int mo], ar E a0 6 kd, ar E a1 6 mn] sz) := by
  refine mkWi (cc := cX6_tell) (maxL := 2) (by decide) rfl (Nat.le_of_ble_eq_true rfl) ?_
  intro p e s m args below meth c QQ A hx hb hml hown hmn hts hK hA hP hD hS hret ls hl
  have hown : s.vm.findClass RX6 = some m.cls := hown
  have hl : lv_has ls 2 [(0, .ref g0), (1, .int w)] := hl
  have hinX5 : ∀ w ∈ wsX50, w ∈ wsX6_tell := by decide +kernel
  have hinX6 : ∀ w ∈ wsX60, w ∈ wsX6_tell := by decide +kernel
  have fl_12 := hts (.fieldLink RX6 12 "GuardAbacus" "wires" "LGuardAbacus$Wires;") (by decide +kernel)
  have fl_94 := hts (.fieldLink RX6 94 "GuardAbacus$Wires" "kind" "[I") (by decide +kernel)
  have fl_97 := hts (.fieldLink RX6 97 "GuardAbacus$Wires" "men" "[I") (by decide +kernel)
  refine lv_aload_n hx hb dX6_tell_0 rfl (lv_at hl 0 rfl) ?_
  refine va_get (D := E.1) (ci := 6) (v := .ref h0) (C := RX6) (T := TX6) (N := 11) hx hb hts hinX6 hown hK.1 hP 0 rfl rfl 0 (by decide) fl_12 (fun _ h9 => h9) rfl dX6_tell_1 ?_
  refine lv_iload_n hx hb dX6_tell_4 rfl (lv_at hl 1 rfl) ?_
  refine crV (As := [.int w]) (rest := []) ⟨hx, hb, hml, hown, hts⟩ (c_X5_has l E h0 a0 a1 a2 a3 a4 n mo w (by first | assumption | omega)) (cwV 1 hts gX6_tell_X5_has rfl rfl rfl (by decide +kernel) ⟨Nat.le_of_ble_eq_true rfl, Nat.le_of_ble_eq_true rfl⟩) hK hP [1] rfl 0 rfl rfl rfl rfl hl.1 rfl (catLe (Nat.le_of_ble_eq_true rfl)) dX6_tell_5 ⟨Nat.zero_le _, Nat.zero_le _⟩ (fun r_1 hr_1 => ?_)
  subst hr_1
  refine ifB_ne (P := hasP n w) (tgt := 13) hx hb dX6_tell_8 (by decide) (fun c_2 => ?_) (fun c_2 => ?_)
  ·
    obtain ⟨j, hj, rfl⟩ := hasP_of c_2 hn
    have hix_j : ix (nI j) = j := ix_nI (by omega)
    refine lv_aload_n hx hb dX6_tell_13 rfl (lv_at hl 0 rfl) ?_
    refine va_get (D := E.1) (ci := 6) (v := .ref h0) (C := RX6) (T := TX6) (N := 11) hx hb hts hinX6 hown hK.1 hP 0 rfl rfl 0 (by decide) fl_12 (fun _ h9 => h9) rfl dX6_tell_14 ?_
    refine va_get (D := E.1) (ci := 5) (v := .ref a0) (C := RX5) (T := TX5) (N := 7) hx hb hts hinX5 hown hK.1 hP 1 rfl rfl 0 (by decide) fl_94 (fun _ h9 => h9) rfl dX6_tell_17 ?_
    refine lv_iload_n hx hb dX6_tell_20 rfl (lv_at hl 1 rfl) ?_
    refine ild hx hb hK hP 2 rfl (j := j) rfl (by omega) (by decide) dX6_tell_21 ?_
    by_cases q_3 : kd j = 1
    ·
      rw [q_3]
      refine lv_lookup (off := 40) (tgt := 62) hx hb dX6_tell_22 (by decide) (by decide) (by decide) ?_
      refine lv_aload_n hx hb dX6_tell_62 rfl (lv_at hl 0 rfl) ?_
      refine lv_aload_n hx hb dX6_tell_63 rfl (lv_at hl 0 rfl) ?_
      refine va_get (D := E.1) (ci := 6) (v := .ref h0) (C := RX6) (T := TX6) (N := 11) hx hb hts hinX6 hown hK.1 hP 0 rfl rfl 0 (by decide) fl_12 (fun _ h9 => h9) rfl dX6_tell_64 ?_
      refine va_get (D := E.1) (ci := 5) (v := .ref a1) (C := RX5) (T := TX5) (N := 7) hx hb hts hinX5 hown hK.1 hP 1 rfl rfl 1 (by decide) fl_97 (fun _ h9 => h9) rfl dX6_tell_67 ?_
      refine lv_iload_n hx hb dX6_tell_70 rfl (lv_at hl 1 rfl) ?_
      refine ild hx hb hK hP 3 rfl (j := j) rfl (by omega) (by decide) dX6_tell_71 ?_
      refine cwVi (As := [.int (mn j)]) (rest := []) ⟨hx, hb, hml, hown, hts⟩ (c_X6_longTells l E _ g0 h0 k0 gs ht hd ho hr fo wy tr lf (mn j)) (cwV 1 hts gX6_tell_X6_longTells rfl rfl rfl (by decide +kernel) ⟨Nat.le_of_ble_eq_true rfl, Nat.le_of_ble_eq_true rfl⟩) hK hP hD hS hA [0] (by decide) rfl [g0] (fun _ => rfl) rfl 0 rfl rfl rfl rfl hl.1 rfl (catLe (Nat.le_of_ble_eq_true rfl)) dX6_tell_72 ⟨Nat.zero_le _, Nat.zero_le _⟩ (fun r_4 u_5 H locs hwr_4 hP hD hS => ?_)
      have hP : va_P E.1 vwCl [ob g0 6 [.ref h0, .ref k0, .ref gs, .ref ht, .ref hd, .ref ho, .ref hr, .ref fo, .ref wy, .int (trF (trF tr 2) 1), .int lf], ob h0 5 [.ref a0, .ref a1, .ref a2, .ref a3, .ref a4, .int (nI n), .int mo], ar E a0 6 kd, ar E a1 6 mn] H := hP
      have hD : va_D A [ob g0 6 [.ref h0, .ref k0, .ref gs, .ref ht, .ref hd, .ref ho, .ref hr, .ref fo, .ref wy, .int (trF (trF tr 2) 1), .int lf], ob h0 5 [.ref a0, .ref a1, .ref a2, .ref a3, .ref a4, .int (nI n), .int mo], ar E a0 6 kd, ar E a1 6 mn] := hD
      subst hwr_4
      have eo_6 : (spTellT n kd (nI j) tr) = (trF (trF tr 2) 1) := by simp [spTellT, c_2, hix_j, q_3]
      exact hret _ _ _ _ _ () dX6_tell_75 hS (by rw [eo_6]; exact hP) (by simp [spTell, c_2, hix_j, q_3])
    by_cases q_7 : kd j = 2
    ·
      rw [q_7]
      refine lv_lookup (off := 26) (tgt := 48) hx hb dX6_tell_22 (by decide) (by decide) (by decide) ?_
      refine lv_aload_n hx hb dX6_tell_48 rfl (lv_at hl 0 rfl) ?_
      refine lv_aload_n hx hb dX6_tell_49 rfl (lv_at hl 0 rfl) ?_
      refine va_get (D := E.1) (ci := 6) (v := .ref h0) (C := RX6) (T := TX6) (N := 11) hx hb hts hinX6 hown hK.1 hP 0 rfl rfl 0 (by decide) fl_12 (fun _ h9 => h9) rfl dX6_tell_50 ?_
      refine va_get (D := E.1) (ci := 5) (v := .ref a1) (C := RX5) (T := TX5) (N := 7) hx hb hts hinX5 hown hK.1 hP 1 rfl rfl 1 (by decide) fl_97 (fun _ h9 => h9) rfl dX6_tell_53 ?_
      refine lv_iload_n hx hb dX6_tell_56 rfl (lv_at hl 1 rfl) ?_
      refine ild hx hb hK hP 3 rfl (j := j) rfl (by omega) (by decide) dX6_tell_57 ?_
      refine cwVi (As := [.int (mn j)]) (rest := []) ⟨hx, hb, hml, hown, hts⟩ (c_X6_windowedTells l E _ g0 h0 k0 gs ht hd ho hr fo wy tr lf (mn j)) (cwV 1 hts gX6_tell_X6_windowedTells rfl rfl rfl (by decide +kernel) ⟨Nat.le_of_ble_eq_true rfl, Nat.le_of_ble_eq_true rfl⟩) hK hP hD hS hA [0] (by decide) rfl [g0] (fun _ => rfl) rfl 0 rfl rfl rfl rfl hl.1 rfl (catLe (Nat.le_of_ble_eq_true rfl)) dX6_tell_58 ⟨Nat.zero_le _, Nat.zero_le _⟩ (fun r_8 u_9 H locs hwr_8 hP hD hS => ?_)
      have hP : va_P E.1 vwCl [ob g0 6 [.ref h0, .ref k0, .ref gs, .ref ht, .ref hd, .ref ho, .ref hr, .ref fo, .ref wy, .int (trF (trF (trF (trF tr 3) 2) 1) 1), .int lf], ob h0 5 [.ref a0, .ref a1, .ref a2, .ref a3, .ref a4, .int (nI n), .int mo], ar E a0 6 kd, ar E a1 6 mn] H := hP
      have hD : va_D A [ob g0 6 [.ref h0, .ref k0, .ref gs, .ref ht, .ref hd, .ref ho, .ref hr, .ref fo, .ref wy, .int (trF (trF (trF (trF tr 3) 2) 1) 1), .int lf], ob h0 5 [.ref a0, .ref a1, .ref a2, .ref a3, .ref a4, .int (nI n), .int mo], ar E a0 6 kd, ar E a1 6 mn] := hD
      subst hwr_8
      have eo_10 : (spTellT n kd (nI j) tr) = (trF (trF (trF (trF tr 3) 2) 1) 1) := by simp [spTellT, c_2, hix_j, q_7]
      exact hret _ _ _ _ _ () dX6_tell_61 hS (by rw [eo_10]; exact hP) (by simp [spTell, c_2, hix_j, q_7])
    refine lv_lookup (off := 54) (tgt := 76) hx hb dX6_tell_22 (by decide) ((lv_osw q_3 rfl).trans ((lv_osw q_7 rfl).trans rfl)) (by decide) ?_
    refine lv_aload_n hx hb dX6_tell_76 rfl (lv_at hl 0 rfl) ?_
    refine lv_aload_n hx hb dX6_tell_77 rfl (lv_at hl 0 rfl) ?_
    refine va_get (D := E.1) (ci := 6) (v := .ref h0) (C := RX6) (T := TX6) (N := 11) hx hb hts hinX6 hown hK.1 hP 0 rfl rfl 0 (by decide) fl_12 (fun _ h9 => h9) rfl dX6_tell_78 ?_
    refine va_get (D := E.1) (ci := 5) (v := .ref a1) (C := RX5) (T := TX5) (N := 7) hx hb hts hinX5 hown hK.1 hP 1 rfl rfl 1 (by decide) fl_97 (fun _ h9 => h9) rfl dX6_tell_81 ?_
    refine lv_iload_n hx hb dX6_tell_84 rfl (lv_at hl 1 rfl) ?_
    refine ild hx hb hK hP 3 rfl (j := j) rfl (by omega) (by decide) dX6_tell_85 ?_
    refine cwVi (As := [.int (mn j)]) (rest := []) ⟨hx, hb, hml, hown, hts⟩ (c_X6_plainTells l E _ g0 h0 k0 gs ht hd ho hr fo wy tr lf (mn j)) (cwV 1 hts gX6_tell_X6_plainTells rfl rfl rfl (by decide +kernel) ⟨Nat.le_of_ble_eq_true rfl, Nat.le_of_ble_eq_true rfl⟩) hK hP hD hS hA [0] (by decide) rfl [g0] (fun _ => rfl) rfl 0 rfl rfl rfl rfl hl.1 rfl (catLe (Nat.le_of_ble_eq_true rfl)) dX6_tell_86 ⟨Nat.zero_le _, Nat.zero_le _⟩ (fun r_11 u_12 H locs hwr_11 hP hD hS => ?_)
    have hP : va_P E.1 vwCl [ob g0 6 [.ref h0, .ref k0, .ref gs, .ref ht, .ref hd, .ref ho, .ref hr, .ref fo, .ref wy, .int (trF tr 1), .int lf], ob h0 5 [.ref a0, .ref a1, .ref a2, .ref a3, .ref a4, .int (nI n), .int mo], ar E a0 6 kd, ar E a1 6 mn] H := hP
    have hD : va_D A [ob g0 6 [.ref h0, .ref k0, .ref gs, .ref ht, .ref hd, .ref ho, .ref hr, .ref fo, .ref wy, .int (trF tr 1), .int lf], ob h0 5 [.ref a0, .ref a1, .ref a2, .ref a3, .ref a4, .int (nI n), .int mo], ar E a0 6 kd, ar E a1 6 mn] := hD
    subst hwr_11
    have eo_13 : (spTellT n kd (nI j) tr) = (trF tr 1) := by simp [spTellT, c_2, hix_j, q_3, q_7]
    exact hret _ _ _ _ _ () dX6_tell_89 hS (by rw [eo_13]; exact hP) (by simp [spTell, c_2, hix_j, q_3, q_7])
  ·
    refine lv_iconst (v := (-1)) hx hb dX6_tell_11 (by decide) ?_
    have eo_14 : (spTellT n kd w tr) = tr := by simp [spTellT, c_2]
    exact hret _ _ _ _ _ () dX6_tell_12 hS (by rw [eo_14]; exact hP) (by simp [spTell, c_2])
set_option maxHeartbeats 4000000 in
set_option maxRecDepth 100000 in
theorem c_X6_feel (l : Launch) (E : gE) (sz : Nat) (g0 : Nat) (h0 : Nat) (k0 : Nat) (gs : Nat) (ht : Nat) (hd : Nat) (ho : Nat) (hr : Nat) (fo : Nat) (wy : Nat) (tr : Int32) (lf : Int32) (a0 : Nat) (a1 : Nat) (a2 : Nat) (a3 : Nat) (a4 : Nat) (n : Nat) (mo : Int32) (kd : Nat → Int32) (pu : Nat → Int32) (w : Int32) (hn : n ≤ 6) : Met l yX6_feel wsX6_feel ({ frames := 1, cells := 0, slots := 0, locals := 21 }) (PW E [.ref g0, .int w] [ob g0 6 [.ref h0, .ref k0, .ref gs, .ref ht, .ref hd, .ref ho, .ref hr, .ref fo, .ref wy, .int tr, .int lf], ob h0 5 [.ref a0, .ref a1, .ref a2, .ref a3, .ref a4, .int (nI n), .int mo], ar E a0 6 kd, ar E a2 6 pu] sz) (QWi E (fun r _ => r = spFeel n kd pu w) (fun (_ : Unit) => [ob g0 6 [.ref h0, .ref k0, .ref gs, .ref ht, .ref hd, .ref ho, .ref hr, .ref fo, .ref wy, .int (spFeelT n kd w tr), .int lf], ob h0 5 [.ref a0, .ref a1, .ref a2, .ref a3, .ref a4, .int (nI n), .int mo], ar E a0 6 kd, ar E a2 6 pu]) (va_A [ob g0 6 [.ref h0, .ref k0, .ref gs, .ref ht, .ref hd, .ref ho, .ref hr, .ref fo, .ref wy, .int tr, .int lf], ob h0 5 [.ref a0, .ref a1, .ref a2, .ref a3, .ref a4, .int (nI n), .int mo], ar E a0 6 kd, ar E a2 6 pu] sz)) 0 0 (va_A [ob g0 6 [.ref h0, .ref k0, .ref gs, .ref ht, .ref hd, .ref ho, .ref hr, .ref fo, .ref wy, .int tr, .int lf], ob h0 5 [.ref a0, .ref a1, .ref a2, .ref a3, .ref a4, .int (nI n), .int mo], ar E a0 6 kd, ar E a2 6 pu] sz) := by
  refine mkWi (cc := cX6_feel) (maxL := 2) (by decide) rfl (Nat.le_of_ble_eq_true rfl) ?_
  intro p e s m args below meth c QQ A hx hb hml hown hmn hts hK hA hP hD hS hret ls hl
  have hown : s.vm.findClass RX6 = some m.cls := hown
  have hl : lv_has ls 2 [(0, .ref g0), (1, .int w)] := hl
  have hinX5 : ∀ w ∈ wsX50, w ∈ wsX6_feel := by decide +kernel
  have hinX6 : ∀ w ∈ wsX60, w ∈ wsX6_feel := by decide +kernel
  have fl_12 := hts (.fieldLink RX6 12 "GuardAbacus" "wires" "LGuardAbacus$Wires;") (by decide +kernel)
  have fl_94 := hts (.fieldLink RX6 94 "GuardAbacus$Wires" "kind" "[I") (by decide +kernel)
  have fl_103 := hts (.fieldLink RX6 103 "GuardAbacus$Wires" "pushed" "[I") (by decide +kernel)
  refine lv_aload_n hx hb dX6_feel_0 rfl (lv_at hl 0 rfl) ?_
  refine va_get (D := E.1) (ci := 6) (v := .ref h0) (C := RX6) (T := TX6) (N := 11) hx hb hts hinX6 hown hK.1 hP 0 rfl rfl 0 (by decide) fl_12 (fun _ h9 => h9) rfl dX6_feel_1 ?_
  refine lv_iload_n hx hb dX6_feel_4 rfl (lv_at hl 1 rfl) ?_
  refine crV (As := [.int w]) (rest := []) ⟨hx, hb, hml, hown, hts⟩ (c_X5_has l E h0 a0 a1 a2 a3 a4 n mo w (by first | assumption | omega)) (cwV 1 hts gX6_feel_X5_has rfl rfl rfl (by decide +kernel) ⟨Nat.le_of_ble_eq_true rfl, Nat.le_of_ble_eq_true rfl⟩) hK hP [1] rfl 0 rfl rfl rfl rfl hl.1 rfl (catLe (Nat.le_of_ble_eq_true rfl)) dX6_feel_5 ⟨Nat.zero_le _, Nat.zero_le _⟩ (fun r_1 hr_1 => ?_)
  subst hr_1
  refine ifB_ne (P := hasP n w) (tgt := 13) hx hb dX6_feel_8 (by decide) (fun c_2 => ?_) (fun c_2 => ?_)
  ·
    obtain ⟨j, hj, rfl⟩ := hasP_of c_2 hn
    have hix_j : ix (nI j) = j := ix_nI (by omega)
    refine lv_aload_n hx hb dX6_feel_13 rfl (lv_at hl 0 rfl) ?_
    refine va_get (D := E.1) (ci := 6) (v := .ref h0) (C := RX6) (T := TX6) (N := 11) hx hb hts hinX6 hown hK.1 hP 0 rfl rfl 0 (by decide) fl_12 (fun _ h9 => h9) rfl dX6_feel_14 ?_
    refine va_get (D := E.1) (ci := 5) (v := .ref a0) (C := RX5) (T := TX5) (N := 7) hx hb hts hinX5 hown hK.1 hP 1 rfl rfl 0 (by decide) fl_94 (fun _ h9 => h9) rfl dX6_feel_17 ?_
    refine lv_iload_n hx hb dX6_feel_20 rfl (lv_at hl 1 rfl) ?_
    refine ild hx hb hK hP 2 rfl (j := j) rfl (by omega) (by decide) dX6_feel_21 ?_
    refine lv_iconst (v := 2) hx hb dX6_feel_22 (by decide) ?_
    refine lv_icmp_ne (tgt := 34) hx hb dX6_feel_23 (by decide) (fun c_3 => ?_) (fun c_3 => ?_)
    ·
      refine lv_aload_n hx hb dX6_feel_34 rfl (lv_at hl 0 rfl) ?_
      refine lv_iconst (v := 4) hx hb dX6_feel_35 (by decide) ?_
      refine cwVv (As := [.int 4]) (rest := []) ⟨hx, hb, hml, hown, hts⟩ (c_X6_leaveTrace l E _ g0 h0 k0 gs ht hd ho hr fo wy tr lf 4) (cwV 1 hts gX6_feel_X6_leaveTrace rfl rfl rfl (by decide +kernel) ⟨Nat.le_of_ble_eq_true rfl, Nat.le_of_ble_eq_true rfl⟩) hK hP hD hS hA [0] (by decide) rfl [g0] (fun _ => rfl) rfl 0 rfl rfl rfl rfl hl.1 rfl (catLe (Nat.le_of_ble_eq_true rfl)) dX6_feel_36 ⟨Nat.zero_le _, Nat.zero_le _⟩ (fun u_5 H locs hwr_4 hP hD hS => ?_)
      have hP : va_P E.1 vwCl [ob g0 6 [.ref h0, .ref k0, .ref gs, .ref ht, .ref hd, .ref ho, .ref hr, .ref fo, .ref wy, .int (trF tr 4), .int lf], ob h0 5 [.ref a0, .ref a1, .ref a2, .ref a3, .ref a4, .int (nI n), .int mo], ar E a0 6 kd, ar E a2 6 pu] H := hP
      have hD : va_D A [ob g0 6 [.ref h0, .ref k0, .ref gs, .ref ht, .ref hd, .ref ho, .ref hr, .ref fo, .ref wy, .int (trF tr 4), .int lf], ob h0 5 [.ref a0, .ref a1, .ref a2, .ref a3, .ref a4, .int (nI n), .int mo], ar E a0 6 kd, ar E a2 6 pu] := hD
      refine lv_aload_n hx hb dX6_feel_39 rfl (lv_at hl 0 rfl) ?_
      refine va_get (D := E.1) (ci := 6) (v := .ref h0) (C := RX6) (T := TX6) (N := 11) hx hb hts hinX6 hown hK.1 hP 0 rfl rfl 0 (by decide) fl_12 (fun _ h9 => h9) rfl dX6_feel_40 ?_
      refine va_get (D := E.1) (ci := 5) (v := .ref a2) (C := RX5) (T := TX5) (N := 7) hx hb hts hinX5 hown hK.1 hP 1 rfl rfl 2 (by decide) fl_103 (fun _ h9 => h9) rfl dX6_feel_43 ?_
      refine lv_iload_n hx hb dX6_feel_46 rfl (lv_at hl 1 rfl) ?_
      refine ild hx hb hK hP 3 rfl (j := j) rfl (by omega) (by decide) dX6_feel_47 ?_
      have eo_6 : (spFeelT n kd (nI j) tr) = (trF tr 4) := by simp [spFeelT, c_2, hix_j, c_3]
      exact hret _ _ _ _ _ () dX6_feel_48 hS (by rw [eo_6]; exact hP) (by simp [spFeel, c_2, hix_j, c_3])
    ·
      refine lv_aload_n hx hb dX6_feel_26 rfl (lv_at hl 0 rfl) ?_
      refine lv_iconst (v := 5) hx hb dX6_feel_27 (by decide) ?_
      refine cwVv (As := [.int 5]) (rest := []) ⟨hx, hb, hml, hown, hts⟩ (c_X6_leaveTrace l E _ g0 h0 k0 gs ht hd ho hr fo wy tr lf 5) (cwV 1 hts gX6_feel_X6_leaveTrace rfl rfl rfl (by decide +kernel) ⟨Nat.le_of_ble_eq_true rfl, Nat.le_of_ble_eq_true rfl⟩) hK hP hD hS hA [0] (by decide) rfl [g0] (fun _ => rfl) rfl 0 rfl rfl rfl rfl hl.1 rfl (catLe (Nat.le_of_ble_eq_true rfl)) dX6_feel_28 ⟨Nat.zero_le _, Nat.zero_le _⟩ (fun u_8 H locs hwr_7 hP hD hS => ?_)
      have hP : va_P E.1 vwCl [ob g0 6 [.ref h0, .ref k0, .ref gs, .ref ht, .ref hd, .ref ho, .ref hr, .ref fo, .ref wy, .int (trF tr 5), .int lf], ob h0 5 [.ref a0, .ref a1, .ref a2, .ref a3, .ref a4, .int (nI n), .int mo], ar E a0 6 kd, ar E a2 6 pu] H := hP
      have hD : va_D A [ob g0 6 [.ref h0, .ref k0, .ref gs, .ref ht, .ref hd, .ref ho, .ref hr, .ref fo, .ref wy, .int (trF tr 5), .int lf], ob h0 5 [.ref a0, .ref a1, .ref a2, .ref a3, .ref a4, .int (nI n), .int mo], ar E a0 6 kd, ar E a2 6 pu] := hD
      refine lv_bipush (v := 90) hx hb dX6_feel_31 (by decide) ?_
      have eo_9 : (spFeelT n kd (nI j) tr) = (trF tr 5) := by simp [spFeelT, c_2, hix_j, c_3]
      exact hret _ _ _ _ _ () dX6_feel_33 hS (by rw [eo_9]; exact hP) (by simp [spFeel, c_2, hix_j, c_3])
  ·
    refine lv_iconst (v := (-1)) hx hb dX6_feel_11 (by decide) ?_
    have eo_10 : (spFeelT n kd w tr) = tr := by simp [spFeelT, c_2]
    exact hret _ _ _ _ _ () dX6_feel_12 hS (by rw [eo_10]; exact hP) (by simp [spFeel, c_2])
set_option maxHeartbeats 4000000 in
set_option maxRecDepth 100000 in
theorem c_X6_as (l : Launch) (E : gE) (sz : Nat) (g0 : Nat) (h0 : Nat) (k0 : Nat) (gs : Nat) (ht : Nat) (hd : Nat) (ho : Nat) (hr : Nat) (fo : Nat) (wy : Nat) (tr : Int32) (lf : Int32) (a0 : Nat) (a1 : Nat) (a2 : Nat) (a3 : Nat) (a4 : Nat) (n : Nat) (mo : Int32) (kd : Nat → Int32) (w : Int32) (x : Int32) (hn : n ≤ 6) : Met l yX6_as wsX6_as ({ frames := 1, cells := 0, slots := 0, locals := 21 }) (PW E [.ref g0, .int w, .int x] [ob g0 6 [.ref h0, .ref k0, .ref gs, .ref ht, .ref hd, .ref ho, .ref hr, .ref fo, .ref wy, .int tr, .int lf], ob h0 5 [.ref a0, .ref a1, .ref a2, .ref a3, .ref a4, .int (nI n), .int mo], ar E a0 6 kd] sz) (QWi E (fun r _ => r = spAs n kd w x) (fun (_ : Unit) => [ob g0 6 [.ref h0, .ref k0, .ref gs, .ref ht, .ref hd, .ref ho, .ref hr, .ref fo, .ref wy, .int tr, .int (fltF (spAs n kd w x))], ob h0 5 [.ref a0, .ref a1, .ref a2, .ref a3, .ref a4, .int (nI n), .int mo], ar E a0 6 kd]) (va_A [ob g0 6 [.ref h0, .ref k0, .ref gs, .ref ht, .ref hd, .ref ho, .ref hr, .ref fo, .ref wy, .int tr, .int lf], ob h0 5 [.ref a0, .ref a1, .ref a2, .ref a3, .ref a4, .int (nI n), .int mo], ar E a0 6 kd] sz)) 0 0 (va_A [ob g0 6 [.ref h0, .ref k0, .ref gs, .ref ht, .ref hd, .ref ho, .ref hr, .ref fo, .ref wy, .int tr, .int lf], ob h0 5 [.ref a0, .ref a1, .ref a2, .ref a3, .ref a4, .int (nI n), .int mo], ar E a0 6 kd] sz) := by
  refine mkWi (cc := cX6_as) (maxL := 3) (by decide) rfl (Nat.le_of_ble_eq_true rfl) ?_
  intro p e s m args below meth c QQ A hx hb hml hown hmn hts hK hA hP hD hS hret ls hl
  have hown : s.vm.findClass RX6 = some m.cls := hown
  have hl : lv_has ls 3 [(0, .ref g0), (1, .int w), (2, .int x)] := hl
  have hinX5 : ∀ w ∈ wsX50, w ∈ wsX6_as := by decide +kernel
  have hinX6 : ∀ w ∈ wsX60, w ∈ wsX6_as := by decide +kernel
  have fl_12 := hts (.fieldLink RX6 12 "GuardAbacus" "wires" "LGuardAbacus$Wires;") (by decide +kernel)
  have fl_67 := hts (.fieldLink RX6 67 "GuardAbacus" "lastFault" "I") (by decide +kernel)
  have fl_94 := hts (.fieldLink RX6 94 "GuardAbacus$Wires" "kind" "[I") (by decide +kernel)
  refine lv_aload_n hx hb dX6_as_0 rfl (lv_at hl 0 rfl) ?_
  refine lv_iconst (v := 0) hx hb dX6_as_1 (by decide) ?_
  refine va_put (D := E.1) (ci := 6) (v := .int 0) (ty := .int) (C := RX6) (T := TX6) (N := 11) hx hb hts hinX6 tyX6 tyX6_ok nmX6 hown hK.1 hP hD hS 0 rfl rfl 10 (by decide) fl_67 (fun _ h9 => h9) rfl (by decide +kernel) rfl rfl (Nat.le_of_ble_eq_true rfl) dX6_as_2 (fun H locs hP hD hS => ?_)
  have hP : va_P E.1 vwCl [ob g0 6 [.ref h0, .ref k0, .ref gs, .ref ht, .ref hd, .ref ho, .ref hr, .ref fo, .ref wy, .int tr, .int 0], ob h0 5 [.ref a0, .ref a1, .ref a2, .ref a3, .ref a4, .int (nI n), .int mo], ar E a0 6 kd] H := hP
  have hD : va_D A [ob g0 6 [.ref h0, .ref k0, .ref gs, .ref ht, .ref hd, .ref ho, .ref hr, .ref fo, .ref wy, .int tr, .int 0], ob h0 5 [.ref a0, .ref a1, .ref a2, .ref a3, .ref a4, .int (nI n), .int mo], ar E a0 6 kd] := hD
  refine lv_aload_n hx hb dX6_as_5 rfl (lv_at hl 0 rfl) ?_
  refine va_get (D := E.1) (ci := 6) (v := .ref h0) (C := RX6) (T := TX6) (N := 11) hx hb hts hinX6 hown hK.1 hP 0 rfl rfl 0 (by decide) fl_12 (fun _ h9 => h9) rfl dX6_as_6 ?_
  refine lv_iload_n hx hb dX6_as_9 rfl (lv_at hl 1 rfl) ?_
  refine crV (As := [.int w]) (rest := []) ⟨hx, hb, hml, hown, hts⟩ (c_X5_has l E h0 a0 a1 a2 a3 a4 n mo w (by first | assumption | omega)) (cwV 1 hts gX6_as_X5_has rfl rfl rfl (by decide +kernel) ⟨Nat.le_of_ble_eq_true rfl, Nat.le_of_ble_eq_true rfl⟩) hK hP [1] rfl 0 rfl rfl rfl rfl hl.1 rfl (catLe (Nat.le_of_ble_eq_true rfl)) dX6_as_10 ⟨Nat.zero_le _, Nat.zero_le _⟩ (fun r_1 hr_1 => ?_)
  subst hr_1
  refine ifB_ne (P := hasP n w) (tgt := 18) hx hb dX6_as_13 (by decide) (fun c_2 => ?_) (fun c_2 => ?_)
  ·
    obtain ⟨j, hj, rfl⟩ := hasP_of c_2 hn
    have hix_j : ix (nI j) = j := ix_nI (by omega)
    refine lv_iload_n hx hb dX6_as_18 rfl (lv_at hl 2 rfl) ?_
    refine lv_if_lt (tgt := 27) hx hb dX6_as_19 (by decide) (fun c_3 => ?_) (fun c_3 => ?_)
    ·
      have c_3b := Int32.not_le.mpr c_3
      refine lv_bipush (v := (-2)) hx hb dX6_as_27 (by decide) ?_
      have eo_4 : (fltF (spAs n kd (nI j) x)) = 0 := by simp [fltF, spAs, c_2, hix_j, c_3, c_3b]
      exact hret _ _ _ _ _ () dX6_as_29 hS (by rw [eo_4]; exact hP) (by simp [spAs, c_2, hix_j, c_3, c_3b])
    ·
      have c_3b := Int32.not_lt.mp c_3
      refine lv_iload_n hx hb dX6_as_22 rfl (lv_at hl 2 rfl) ?_
      refine lv_iconst (v := 3) hx hb dX6_as_23 (by decide) ?_
      refine lv_icmp_lt (tgt := 30) hx hb dX6_as_24 (by decide) (fun c_5 => ?_) (fun c_5 => ?_)
      ·
        have c_5b := Int32.not_le.mpr c_5
        refine lv_iload_n hx hb dX6_as_30 rfl (lv_at hl 2 rfl) ?_
        refine lv_aload_n hx hb dX6_as_31 rfl (lv_at hl 0 rfl) ?_
        refine va_get (D := E.1) (ci := 6) (v := .ref h0) (C := RX6) (T := TX6) (N := 11) hx hb hts hinX6 hown hK.1 hP 0 rfl rfl 0 (by decide) fl_12 (fun _ h9 => h9) rfl dX6_as_32 ?_
        refine va_get (D := E.1) (ci := 5) (v := .ref a0) (C := RX5) (T := TX5) (N := 7) hx hb hts hinX5 hown hK.1 hP 1 rfl rfl 0 (by decide) fl_94 (fun _ h9 => h9) rfl dX6_as_35 ?_
        refine lv_iload_n hx hb dX6_as_38 rfl (lv_at hl 1 rfl) ?_
        refine ild hx hb hK hP 2 rfl (j := j) rfl (by omega) (by decide) dX6_as_39 ?_
        refine lv_icmp_le (tgt := 51) hx hb dX6_as_40 (by decide) (fun c_6 => ?_) (fun c_6 => ?_)
        ·
          have c_6b := Int32.not_lt.mpr c_6
          refine lv_iconst (v := 1) hx hb dX6_as_51 (by decide) ?_
          have eo_7 : (fltF (spAs n kd (nI j) x)) = 0 := by simp [fltF, spAs, c_2, hix_j, c_3, c_5, c_6, c_3b, c_5b, c_6b]
          exact hret _ _ _ _ _ () dX6_as_52 hS (by rw [eo_7]; exact hP) (by simp [spAs, c_2, hix_j, c_3, c_5, c_6, c_3b, c_5b, c_6b])
        ·
          have c_6b := Int32.not_le.mp c_6
          refine lv_aload_n hx hb dX6_as_43 rfl (lv_at hl 0 rfl) ?_
          refine lv_iconst (v := 2) hx hb dX6_as_44 (by decide) ?_
          refine cwVi (As := [.int 2]) (rest := []) ⟨hx, hb, hml, hown, hts⟩ (c_X6_faulted l E _ g0 h0 k0 gs ht hd ho hr fo wy tr 0 2) (cwV 1 hts gX6_as_X6_faulted rfl rfl rfl (by decide +kernel) ⟨Nat.le_of_ble_eq_true rfl, Nat.le_of_ble_eq_true rfl⟩) hK hP hD hS hA [0] (by decide) rfl [g0] (fun _ => rfl) rfl 0 rfl rfl rfl rfl hl.1 rfl (catLe (Nat.le_of_ble_eq_true rfl)) dX6_as_45 ⟨Nat.zero_le _, Nat.zero_le _⟩ (fun r_8 u_9 H locs hwr_8 hP hD hS => ?_)
          have hP : va_P E.1 vwCl [ob g0 6 [.ref h0, .ref k0, .ref gs, .ref ht, .ref hd, .ref ho, .ref hr, .ref fo, .ref wy, .int tr, .int 2], ob h0 5 [.ref a0, .ref a1, .ref a2, .ref a3, .ref a4, .int (nI n), .int mo], ar E a0 6 kd] H := hP
          have hD : va_D A [ob g0 6 [.ref h0, .ref k0, .ref gs, .ref ht, .ref hd, .ref ho, .ref hr, .ref fo, .ref wy, .int tr, .int 2], ob h0 5 [.ref a0, .ref a1, .ref a2, .ref a3, .ref a4, .int (nI n), .int mo], ar E a0 6 kd] := hD
          subst hwr_8
          refine lv_goto (tgt := 52) hx hb dX6_as_48 (by decide) ?_
          have eo_10 : (fltF (spAs n kd (nI j) x)) = 2 := by simp [fltF, spAs, c_2, hix_j, c_3, c_5, c_6, c_3b, c_5b, c_6b]
          exact hret _ _ _ _ _ () dX6_as_52 hS (by rw [eo_10]; exact hP) (by simp [spAs, c_2, hix_j, c_3, c_5, c_6, c_3b, c_5b, c_6b])
      ·
        have c_5b := Int32.not_lt.mp c_5
        refine lv_bipush (v := (-2)) hx hb dX6_as_27 (by decide) ?_
        have eo_11 : (fltF (spAs n kd (nI j) x)) = 0 := by simp [fltF, spAs, c_2, hix_j, c_3, c_5, c_3b, c_5b]
        exact hret _ _ _ _ _ () dX6_as_29 hS (by rw [eo_11]; exact hP) (by simp [spAs, c_2, hix_j, c_3, c_5, c_3b, c_5b])
  ·
    refine lv_iconst (v := (-1)) hx hb dX6_as_16 (by decide) ?_
    have eo_12 : (fltF (spAs n kd w x)) = 0 := by simp [fltF, spAs, c_2]
    exact hret _ _ _ _ _ () dX6_as_17 hS (by rw [eo_12]; exact hP) (by simp [spAs, c_2])
set_option maxHeartbeats 4000000 in
set_option maxRecDepth 100000 in
theorem c_X6_many (l : Launch) (E : gE) (g0 : Nat) (h0 : Nat) (k0 : Nat) (gs : Nat) (ht : Nat) (hd : Nat) (ho : Nat) (hr : Nat) (fo : Nat) (wy : Nat) (tr : Int32) (lf : Int32) (a0 : Nat) (a1 : Nat) (a2 : Nat) (a3 : Nat) (a4 : Nat) (n : Nat) (mo : Int32) (mn : Nat → Int32) (s0 : Nat) (s1 : Nat) (s2 : Nat) (rc : Nat) (what : Int32) (hn : n ≤ 6) : Met l yX6_many wsX6_many ({ frames := 1, cells := 0, slots := 0, locals := 22 }) (PR E [.ref g0, .int what] [ob g0 6 [.ref h0, .ref k0, .ref gs, .ref ht, .ref hd, .ref ho, .ref hr, .ref fo, .ref wy, .int tr, .int lf], ob h0 5 [.ref a0, .ref a1, .ref a2, .ref a3, .ref a4, .int (nI n), .int mo], ar E a1 6 mn, ob hr 2 [.ref s0, .ref s1, .ref s2, .int (nI rc)]]) (vp_Si (fun r => r = spMany n rc mn what)) 0 0 (fun _ => False) := by
  refine mkRi (cc := cX6_many) (maxL := 2) (by decide) rfl (Nat.le_of_ble_eq_true rfl) ?_
  intro p e s m args below meth c QQ hx hb hml hown hmn hts hK hP hret ls hl
  have hown : s.vm.findClass RX6 = some m.cls := hown
  have hl : lv_has ls 2 [(0, .ref g0), (1, .int what)] := hl
  have hinX2 : ∀ w ∈ wsX20, w ∈ wsX6_many := by decide +kernel
  have hinX5 : ∀ w ∈ wsX50, w ∈ wsX6_many := by decide +kernel
  have hinX6 : ∀ w ∈ wsX60, w ∈ wsX6_many := by decide +kernel
  have fl_12 := hts (.fieldLink RX6 12 "GuardAbacus" "wires" "LGuardAbacus$Wires;") (by decide +kernel)
  have fl_51 := hts (.fieldLink RX6 51 "GuardAbacus" "readings" "LGuardAbacus$Readings;") (by decide +kernel)
  have fl_86 := hts (.fieldLink RX6 86 "GuardAbacus$Readings" "count" "I") (by decide +kernel)
  have fl_89 := hts (.fieldLink RX6 89 "GuardAbacus$Wires" "count" "I") (by decide +kernel)
  refine lv_iload_n hx hb dX6_many_0 rfl (lv_at hl 1 rfl) ?_
  by_cases q_1 : what = 0
  ·
    subst q_1
    refine lv_tableIn (off := 27) (tgt := 28) hx hb dX6_many_1 (by decide) (by decide) rfl (by decide) ?_
    refine lv_aload_n hx hb dX6_many_28 rfl (lv_at hl 0 rfl) ?_
    refine va_get (D := E.1) (ci := 6) (v := .ref h0) (C := RX6) (T := TX6) (N := 11) hx hb hts hinX6 hown hK.1 hP 0 rfl rfl 0 (by decide) fl_12 (fun _ h9 => h9) rfl dX6_many_29 ?_
    refine va_get (D := E.1) (ci := 5) (v := .int (nI n)) (C := RX5) (T := TX5) (N := 7) hx hb hts hinX5 hown hK.1 hP 1 rfl rfl 5 (by decide) fl_89 (fun _ h9 => h9) rfl dX6_many_32 ?_
    exact hret _ _ _ dX6_many_35 (by simp [spMany])
  by_cases q_2 : what = 1
  ·
    subst q_2
    refine lv_tableIn (off := 35) (tgt := 36) hx hb dX6_many_1 (by decide) (by decide) rfl (by decide) ?_
    refine lv_aload_n hx hb dX6_many_36 rfl (lv_at hl 0 rfl) ?_
    refine va_get (D := E.1) (ci := 6) (v := .ref h0) (C := RX6) (T := TX6) (N := 11) hx hb hts hinX6 hown hK.1 hP 0 rfl rfl 0 (by decide) fl_12 (fun _ h9 => h9) rfl dX6_many_37 ?_
    refine crV (As := []) (rest := []) ⟨hx, hb, hml, hown, hts⟩ (c_X5_menTogether l E h0 a0 a1 a2 a3 a4 n mo mn (by first | assumption | omega)) (cwV 0 hts gX6_many_X5_menTogether rfl rfl rfl (by decide +kernel) ⟨Nat.le_of_ble_eq_true rfl, Nat.le_of_ble_eq_true rfl⟩) hK hP [1, 2] rfl 0 rfl rfl rfl rfl hl.1 rfl (catLe (Nat.le_of_ble_eq_true rfl)) dX6_many_40 ⟨Nat.zero_le _, Nat.zero_le _⟩ (fun r_3 hr_3 => ?_)
    subst hr_3
    exact hret _ _ _ dX6_many_43 (by simp [spMany])
  by_cases q_4 : what = 2
  ·
    subst q_4
    refine lv_tableIn (off := 43) (tgt := 44) hx hb dX6_many_1 (by decide) (by decide) rfl (by decide) ?_
    refine lv_aload_n hx hb dX6_many_44 rfl (lv_at hl 0 rfl) ?_
    refine va_get (D := E.1) (ci := 6) (v := .ref hr) (C := RX6) (T := TX6) (N := 11) hx hb hts hinX6 hown hK.1 hP 0 rfl rfl 6 (by decide) fl_51 (fun _ h9 => h9) rfl dX6_many_45 ?_
    refine va_get (D := E.1) (ci := 2) (v := .int (nI rc)) (C := RX2) (T := TX2) (N := 4) hx hb hts hinX2 hown hK.1 hP 3 rfl rfl 3 (by decide) fl_86 (fun _ h9 => h9) rfl dX6_many_48 ?_
    exact hret _ _ _ dX6_many_51 (by simp [spMany])
  refine lv_tableOut (tgt := 52) hx hb dX6_many_1 (by have z0 := lv_neT q_1 (show (0 : Int32).toInt = 0 from rfl); have z1 := lv_neT q_2 (show (1 : Int32).toInt = 1 from rfl); have z2 := lv_neT q_4 (show (2 : Int32).toInt = 2 from rfl); omega) (by decide) ?_
  refine lv_bipush (v := (-2)) hx hb dX6_many_52 (by decide) ?_
  exact hret _ _ _ dX6_many_54 (by simp [spMany, q_1, q_2, q_4])
set_option maxHeartbeats 4000000 in
set_option maxRecDepth 100000 in
theorem c_X6_rowTrouble (l : Launch) (E : gE) (sz : Nat) (g0 : Nat) (h0 : Nat) (k0 : Nat) (gs : Nat) (ht : Nat) (hd : Nat) (ho : Nat) (hr : Nat) (fo : Nat) (wy : Nat) (tr : Int32) (lf : Int32) (sa : Nat → Option Nat) (hs : Nat) (qs : Nat) (th : Int32) (la : Int32) (ln : Nat) (j : Nat) (sheet : Int32) (lane : Int32) (i : Int32) (cells : Int32) (rest : Int32) (hj4 : j < 4) (hsa : sa j = some hs) (hjs : shP sheet → sheet = nI j) : Met l yX6_rowTrouble wsX6_rowTrouble ({ frames := 1, cells := 0, slots := 0, locals := 22 }) (PW E [.ref g0, .int sheet, .int lane, .int i, .int cells, .int rest] [ob g0 6 [.ref h0, .ref k0, .ref gs, .ref ht, .ref hd, .ref ho, .ref hr, .ref fo, .ref wy, .int tr, .int lf], aq E gs 4 sa, ob hs 3 [.ref qs, .int th, .int la, .int (nI ln)]] sz) (QWi E (fun r _ => r = rtK sheet lane i cells rest th la ln) (fun (_ : Unit) => [ob g0 6 [.ref h0, .ref k0, .ref gs, .ref ht, .ref hd, .ref ho, .ref hr, .ref fo, .ref wy, .int tr, .int (fltF (rtK sheet lane i cells rest th la ln))], aq E gs 4 sa, ob hs 3 [.ref qs, .int th, .int la, .int (nI ln)]]) (va_A [ob g0 6 [.ref h0, .ref k0, .ref gs, .ref ht, .ref hd, .ref ho, .ref hr, .ref fo, .ref wy, .int tr, .int lf], aq E gs 4 sa, ob hs 3 [.ref qs, .int th, .int la, .int (nI ln)]] sz)) 0 0 (va_A [ob g0 6 [.ref h0, .ref k0, .ref gs, .ref ht, .ref hd, .ref ho, .ref hr, .ref fo, .ref wy, .int tr, .int lf], aq E gs 4 sa, ob hs 3 [.ref qs, .int th, .int la, .int (nI ln)]] sz) := by
  refine mkWi (cc := cX6_rowTrouble) (maxL := 7) (by decide) rfl (Nat.le_of_ble_eq_true rfl) ?_
  intro p e s m args below meth c QQ A hx hb hml hown hmn hts hK hA hP hD hS hret ls hl
  have hown : s.vm.findClass RX6 = some m.cls := hown
  have hl : lv_has ls 7 [(0, .ref g0), (1, .int sheet), (2, .int lane), (3, .int i), (4, .int cells), (5, .int rest)] := hl
  have hinX3 : ∀ w ∈ wsX30, w ∈ wsX6_rowTrouble := by decide +kernel
  have hinX6 : ∀ w ∈ wsX60, w ∈ wsX6_rowTrouble := by decide +kernel
  have fl_23 := hts (.fieldLink RX6 23 "GuardAbacus" "sheets" "[LGuardAbacus$Sheet;") (by decide +kernel)
  have fl_67 := hts (.fieldLink RX6 67 "GuardAbacus" "lastFault" "I") (by decide +kernel)
  have fl_237 := hts (.fieldLink RX6 237 "GuardAbacus$Sheet" "isThere" "Z") (by decide +kernel)
  have fl_248 := hts (.fieldLink RX6 248 "GuardAbacus$Sheet" "lane" "I") (by decide +kernel)
  refine lv_aload_n hx hb dX6_rowTrouble_0 rfl (lv_at hl 0 rfl) ?_
  refine lv_iconst (v := 0) hx hb dX6_rowTrouble_1 (by decide) ?_
  refine va_put (D := E.1) (ci := 6) (v := .int 0) (ty := .int) (C := RX6) (T := TX6) (N := 11) hx hb hts hinX6 tyX6 tyX6_ok nmX6 hown hK.1 hP hD hS 0 rfl rfl 10 (by decide) fl_67 (fun _ h9 => h9) rfl (by decide +kernel) rfl rfl (Nat.le_of_ble_eq_true rfl) dX6_rowTrouble_2 (fun H locs hP hD hS => ?_)
  have hP : va_P E.1 vwCl [ob g0 6 [.ref h0, .ref k0, .ref gs, .ref ht, .ref hd, .ref ho, .ref hr, .ref fo, .ref wy, .int tr, .int 0], aq E gs 4 sa, ob hs 3 [.ref qs, .int th, .int la, .int (nI ln)]] H := hP
  have hD : va_D A [ob g0 6 [.ref h0, .ref k0, .ref gs, .ref ht, .ref hd, .ref ho, .ref hr, .ref fo, .ref wy, .int tr, .int 0], aq E gs 4 sa, ob hs 3 [.ref qs, .int th, .int la, .int (nI ln)]] := hD
  refine lv_iload_n hx hb dX6_rowTrouble_5 rfl (lv_at hl 1 rfl) ?_
  refine crS (As := [.int sheet]) (rest := []) ⟨hx, hb, hml, hown, hts⟩ (c_X6_isSheet l E sheet) (va_cwS 1 hts gX6_rowTrouble_X6_isSheet rfl rfl rfl (by decide +kernel) ⟨Nat.le_of_ble_eq_true rfl, Nat.le_of_ble_eq_true rfl⟩) hK hP [] rfl rfl hl.1 rfl (catLe (Nat.le_of_ble_eq_true rfl)) dX6_rowTrouble_6 ⟨Nat.zero_le _, Nat.zero_le _⟩ (fun r_1 hr_1 => ?_)
  subst hr_1
  refine ifB_ne (P := shP sheet) (tgt := 14) hx hb dX6_rowTrouble_9 (by decide) (fun c_2 => ?_) (fun c_2 => ?_)
  ·
    have hsh := hjs c_2
    subst hsh
    refine lv_iload_n hx hb dX6_rowTrouble_14 rfl (lv_at hl 2 rfl) ?_
    refine crS (As := [.int lane]) (rest := []) ⟨hx, hb, hml, hown, hts⟩ (c_X6_isLane l E lane) (va_cwS 1 hts gX6_rowTrouble_X6_isLane rfl rfl rfl (by decide +kernel) ⟨Nat.le_of_ble_eq_true rfl, Nat.le_of_ble_eq_true rfl⟩) hK hP [] rfl rfl hl.1 rfl (catLe (Nat.le_of_ble_eq_true rfl)) dX6_rowTrouble_15 ⟨Nat.zero_le _, Nat.zero_le _⟩ (fun r_3 hr_3 => ?_)
    subst hr_3
    refine ifB_eq (P := laP lane) (tgt := 26) hx hb dX6_rowTrouble_18 (by decide) (fun c_4 => ?_) (fun c_4 => ?_)
    ·
      refine lv_bipush (v := (-2)) hx hb dX6_rowTrouble_26 (by decide) ?_
      have eo_5 : (fltF (rtK (nI j) lane i cells rest th la ln)) = 0 := by simp [rtK, fltF, c_2, c_4]
      exact hret _ _ _ _ _ () dX6_rowTrouble_28 hS (by rw [eo_5]; exact hP) (by simp [rtK, c_2, c_4])
    ·
      refine lv_iload hx hb dX6_rowTrouble_21 (lv_at hl 5 rfl) ?_
      refine lv_if_ne (tgt := 29) hx hb dX6_rowTrouble_23 (by decide) (fun c_6 => ?_) (fun c_6 => ?_)
      ·
        refine lv_aload_n hx hb dX6_rowTrouble_29 rfl (lv_at hl 0 rfl) ?_
        refine va_get (D := E.1) (ci := 6) (v := .ref gs) (C := RX6) (T := TX6) (N := 11) hx hb hts hinX6 hown hK.1 hP 0 rfl rfl 2 (by decide) fl_23 (fun _ h9 => h9) rfl dX6_rowTrouble_30 ?_
        refine lv_iload_n hx hb dX6_rowTrouble_33 rfl (lv_at hl 1 rfl) ?_
        refine ald hx hb hK hP 1 rfl (j := j) rfl (by omega) (by decide) (v := hs) hsa dX6_rowTrouble_34 ?_
        refine lv_astore (lv' := [(6, .ref hs), (0, .ref g0), (1, .int (nI j)), (2, .int lane), (3, .int i), (4, .int cells), (5, .int rest)]) hx hb dX6_rowTrouble_35 hl (by decide) rfl (fun ls hl => ?_)
        refine lv_aload hx hb dX6_rowTrouble_37 (lv_at hl 0 rfl) ?_
        refine va_get (D := E.1) (ci := 3) (v := .int th) (C := RX3) (T := TX3) (N := 4) hx hb hts hinX3 hown hK.1 hP 2 rfl rfl 1 (by decide) fl_237 (fun _ h9 => h9) rfl dX6_rowTrouble_39 ?_
        refine lv_if_ne (tgt := 51) hx hb dX6_rowTrouble_42 (by decide) (fun c_7 => ?_) (fun c_7 => ?_)
        ·
          refine lv_aload hx hb dX6_rowTrouble_51 (lv_at hl 0 rfl) ?_
          refine va_get (D := E.1) (ci := 3) (v := .int la) (C := RX3) (T := TX3) (N := 4) hx hb hts hinX3 hown hK.1 hP 2 rfl rfl 2 (by decide) fl_248 (fun _ h9 => h9) rfl dX6_rowTrouble_53 ?_
          refine lv_iload_n hx hb dX6_rowTrouble_56 rfl (lv_at hl 3 rfl) ?_
          refine lv_icmp_eq (tgt := 66) hx hb dX6_rowTrouble_57 (by decide) (fun c_8 => ?_) (fun c_8 => ?_)
          ·
            refine lv_iload hx hb dX6_rowTrouble_66 (lv_at hl 5 rfl) ?_
            refine lv_if_ge (tgt := 77) hx hb dX6_rowTrouble_68 (by decide) (fun c_9 => ?_) (fun c_9 => ?_)
            ·
              have c_9b := Int32.not_lt.mpr c_9
              refine lv_aload hx hb dX6_rowTrouble_77 (lv_at hl 0 rfl) ?_
              refine lv_iload_n hx hb dX6_rowTrouble_79 rfl (lv_at hl 4 rfl) ?_
              refine lv_iload hx hb dX6_rowTrouble_80 (lv_at hl 5 rfl) ?_
              refine crV (As := [.int i, .int cells]) (rest := []) ⟨hx, hb, hml, hown, hts⟩ (c_X3_reaches l E hs qs th la ln i cells) (cwV 2 hts gX6_rowTrouble_X3_reaches rfl rfl rfl (by decide +kernel) ⟨Nat.le_of_ble_eq_true rfl, Nat.le_of_ble_eq_true rfl⟩) hK hP [2] rfl 0 rfl rfl rfl rfl hl.1 rfl (catLe (Nat.le_of_ble_eq_true rfl)) dX6_rowTrouble_82 ⟨Nat.zero_le _, Nat.zero_le _⟩ (fun r_10 hr_10 => ?_)
              subst hr_10
              refine ifB_eq (P := reachP ln i cells) (tgt := 92) hx hb dX6_rowTrouble_85 (by decide) (fun c_11 => ?_) (fun c_11 => ?_)
              ·
                refine lv_aload_n hx hb dX6_rowTrouble_92 rfl (lv_at hl 1 rfl) ?_
                refine lv_iconst (v := 3) hx hb dX6_rowTrouble_93 (by decide) ?_
                refine cwVi (As := [.int 3]) (rest := []) ⟨hx, hb, hml, hown, hts⟩ (c_X6_faulted l E _ g0 h0 k0 gs ht hd ho hr fo wy tr 0 3) (cwV 1 hts gX6_rowTrouble_X6_faulted rfl rfl rfl (by decide +kernel) ⟨Nat.le_of_ble_eq_true rfl, Nat.le_of_ble_eq_true rfl⟩) hK hP hD hS hA [0] (by decide) rfl [g0] (fun _ => rfl) rfl 0 rfl rfl rfl rfl hl.1 rfl (catLe (Nat.le_of_ble_eq_true rfl)) dX6_rowTrouble_94 ⟨Nat.zero_le _, Nat.zero_le _⟩ (fun r_12 u_13 H locs hwr_12 hP hD hS => ?_)
                have hP : va_P E.1 vwCl [ob g0 6 [.ref h0, .ref k0, .ref gs, .ref ht, .ref hd, .ref ho, .ref hr, .ref fo, .ref wy, .int tr, .int 3], aq E gs 4 sa, ob hs 3 [.ref qs, .int th, .int la, .int (nI ln)]] H := hP
                have hD : va_D A [ob g0 6 [.ref h0, .ref k0, .ref gs, .ref ht, .ref hd, .ref ho, .ref hr, .ref fo, .ref wy, .int tr, .int 3], aq E gs 4 sa, ob hs 3 [.ref qs, .int th, .int la, .int (nI ln)]] := hD
                subst hwr_12
                have eo_14 : (fltF (rtK (nI j) lane i cells rest th la ln)) = 3 := by simp [rtK, fltF, c_2, c_4, c_6, c_7, c_8, c_9, c_11, c_9b]
                exact hret _ _ _ _ _ () dX6_rowTrouble_97 hS (by rw [eo_14]; exact hP) (by simp [rtK, c_2, c_4, c_6, c_7, c_8, c_9, c_11, c_9b])
              ·
                have er : rtK (nI j) lane i cells rest th la ln = 0 := by simp only [rtK]; rw [if_neg (not_not_intro c_2), if_neg (fun h => h.elim (fun q => q c_4) c_6), if_neg c_7, if_neg (not_not_intro c_8), if_neg c_9b, if_pos c_11]
                refine lv_iconst (v := 0) hx hb dX6_rowTrouble_88 (by decide) ?_
                refine lv_goto (tgt := 97) hx hb dX6_rowTrouble_89 (by decide) ?_
                have eo_15 : (fltF (rtK (nI j) lane i cells rest th la ln)) = 0 := by rw [er]; rfl
                exact hret _ _ _ _ _ () dX6_rowTrouble_97 hS (by rw [eo_15]; exact hP) er.symm
            ·
              have c_9b := Int32.not_le.mp c_9
              refine lv_aload_n hx hb dX6_rowTrouble_71 rfl (lv_at hl 1 rfl) ?_
              refine lv_iconst (v := 4) hx hb dX6_rowTrouble_72 (by decide) ?_
              refine cwVi (As := [.int 4]) (rest := []) ⟨hx, hb, hml, hown, hts⟩ (c_X6_faulted l E _ g0 h0 k0 gs ht hd ho hr fo wy tr 0 4) (cwV 1 hts gX6_rowTrouble_X6_faulted rfl rfl rfl (by decide +kernel) ⟨Nat.le_of_ble_eq_true rfl, Nat.le_of_ble_eq_true rfl⟩) hK hP hD hS hA [0] (by decide) rfl [g0] (fun _ => rfl) rfl 0 rfl rfl rfl rfl hl.1 rfl (catLe (Nat.le_of_ble_eq_true rfl)) dX6_rowTrouble_73 ⟨Nat.zero_le _, Nat.zero_le _⟩ (fun r_16 u_17 H locs hwr_16 hP hD hS => ?_)
              have hP : va_P E.1 vwCl [ob g0 6 [.ref h0, .ref k0, .ref gs, .ref ht, .ref hd, .ref ho, .ref hr, .ref fo, .ref wy, .int tr, .int 4], aq E gs 4 sa, ob hs 3 [.ref qs, .int th, .int la, .int (nI ln)]] H := hP
              have hD : va_D A [ob g0 6 [.ref h0, .ref k0, .ref gs, .ref ht, .ref hd, .ref ho, .ref hr, .ref fo, .ref wy, .int tr, .int 4], aq E gs 4 sa, ob hs 3 [.ref qs, .int th, .int la, .int (nI ln)]] := hD
              subst hwr_16
              have eo_18 : (fltF (rtK (nI j) lane i cells rest th la ln)) = 4 := by simp [rtK, fltF, c_2, c_4, c_6, c_7, c_8, c_9, c_9b]
              exact hret _ _ _ _ _ () dX6_rowTrouble_76 hS (by rw [eo_18]; exact hP) (by simp [rtK, c_2, c_4, c_6, c_7, c_8, c_9, c_9b])
          ·
            refine lv_aload_n hx hb dX6_rowTrouble_60 rfl (lv_at hl 1 rfl) ?_
            refine lv_iconst (v := 2) hx hb dX6_rowTrouble_61 (by decide) ?_
            refine cwVi (As := [.int 2]) (rest := []) ⟨hx, hb, hml, hown, hts⟩ (c_X6_faulted l E _ g0 h0 k0 gs ht hd ho hr fo wy tr 0 2) (cwV 1 hts gX6_rowTrouble_X6_faulted rfl rfl rfl (by decide +kernel) ⟨Nat.le_of_ble_eq_true rfl, Nat.le_of_ble_eq_true rfl⟩) hK hP hD hS hA [0] (by decide) rfl [g0] (fun _ => rfl) rfl 0 rfl rfl rfl rfl hl.1 rfl (catLe (Nat.le_of_ble_eq_true rfl)) dX6_rowTrouble_62 ⟨Nat.zero_le _, Nat.zero_le _⟩ (fun r_19 u_20 H locs hwr_19 hP hD hS => ?_)
            have hP : va_P E.1 vwCl [ob g0 6 [.ref h0, .ref k0, .ref gs, .ref ht, .ref hd, .ref ho, .ref hr, .ref fo, .ref wy, .int tr, .int 2], aq E gs 4 sa, ob hs 3 [.ref qs, .int th, .int la, .int (nI ln)]] H := hP
            have hD : va_D A [ob g0 6 [.ref h0, .ref k0, .ref gs, .ref ht, .ref hd, .ref ho, .ref hr, .ref fo, .ref wy, .int tr, .int 2], aq E gs 4 sa, ob hs 3 [.ref qs, .int th, .int la, .int (nI ln)]] := hD
            subst hwr_19
            have eo_21 : (fltF (rtK (nI j) lane i cells rest th la ln)) = 2 := by simp [rtK, fltF, c_2, c_4, c_6, c_7, c_8]
            exact hret _ _ _ _ _ () dX6_rowTrouble_65 hS (by rw [eo_21]; exact hP) (by simp [rtK, c_2, c_4, c_6, c_7, c_8])
        ·
          refine lv_aload_n hx hb dX6_rowTrouble_45 rfl (lv_at hl 1 rfl) ?_
          refine lv_iconst (v := 1) hx hb dX6_rowTrouble_46 (by decide) ?_
          refine cwVi (As := [.int 1]) (rest := []) ⟨hx, hb, hml, hown, hts⟩ (c_X6_faulted l E _ g0 h0 k0 gs ht hd ho hr fo wy tr 0 1) (cwV 1 hts gX6_rowTrouble_X6_faulted rfl rfl rfl (by decide +kernel) ⟨Nat.le_of_ble_eq_true rfl, Nat.le_of_ble_eq_true rfl⟩) hK hP hD hS hA [0] (by decide) rfl [g0] (fun _ => rfl) rfl 0 rfl rfl rfl rfl hl.1 rfl (catLe (Nat.le_of_ble_eq_true rfl)) dX6_rowTrouble_47 ⟨Nat.zero_le _, Nat.zero_le _⟩ (fun r_22 u_23 H locs hwr_22 hP hD hS => ?_)
          have hP : va_P E.1 vwCl [ob g0 6 [.ref h0, .ref k0, .ref gs, .ref ht, .ref hd, .ref ho, .ref hr, .ref fo, .ref wy, .int tr, .int 1], aq E gs 4 sa, ob hs 3 [.ref qs, .int th, .int la, .int (nI ln)]] H := hP
          have hD : va_D A [ob g0 6 [.ref h0, .ref k0, .ref gs, .ref ht, .ref hd, .ref ho, .ref hr, .ref fo, .ref wy, .int tr, .int 1], aq E gs 4 sa, ob hs 3 [.ref qs, .int th, .int la, .int (nI ln)]] := hD
          subst hwr_22
          have eo_24 : (fltF (rtK (nI j) lane i cells rest th la ln)) = 1 := by simp [rtK, fltF, c_2, c_4, c_6, c_7]
          exact hret _ _ _ _ _ () dX6_rowTrouble_50 hS (by rw [eo_24]; exact hP) (by simp [rtK, c_2, c_4, c_6, c_7])
      ·
        refine lv_bipush (v := (-2)) hx hb dX6_rowTrouble_26 (by decide) ?_
        have eo_25 : (fltF (rtK (nI j) lane i cells rest th la ln)) = 0 := by simp [rtK, fltF, c_2, c_4, c_6]
        exact hret _ _ _ _ _ () dX6_rowTrouble_28 hS (by rw [eo_25]; exact hP) (by simp [rtK, c_2, c_4, c_6])
  ·
    refine lv_iconst (v := (-1)) hx hb dX6_rowTrouble_12 (by decide) ?_
    have eo_26 : (fltF (rtK sheet lane i cells rest th la ln)) = 0 := by simp [rtK, fltF, c_2]
    exact hret _ _ _ _ _ () dX6_rowTrouble_13 hS (by rw [eo_26]; exact hP) (by simp [rtK, c_2])
