set_option maxHeartbeats 4000000 in
set_option maxRecDepth 100000 in
theorem c_X7_within (l : Launch) (E : gE) (v : Int32) (lo : Int32) (hi : Int32) : Met l yX7_within wsX7_within ({ frames := 0, cells := 0, slots := 0, locals := 0 }) (PR E [.int v, .int lo, .int hi] []) (vp_Si (fun r => r = if wiP v lo hi then 1 else 0)) 0 0 (fun _ => False) := by
  refine mkRz (cc := cX7_within) (maxL := 3) (by decide) rfl (Nat.le_of_ble_eq_true rfl) ?_
  intro p e s m args below meth c QQ hx hb hml hown hmn hts hK hP hret ls hl
  have hown : s.vm.findClass RX7 = some m.cls := hown
  have hl : lv_has ls 3 [(0, .int v), (1, .int lo), (2, .int hi)] := hl
  refine lv_iload_n hx hb dX7_within_0 rfl (lv_at hl 0 rfl) ?_
  refine lv_iload_n hx hb dX7_within_1 rfl (lv_at hl 1 rfl) ?_
  refine lv_icmp_lt (tgt := 14) hx hb dX7_within_2 (by decide) (fun c_1 => ?_) (fun c_1 => ?_)
  ·
    have c_1b := Int32.not_le.mpr c_1
    refine lv_iconst (v := 0) hx hb dX7_within_14 (by decide) ?_
    exact hret _ _ _ dX7_within_15 rfl (by simp [wiP, c_1, c_1b])
  ·
    have c_1b := Int32.not_lt.mp c_1
    refine lv_iload_n hx hb dX7_within_5 rfl (lv_at hl 0 rfl) ?_
    refine lv_iload_n hx hb dX7_within_6 rfl (lv_at hl 2 rfl) ?_
    refine lv_icmp_gt (tgt := 14) hx hb dX7_within_7 (by decide) (fun c_2 => ?_) (fun c_2 => ?_)
    ·
      have c_2b := Int32.not_le.mpr c_2
      refine lv_iconst (v := 0) hx hb dX7_within_14 (by decide) ?_
      exact hret _ _ _ dX7_within_15 rfl (by simp [wiP, c_1, c_2, c_1b, c_2b])
    ·
      have c_2b := Int32.not_lt.mp c_2
      refine lv_iconst (v := 1) hx hb dX7_within_10 (by decide) ?_
      refine lv_goto (tgt := 15) hx hb dX7_within_11 (by decide) ?_
      exact hret _ _ _ dX7_within_15 rfl (by simp [wiP, c_1, c_2, c_1b, c_2b])
set_option maxHeartbeats 4000000 in
set_option maxRecDepth 100000 in
theorem c_X7_isSheet (l : Launch) (E : gE) (k : Int32) : Met l yX7_isSheet wsX7_isSheet ({ frames := 1, cells := 0, slots := 0, locals := 22 }) (PR E [.int k] []) (vp_Si (fun r => r = if shP k then 1 else 0)) 0 0 (fun _ => False) := by
  refine mkRz (cc := cX7_isSheet) (maxL := 1) (by decide) rfl (Nat.le_of_ble_eq_true rfl) ?_
  intro p e s m args below meth c QQ hx hb hml hown hmn hts hK hP hret ls hl
  have hown : s.vm.findClass RX7 = some m.cls := hown
  have hl : lv_has ls 1 [(0, .int k)] := hl
  refine lv_iload_n hx hb dX7_isSheet_0 rfl (lv_at hl 0 rfl) ?_
  refine lv_iconst (v := 0) hx hb dX7_isSheet_1 (by decide) ?_
  refine lv_iconst (v := 3) hx hb dX7_isSheet_2 (by decide) ?_
  refine crS (As := [.int k, .int 0, .int 3]) (rest := []) ⟨hx, hb, hml, hown, hts⟩ (c_X7_within l E k 0 3) (va_cwS 3 hts gX7_isSheet_X7_within rfl rfl rfl (by decide +kernel) ⟨Nat.le_of_ble_eq_true rfl, Nat.le_of_ble_eq_true rfl⟩) hK hP [] rfl rfl hl.1 rfl (catLe (Nat.le_of_ble_eq_true rfl)) dX7_isSheet_3 ⟨Nat.zero_le _, Nat.zero_le _⟩ (fun r_1 hr_1 => ?_)
  subst hr_1
  exact hret _ _ _ dX7_isSheet_6 (by first | rfl | (split <;> rfl)) (ififf (wi_sh k))
set_option maxHeartbeats 4000000 in
set_option maxRecDepth 100000 in
theorem c_X7_isSort (l : Launch) (E : gE) (k : Int32) : Met l yX7_isSort wsX7_isSort ({ frames := 1, cells := 0, slots := 0, locals := 22 }) (PR E [.int k] []) (vp_Si (fun r => r = if laP k then 1 else 0)) 0 0 (fun _ => False) := by
  refine mkRz (cc := cX7_isSort) (maxL := 1) (by decide) rfl (Nat.le_of_ble_eq_true rfl) ?_
  intro p e s m args below meth c QQ hx hb hml hown hmn hts hK hP hret ls hl
  have hown : s.vm.findClass RX7 = some m.cls := hown
  have hl : lv_has ls 1 [(0, .int k)] := hl
  refine lv_iload_n hx hb dX7_isSort_0 rfl (lv_at hl 0 rfl) ?_
  refine lv_iconst (v := 0) hx hb dX7_isSort_1 (by decide) ?_
  refine lv_iconst (v := 2) hx hb dX7_isSort_2 (by decide) ?_
  refine crS (As := [.int k, .int 0, .int 2]) (rest := []) ⟨hx, hb, hml, hown, hts⟩ (c_X7_within l E k 0 2) (va_cwS 3 hts gX7_isSort_X7_within rfl rfl rfl (by decide +kernel) ⟨Nat.le_of_ble_eq_true rfl, Nat.le_of_ble_eq_true rfl⟩) hK hP [] rfl rfl hl.1 rfl (catLe (Nat.le_of_ble_eq_true rfl)) dX7_isSort_3 ⟨Nat.zero_le _, Nat.zero_le _⟩ (fun r_1 hr_1 => ?_)
  subst hr_1
  exact hret _ _ _ dX7_isSort_6 (by first | rfl | (split <;> rfl)) (ififf (wi_la k))
set_option maxHeartbeats 4000000 in
set_option maxRecDepth 100000 in
theorem c_X7_roomFor (l : Launch) (E : gE) (kk : Int32) (mm : Int32) (hkk : kk = 0 ∨ kk = 1 ∨ kk = 2) : Met l yX7_roomFor wsX7_roomFor ({ frames := 0, cells := 0, slots := 0, locals := 0 }) (PR E [.int kk, .int mm] []) (vp_Si (fun r => r = roomF kk mm)) 0 0 (fun _ => False) := by
  refine mkRi (cc := cX7_roomFor) (maxL := 2) (by decide) rfl (Nat.le_of_ble_eq_true rfl) ?_
  intro p e s m args below meth c QQ hx hb hml hown hmn hts hK hP hret ls hl
  have hown : s.vm.findClass RX7 = some m.cls := hown
  have hl : lv_has ls 2 [(0, .int kk), (1, .int mm)] := hl
  refine lv_iload_n hx hb dX7_roomFor_0 rfl (lv_at hl 0 rfl) ?_
  refine lv_if_ne (tgt := 8) hx hb dX7_roomFor_1 (by decide) (fun c_1 => ?_) (fun c_1 => ?_)
  ·
    refine lv_iload_n hx hb dX7_roomFor_8 rfl (lv_at hl 0 rfl) ?_
    refine lv_iconst (v := 1) hx hb dX7_roomFor_9 (by decide) ?_
    refine lv_icmp_ne (tgt := 19) hx hb dX7_roomFor_10 (by decide) (fun c_2 => ?_) (fun c_2 => ?_)
    ·
      refine lv_iconst (v := 2) hx hb dX7_roomFor_19 (by decide) ?_
      refine lv_iload_n hx hb dX7_roomFor_20 rfl (lv_at hl 1 rfl) ?_
      refine lv_imul hx hb dX7_roomFor_21 ?_
      exact hret _ _ _ dX7_roomFor_22 (by rw [(hkk.resolve_left c_1).resolve_left c_2]; rfl)
    ·
      refine lv_iload_n hx hb dX7_roomFor_13 rfl (lv_at hl 1 rfl) ?_
      refine lv_iconst (v := 1) hx hb dX7_roomFor_14 (by decide) ?_
      refine lv_iadd hx hb dX7_roomFor_15 ?_
      refine lv_goto (tgt := 22) hx hb dX7_roomFor_16 (by decide) ?_
      exact hret _ _ _ dX7_roomFor_22 (by rw [c_2]; rfl)
  ·
    refine lv_iload_n hx hb dX7_roomFor_4 rfl (lv_at hl 1 rfl) ?_
    refine lv_goto (tgt := 22) hx hb dX7_roomFor_5 (by decide) ?_
    exact hret _ _ _ dX7_roomFor_22 (by rw [c_1]; rfl)
set_option maxHeartbeats 4000000 in
set_option maxRecDepth 100000 in
theorem c_X7_apart (l : Launch) (E : gE) (va : Int32) (vb : Int32) : Met l yX7_apart wsX7_apart ({ frames := 0, cells := 0, slots := 0, locals := 0 }) (PR E [.int va, .int vb] []) (vp_Si (fun r => r = apF va vb)) 0 0 (fun _ => False) := by
  refine mkRi (cc := cX7_apart) (maxL := 2) (by decide) rfl (Nat.le_of_ble_eq_true rfl) ?_
  intro p e s m args below meth c QQ hx hb hml hown hmn hts hK hP hret ls hl
  have hown : s.vm.findClass RX7 = some m.cls := hown
  have hl : lv_has ls 2 [(0, .int va), (1, .int vb)] := hl
  refine lv_iload_n hx hb dX7_apart_0 rfl (lv_at hl 0 rfl) ?_
  refine lv_iload_n hx hb dX7_apart_1 rfl (lv_at hl 1 rfl) ?_
  refine lv_icmp_ge (tgt := 11) hx hb dX7_apart_2 (by decide) (fun c_1 => ?_) (fun c_1 => ?_)
  ·
    have c_1b := Int32.not_lt.mpr c_1
    refine lv_iload_n hx hb dX7_apart_11 rfl (lv_at hl 0 rfl) ?_
    refine lv_iload_n hx hb dX7_apart_12 rfl (lv_at hl 1 rfl) ?_
    refine lv_isub hx hb dX7_apart_13 ?_
    exact hret _ _ _ dX7_apart_14 (by simp [apF, c_1, c_1b])
  ·
    have c_1b := Int32.not_le.mp c_1
    refine lv_iload_n hx hb dX7_apart_5 rfl (lv_at hl 1 rfl) ?_
    refine lv_iload_n hx hb dX7_apart_6 rfl (lv_at hl 0 rfl) ?_
    refine lv_isub hx hb dX7_apart_7 ?_
    refine lv_goto (tgt := 14) hx hb dX7_apart_8 (by decide) ?_
    exact hret _ _ _ dX7_apart_14 (by simp [apF, c_1, c_1b])
set_option maxHeartbeats 4000000 in
set_option maxRecDepth 100000 in
theorem c_X7_fails (l : Launch) (E : gE) (sz : Nat) (m0 : Nat) (lf : Int32) (tr : Int32) (z0 : Nat) (z1 : Nat) (z2 : Nat) (n : Nat) (y0 : Nat) (y1 : Nat) (y2 : Nat) (at_ : Int32) (rwi : Int32) (y3 : Nat) (y4 : Nat) (sl : Int32) (cr : Int32) (gr : Int32) (y5 : Nat) (y6 : Nat) (rc : Nat) (x0 : Nat) (x1 : Nat) (x2 : Nat) (x3 : Nat) (x : Int32) : Met l yX7_fails wsX7_fails ({ frames := 0, cells := 0, slots := 0, locals := 0 }) (PW E [.ref m0, .int x] [ob m0 7 [.int lf, .int tr, .ref z0, .ref z1, .ref z2, .int (nI n), .ref y0, .ref y1, .ref y2, .int at_, .int rwi, .ref y3, .ref y4, .int sl, .int cr, .int gr, .ref y5, .ref y6, .int (nI rc), .ref x0, .ref x1, .ref x2, .ref x3]] sz) (QWi E (fun r _ => r = -10 - x) (fun (_ : Unit) => [ob m0 7 [.int x, .int tr, .ref z0, .ref z1, .ref z2, .int (nI n), .ref y0, .ref y1, .ref y2, .int at_, .int rwi, .ref y3, .ref y4, .int sl, .int cr, .int gr, .ref y5, .ref y6, .int (nI rc), .ref x0, .ref x1, .ref x2, .ref x3]]) (va_A [ob m0 7 [.int lf, .int tr, .ref z0, .ref z1, .ref z2, .int (nI n), .ref y0, .ref y1, .ref y2, .int at_, .int rwi, .ref y3, .ref y4, .int sl, .int cr, .int gr, .ref y5, .ref y6, .int (nI rc), .ref x0, .ref x1, .ref x2, .ref x3]] sz)) 0 0 (va_A [ob m0 7 [.int lf, .int tr, .ref z0, .ref z1, .ref z2, .int (nI n), .ref y0, .ref y1, .ref y2, .int at_, .int rwi, .ref y3, .ref y4, .int sl, .int cr, .int gr, .ref y5, .ref y6, .int (nI rc), .ref x0, .ref x1, .ref x2, .ref x3]] sz) := by
  refine mkWi (cc := cX7_fails) (maxL := 2) (by decide) rfl (Nat.le_of_ble_eq_true rfl) ?_
  intro p e s m args below meth c QQ A hx hb hml hown hmn hts hK hA hP hD hS hret ls hl
  have hown : s.vm.findClass RX7 = some m.cls := hown
  have hl : lv_has ls 2 [(0, .ref m0), (1, .int x)] := hl
  have hinX7 : ∀ w ∈ wsX70, w ∈ wsX7_fails := by decide +kernel
  have fl_52 := hts (.fieldLink RX7 52 "GuardAbacusModel" "fault" "I") (by decide +kernel)
  refine lv_aload_n hx hb dX7_fails_0 rfl (lv_at hl 0 rfl) ?_
  refine lv_iload_n hx hb dX7_fails_1 rfl (lv_at hl 1 rfl) ?_
  refine va_put (D := E.1) (ci := 7) (v := .int x) (ty := .int) (C := RX7) (T := TX7) (N := 23) hx hb hts hinX7 tyX7 tyX7_ok nmX7 hown hK.1 hP hD hS 0 rfl rfl 0 (by decide) fl_52 (fun _ h9 => h9) rfl (by decide +kernel) rfl rfl (Nat.le_of_ble_eq_true rfl) dX7_fails_2 (fun H locs hP hD hS => ?_)
  have hP : va_P E.1 vwCl [ob m0 7 [.int x, .int tr, .ref z0, .ref z1, .ref z2, .int (nI n), .ref y0, .ref y1, .ref y2, .int at_, .int rwi, .ref y3, .ref y4, .int sl, .int cr, .int gr, .ref y5, .ref y6, .int (nI rc), .ref x0, .ref x1, .ref x2, .ref x3]] H := hP
  have hD : va_D A [ob m0 7 [.int x, .int tr, .ref z0, .ref z1, .ref z2, .int (nI n), .ref y0, .ref y1, .ref y2, .int at_, .int rwi, .ref y3, .ref y4, .int sl, .int cr, .int gr, .ref y5, .ref y6, .int (nI rc), .ref x0, .ref x1, .ref x2, .ref x3]] := hD
  refine lv_bipush (v := (-10)) hx hb dX7_fails_5 (by decide) ?_
  refine lv_iload_n hx hb dX7_fails_7 rfl (lv_at hl 1 rfl) ?_
  refine lv_isub hx hb dX7_fails_8 ?_
  exact hret _ _ _ _ _ () dX7_fails_9 hS hP rfl
set_option maxHeartbeats 4000000 in
set_option maxRecDepth 100000 in
theorem c_X7_lost (l : Launch) (E : gE) (sz : Nat) (m0 : Nat) (lf : Int32) (tr : Int32) (z0 : Nat) (z1 : Nat) (z2 : Nat) (n : Nat) (y0 : Nat) (y1 : Nat) (y2 : Nat) (at_ : Int32) (rwi : Int32) (y3 : Nat) (y4 : Nat) (sl : Int32) (cr : Int32) (gr : Int32) (y5 : Nat) (y6 : Nat) (rc : Nat) (x0 : Nat) (x1 : Nat) (x2 : Nat) (x3 : Nat) (x : Int32) : Met l yX7_lost wsX7_lost ({ frames := 0, cells := 0, slots := 0, locals := 0 }) (PW E [.ref m0, .int x] [ob m0 7 [.int lf, .int tr, .ref z0, .ref z1, .ref z2, .int (nI n), .ref y0, .ref y1, .ref y2, .int at_, .int rwi, .ref y3, .ref y4, .int sl, .int cr, .int gr, .ref y5, .ref y6, .int (nI rc), .ref x0, .ref x1, .ref x2, .ref x3]] sz) (QWl E (fun r _ => r = -9223372036854775808) (fun (_ : Unit) => [ob m0 7 [.int x, .int tr, .ref z0, .ref z1, .ref z2, .int (nI n), .ref y0, .ref y1, .ref y2, .int at_, .int rwi, .ref y3, .ref y4, .int sl, .int cr, .int gr, .ref y5, .ref y6, .int (nI rc), .ref x0, .ref x1, .ref x2, .ref x3]]) (va_A [ob m0 7 [.int lf, .int tr, .ref z0, .ref z1, .ref z2, .int (nI n), .ref y0, .ref y1, .ref y2, .int at_, .int rwi, .ref y3, .ref y4, .int sl, .int cr, .int gr, .ref y5, .ref y6, .int (nI rc), .ref x0, .ref x1, .ref x2, .ref x3]] sz)) 0 0 (va_A [ob m0 7 [.int lf, .int tr, .ref z0, .ref z1, .ref z2, .int (nI n), .ref y0, .ref y1, .ref y2, .int at_, .int rwi, .ref y3, .ref y4, .int sl, .int cr, .int gr, .ref y5, .ref y6, .int (nI rc), .ref x0, .ref x1, .ref x2, .ref x3]] sz) := by
  refine mkWl (cc := cX7_lost) (maxL := 2) (by decide) rfl (Nat.le_of_ble_eq_true rfl) ?_
  intro p e s m args below meth c QQ A hx hb hml hown hmn hts hK hA hP hD hS hret ls hl
  have hown : s.vm.findClass RX7 = some m.cls := hown
  have hl : lv_has ls 2 [(0, .ref m0), (1, .int x)] := hl
  have hinX7 : ∀ w ∈ wsX70, w ∈ wsX7_lost := by decide +kernel
  have fl_52 := hts (.fieldLink RX7 52 "GuardAbacusModel" "fault" "I") (by decide +kernel)
  refine lv_aload_n hx hb dX7_lost_0 rfl (lv_at hl 0 rfl) ?_
  refine lv_iload_n hx hb dX7_lost_1 rfl (lv_at hl 1 rfl) ?_
  refine va_put (D := E.1) (ci := 7) (v := .int x) (ty := .int) (C := RX7) (T := TX7) (N := 23) hx hb hts hinX7 tyX7 tyX7_ok nmX7 hown hK.1 hP hD hS 0 rfl rfl 0 (by decide) fl_52 (fun _ h9 => h9) rfl (by decide +kernel) rfl rfl (Nat.le_of_ble_eq_true rfl) dX7_lost_2 (fun H locs hP hD hS => ?_)
  have hP : va_P E.1 vwCl [ob m0 7 [.int x, .int tr, .ref z0, .ref z1, .ref z2, .int (nI n), .ref y0, .ref y1, .ref y2, .int at_, .int rwi, .ref y3, .ref y4, .int sl, .int cr, .int gr, .ref y5, .ref y6, .int (nI rc), .ref x0, .ref x1, .ref x2, .ref x3]] H := hP
  have hD : va_D A [ob m0 7 [.int x, .int tr, .ref z0, .ref z1, .ref z2, .int (nI n), .ref y0, .ref y1, .ref y2, .int at_, .int rwi, .ref y3, .ref y4, .int sl, .int cr, .int gr, .ref y5, .ref y6, .int (nI rc), .ref x0, .ref x1, .ref x2, .ref x3]] := hD
  refine lv_ldc2 hx hb hown (hts (.constantLong RX7 56 (-9223372036854775808)) (by decide +kernel)) dX7_lost_5 ?_
  exact hret _ _ _ _ _ () dX7_lost_8 hS hP rfl
set_option maxHeartbeats 4000000 in
set_option maxRecDepth 100000 in
theorem c_X7_begins (l : Launch) (E : gE) (sz : Nat) (m0 : Nat) (lf : Int32) (tr : Int32) (z0 : Nat) (z1 : Nat) (z2 : Nat) (n : Nat) (y0 : Nat) (y1 : Nat) (y2 : Nat) (at_ : Int32) (rwi : Int32) (y3 : Nat) (y4 : Nat) (sl : Int32) (cr : Int32) (gr : Int32) (y5 : Nat) (y6 : Nat) (rc : Nat) (x0 : Nat) (x1 : Nat) (x2 : Nat) (x3 : Nat) (x : Int32) : Met l yX7_begins wsX7_begins ({ frames := 0, cells := 0, slots := 0, locals := 0 }) (PW E [.ref m0, .int x] [ob m0 7 [.int lf, .int tr, .ref z0, .ref z1, .ref z2, .int (nI n), .ref y0, .ref y1, .ref y2, .int at_, .int rwi, .ref y3, .ref y4, .int sl, .int cr, .int gr, .ref y5, .ref y6, .int (nI rc), .ref x0, .ref x1, .ref x2, .ref x3]] sz) (QWv E (fun _ => True) (fun (_ : Unit) => [ob m0 7 [.int lf, .int (trF tr x), .ref z0, .ref z1, .ref z2, .int (nI n), .ref y0, .ref y1, .ref y2, .int at_, .int rwi, .ref y3, .ref y4, .int sl, .int cr, .int gr, .ref y5, .ref y6, .int (nI rc), .ref x0, .ref x1, .ref x2, .ref x3]]) (va_A [ob m0 7 [.int lf, .int tr, .ref z0, .ref z1, .ref z2, .int (nI n), .ref y0, .ref y1, .ref y2, .int at_, .int rwi, .ref y3, .ref y4, .int sl, .int cr, .int gr, .ref y5, .ref y6, .int (nI rc), .ref x0, .ref x1, .ref x2, .ref x3]] sz)) 0 0 (va_A [ob m0 7 [.int lf, .int tr, .ref z0, .ref z1, .ref z2, .int (nI n), .ref y0, .ref y1, .ref y2, .int at_, .int rwi, .ref y3, .ref y4, .int sl, .int cr, .int gr, .ref y5, .ref y6, .int (nI rc), .ref x0, .ref x1, .ref x2, .ref x3]] sz) := by
  refine mkWv (cc := cX7_begins) (maxL := 2) (by decide) rfl (Nat.le_of_ble_eq_true rfl) ?_
  intro p e s m args below meth c QQ A hx hb hml hown hmn hts hK hA hP hD hS hret ls hl
  have hown : s.vm.findClass RX7 = some m.cls := hown
  have hl : lv_has ls 2 [(0, .ref m0), (1, .int x)] := hl
  have hinX7 : ∀ w ∈ wsX70, w ∈ wsX7_begins := by decide +kernel
  have fl_198 := hts (.fieldLink RX7 198 "GuardAbacusModel" "trace" "I") (by decide +kernel)
  refine lv_aload_n hx hb dX7_begins_0 rfl (lv_at hl 0 rfl) ?_
  refine lv_bipush (v := 31) hx hb dX7_begins_1 (by decide) ?_
  refine lv_aload_n hx hb dX7_begins_3 rfl (lv_at hl 0 rfl) ?_
  refine va_get (D := E.1) (ci := 7) (v := .int tr) (C := RX7) (T := TX7) (N := 23) hx hb hts hinX7 hown hK.1 hP 0 rfl rfl 1 (by decide) fl_198 (fun _ h9 => h9) rfl dX7_begins_4 ?_
  refine lv_imul hx hb dX7_begins_7 ?_
  refine lv_iload_n hx hb dX7_begins_8 rfl (lv_at hl 1 rfl) ?_
  refine lv_iadd hx hb dX7_begins_9 ?_
  refine va_put (D := E.1) (ci := 7) (v := .int ((31 * tr) + x)) (ty := .int) (C := RX7) (T := TX7) (N := 23) hx hb hts hinX7 tyX7 tyX7_ok nmX7 hown hK.1 hP hD hS 0 rfl rfl 1 (by decide) fl_198 (fun _ h9 => h9) rfl (by decide +kernel) rfl rfl (Nat.le_of_ble_eq_true rfl) dX7_begins_10 (fun H locs hP hD hS => ?_)
  have hP : va_P E.1 vwCl [ob m0 7 [.int lf, .int ((31 * tr) + x), .ref z0, .ref z1, .ref z2, .int (nI n), .ref y0, .ref y1, .ref y2, .int at_, .int rwi, .ref y3, .ref y4, .int sl, .int cr, .int gr, .ref y5, .ref y6, .int (nI rc), .ref x0, .ref x1, .ref x2, .ref x3]] H := hP
  have hD : va_D A [ob m0 7 [.int lf, .int ((31 * tr) + x), .ref z0, .ref z1, .ref z2, .int (nI n), .ref y0, .ref y1, .ref y2, .int at_, .int rwi, .ref y3, .ref y4, .int sl, .int cr, .int gr, .ref y5, .ref y6, .int (nI rc), .ref x0, .ref x1, .ref x2, .ref x3]] := hD
  have eo_1 : (trF tr x) = ((31 * tr) + x) := by simp only [trF]
  exact hret _ _ _ _ () dX7_begins_13 hS (by rw [eo_1]; exact hP) trivial
set_option maxHeartbeats 4000000 in
set_option maxRecDepth 100000 in
theorem c_X7_trace (l : Launch) (E : gE) (m0 : Nat) (lf : Int32) (tr : Int32) (z0 : Nat) (z1 : Nat) (z2 : Nat) (n : Nat) (y0 : Nat) (y1 : Nat) (y2 : Nat) (at_ : Int32) (rwi : Int32) (y3 : Nat) (y4 : Nat) (sl : Int32) (cr : Int32) (gr : Int32) (y5 : Nat) (y6 : Nat) (rc : Nat) (x0 : Nat) (x1 : Nat) (x2 : Nat) (x3 : Nat) : Met l yX7_trace wsX7_trace ({ frames := 0, cells := 0, slots := 0, locals := 0 }) (PR E [.ref m0] [ob m0 7 [.int lf, .int tr, .ref z0, .ref z1, .ref z2, .int (nI n), .ref y0, .ref y1, .ref y2, .int at_, .int rwi, .ref y3, .ref y4, .int sl, .int cr, .int gr, .ref y5, .ref y6, .int (nI rc), .ref x0, .ref x1, .ref x2, .ref x3]]) (vp_Si (fun r => r = tr)) 0 0 (fun _ => False) := by
  refine mkRi (cc := cX7_trace) (maxL := 1) (by decide) rfl (Nat.le_of_ble_eq_true rfl) ?_
  intro p e s m args below meth c QQ hx hb hml hown hmn hts hK hP hret ls hl
  have hown : s.vm.findClass RX7 = some m.cls := hown
  have hl : lv_has ls 1 [(0, .ref m0)] := hl
  have hinX7 : ∀ w ∈ wsX70, w ∈ wsX7_trace := by decide +kernel
  have fl_198 := hts (.fieldLink RX7 198 "GuardAbacusModel" "trace" "I") (by decide +kernel)
  refine lv_aload_n hx hb dX7_trace_0 rfl (lv_at hl 0 rfl) ?_
  refine va_get (D := E.1) (ci := 7) (v := .int tr) (C := RX7) (T := TX7) (N := 23) hx hb hts hinX7 hown hK.1 hP 0 rfl rfl 1 (by decide) fl_198 (fun _ h9 => h9) rfl dX7_trace_1 ?_
  exact hret _ _ _ dX7_trace_4 rfl
set_option maxHeartbeats 4000000 in
set_option maxRecDepth 100000 in
theorem c_X7_fault (l : Launch) (E : gE) (m0 : Nat) (lf : Int32) (tr : Int32) (z0 : Nat) (z1 : Nat) (z2 : Nat) (n : Nat) (y0 : Nat) (y1 : Nat) (y2 : Nat) (at_ : Int32) (rwi : Int32) (y3 : Nat) (y4 : Nat) (sl : Int32) (cr : Int32) (gr : Int32) (y5 : Nat) (y6 : Nat) (rc : Nat) (x0 : Nat) (x1 : Nat) (x2 : Nat) (x3 : Nat) : Met l yX7_fault wsX7_fault ({ frames := 0, cells := 0, slots := 0, locals := 0 }) (PR E [.ref m0] [ob m0 7 [.int lf, .int tr, .ref z0, .ref z1, .ref z2, .int (nI n), .ref y0, .ref y1, .ref y2, .int at_, .int rwi, .ref y3, .ref y4, .int sl, .int cr, .int gr, .ref y5, .ref y6, .int (nI rc), .ref x0, .ref x1, .ref x2, .ref x3]]) (vp_Si (fun r => r = lf)) 0 0 (fun _ => False) := by
  refine mkRi (cc := cX7_fault) (maxL := 1) (by decide) rfl (Nat.le_of_ble_eq_true rfl) ?_
  intro p e s m args below meth c QQ hx hb hml hown hmn hts hK hP hret ls hl
  have hown : s.vm.findClass RX7 = some m.cls := hown
  have hl : lv_has ls 1 [(0, .ref m0)] := hl
  have hinX7 : ∀ w ∈ wsX70, w ∈ wsX7_fault := by decide +kernel
  have fl_52 := hts (.fieldLink RX7 52 "GuardAbacusModel" "fault" "I") (by decide +kernel)
  refine lv_aload_n hx hb dX7_fault_0 rfl (lv_at hl 0 rfl) ?_
  refine va_get (D := E.1) (ci := 7) (v := .int lf) (C := RX7) (T := TX7) (N := 23) hx hb hts hinX7 hown hK.1 hP 0 rfl rfl 0 (by decide) fl_52 (fun _ h9 => h9) rfl dX7_fault_1 ?_
  exact hret _ _ _ dX7_fault_4 rfl
set_option maxHeartbeats 4000000 in
set_option maxRecDepth 100000 in
theorem c_X7_isWire (l : Launch) (E : gE) (m0 : Nat) (lf : Int32) (tr : Int32) (z0 : Nat) (z1 : Nat) (z2 : Nat) (n : Nat) (y0 : Nat) (y1 : Nat) (y2 : Nat) (at_ : Int32) (rwi : Int32) (y3 : Nat) (y4 : Nat) (sl : Int32) (cr : Int32) (gr : Int32) (y5 : Nat) (y6 : Nat) (rc : Nat) (x0 : Nat) (x1 : Nat) (x2 : Nat) (x3 : Nat) (w : Int32) : Met l yX7_isWire wsX7_isWire ({ frames := 0, cells := 0, slots := 0, locals := 0 }) (PR E [.ref m0, .int w] [ob m0 7 [.int lf, .int tr, .ref z0, .ref z1, .ref z2, .int (nI n), .ref y0, .ref y1, .ref y2, .int at_, .int rwi, .ref y3, .ref y4, .int sl, .int cr, .int gr, .ref y5, .ref y6, .int (nI rc), .ref x0, .ref x1, .ref x2, .ref x3]]) (vp_Si (fun r => r = if hasP n w then 1 else 0)) 0 0 (fun _ => False) := by
  refine mkRz (cc := cX7_isWire) (maxL := 2) (by decide) rfl (Nat.le_of_ble_eq_true rfl) ?_
  intro p e s m args below meth c QQ hx hb hml hown hmn hts hK hP hret ls hl
  have hown : s.vm.findClass RX7 = some m.cls := hown
  have hl : lv_has ls 2 [(0, .ref m0), (1, .int w)] := hl
  have hinX7 : ∀ w ∈ wsX70, w ∈ wsX7_isWire := by decide +kernel
  have fl_62 := hts (.fieldLink RX7 62 "GuardAbacusModel" "wires" "I") (by decide +kernel)
  refine lv_iload_n hx hb dX7_isWire_0 rfl (lv_at hl 1 rfl) ?_
  refine lv_if_lt (tgt := 16) hx hb dX7_isWire_1 (by decide) (fun c_1 => ?_) (fun c_1 => ?_)
  ·
    have c_1b := Int32.not_le.mpr c_1
    refine lv_iconst (v := 0) hx hb dX7_isWire_16 (by decide) ?_
    exact hret _ _ _ dX7_isWire_17 rfl (by simp [hasP, c_1, c_1b])
  ·
    have c_1b := Int32.not_lt.mp c_1
    refine lv_iload_n hx hb dX7_isWire_4 rfl (lv_at hl 1 rfl) ?_
    refine lv_aload_n hx hb dX7_isWire_5 rfl (lv_at hl 0 rfl) ?_
    refine va_get (D := E.1) (ci := 7) (v := .int (nI n)) (C := RX7) (T := TX7) (N := 23) hx hb hts hinX7 hown hK.1 hP 0 rfl rfl 5 (by decide) fl_62 (fun _ h9 => h9) rfl dX7_isWire_6 ?_
    refine lv_icmp_ge (tgt := 16) hx hb dX7_isWire_9 (by decide) (fun c_2 => ?_) (fun c_2 => ?_)
    ·
      have c_2b := Int32.not_lt.mpr c_2
      refine lv_iconst (v := 0) hx hb dX7_isWire_16 (by decide) ?_
      exact hret _ _ _ dX7_isWire_17 rfl (by simp [hasP, c_1, c_2, c_1b, c_2b])
    ·
      have c_2b := Int32.not_le.mp c_2
      refine lv_iconst (v := 1) hx hb dX7_isWire_12 (by decide) ?_
      refine lv_goto (tgt := 17) hx hb dX7_isWire_13 (by decide) ?_
      exact hret _ _ _ dX7_isWire_17 rfl (by simp [hasP, c_1, c_2, c_1b, c_2b])
set_option maxHeartbeats 4000000 in
set_option maxRecDepth 100000 in
theorem c_X7_against (l : Launch) (E : gE) (m0 : Nat) (lf : Int32) (tr : Int32) (z0 : Nat) (z1 : Nat) (z2 : Nat) (n : Nat) (y0 : Nat) (y1 : Nat) (y2 : Nat) (at_ : Int32) (rwi : Int32) (y3 : Nat) (y4 : Nat) (sl : Int32) (cr : Int32) (gr : Int32) (y5 : Nat) (y6 : Nat) (rc : Nat) (x0 : Nat) (x1 : Nat) (x2 : Nat) (x3 : Nat) (so : Nat → Int32) (sg : Nat → Int32) (j : Nat) (ln : Nat) (lane : Int32) (i : Int32) (cells : Int32) (hj4 : j < 4) (hsg : sg j = nI ln) : Met l yX7_against wsX7_against ({ frames := 0, cells := 0, slots := 0, locals := 0 }) (PR E [.ref m0, .int (nI j), .int lane, .int i, .int cells] [ob m0 7 [.int lf, .int tr, .ref z0, .ref z1, .ref z2, .int (nI n), .ref y0, .ref y1, .ref y2, .int at_, .int rwi, .ref y3, .ref y4, .int sl, .int cr, .int gr, .ref y5, .ref y6, .int (nI rc), .ref x0, .ref x1, .ref x2, .ref x3], ar E z0 4 so, ar E z1 4 sg]) (vp_Si (fun r => r = agF (so j) lane i cells ln)) 0 0 (fun _ => False) := by
  refine mkRi (cc := cX7_against) (maxL := 5) (by decide) rfl (Nat.le_of_ble_eq_true rfl) ?_
  intro p e s m args below meth c QQ hx hb hml hown hmn hts hK hP hret ls hl
  have hown : s.vm.findClass RX7 = some m.cls := hown
  have hl : lv_has ls 5 [(0, .ref m0), (1, .int (nI j)), (2, .int lane), (3, .int i), (4, .int cells)] := hl
  have hinX7 : ∀ w ∈ wsX70, w ∈ wsX7_against := by decide +kernel
  have fl_9 := hts (.fieldLink RX7 9 "GuardAbacusModel" "sorts" "[I") (by decide +kernel)
  have fl_13 := hts (.fieldLink RX7 13 "GuardAbacusModel" "sheetLong" "[I") (by decide +kernel)
  refine lv_aload_n hx hb dX7_against_0 rfl (lv_at hl 0 rfl) ?_
  refine va_get (D := E.1) (ci := 7) (v := .ref z0) (C := RX7) (T := TX7) (N := 23) hx hb hts hinX7 hown hK.1 hP 0 rfl rfl 2 (by decide) fl_9 (fun _ h9 => h9) rfl dX7_against_1 ?_
  refine lv_iload_n hx hb dX7_against_4 rfl (lv_at hl 1 rfl) ?_
  refine ild hx hb hK hP 1 rfl (j := j) rfl (by omega) (by decide) dX7_against_5 ?_
  refine lv_bipush (v := (-9)) hx hb dX7_against_6 (by decide) ?_
  refine lv_icmp_eq (tgt := 23) hx hb dX7_against_8 (by decide) (fun c_1 => ?_) (fun c_1 => ?_)
  ·
    refine lv_aload_n hx hb dX7_against_23 rfl (lv_at hl 0 rfl) ?_
    refine va_get (D := E.1) (ci := 7) (v := .ref z0) (C := RX7) (T := TX7) (N := 23) hx hb hts hinX7 hown hK.1 hP 0 rfl rfl 2 (by decide) fl_9 (fun _ h9 => h9) rfl dX7_against_24 ?_
    refine lv_iload_n hx hb dX7_against_27 rfl (lv_at hl 1 rfl) ?_
    refine ild hx hb hK hP 1 rfl (j := j) rfl (by omega) (by decide) dX7_against_28 ?_
    refine lv_bipush (v := (-9)) hx hb dX7_against_29 (by decide) ?_
    refine lv_icmp_ne (tgt := 36) hx hb dX7_against_31 (by decide) (fun c_2 => ?_) (fun c_2 => ?_)
    ·
      exact absurd c_1 c_2
    ·
      refine lv_iconst (v := 1) hx hb dX7_against_34 (by decide) ?_
      exact hret _ _ _ dX7_against_35 (by rw [agF, if_pos c_2])
  ·
    refine lv_aload_n hx hb dX7_against_11 rfl (lv_at hl 0 rfl) ?_
    refine va_get (D := E.1) (ci := 7) (v := .ref z0) (C := RX7) (T := TX7) (N := 23) hx hb hts hinX7 hown hK.1 hP 0 rfl rfl 2 (by decide) fl_9 (fun _ h9 => h9) rfl dX7_against_12 ?_
    refine lv_iload_n hx hb dX7_against_15 rfl (lv_at hl 1 rfl) ?_
    refine ild hx hb hK hP 1 rfl (j := j) rfl (by omega) (by decide) dX7_against_16 ?_
    refine lv_iload_n hx hb dX7_against_17 rfl (lv_at hl 2 rfl) ?_
    refine lv_icmp_eq (tgt := 23) hx hb dX7_against_18 (by decide) (fun c_3 => ?_) (fun c_3 => ?_)
    ·
      refine lv_aload_n hx hb dX7_against_23 rfl (lv_at hl 0 rfl) ?_
      refine va_get (D := E.1) (ci := 7) (v := .ref z0) (C := RX7) (T := TX7) (N := 23) hx hb hts hinX7 hown hK.1 hP 0 rfl rfl 2 (by decide) fl_9 (fun _ h9 => h9) rfl dX7_against_24 ?_
      refine lv_iload_n hx hb dX7_against_27 rfl (lv_at hl 1 rfl) ?_
      refine ild hx hb hK hP 1 rfl (j := j) rfl (by omega) (by decide) dX7_against_28 ?_
      refine lv_bipush (v := (-9)) hx hb dX7_against_29 (by decide) ?_
      refine lv_icmp_ne (tgt := 36) hx hb dX7_against_31 (by decide) (fun c_4 => ?_) (fun c_4 => ?_)
      ·
        refine lv_iload hx hb dX7_against_36 (lv_at hl 4 rfl) ?_
        refine lv_if_ge (tgt := 43) hx hb dX7_against_38 (by decide) (fun c_5 => ?_) (fun c_5 => ?_)
        ·
          have c_5b := Int32.not_lt.mpr c_5
          refine lv_iload_n hx hb dX7_against_43 rfl (lv_at hl 3 rfl) ?_
          refine lv_if_lt (tgt := 70) hx hb dX7_against_44 (by decide) (fun c_6 => ?_) (fun c_6 => ?_)
          ·
            have c_6b := Int32.not_le.mpr c_6
            refine lv_iconst (v := 3) hx hb dX7_against_70 (by decide) ?_
            refine lv_goto (tgt := 75) hx hb dX7_against_71 (by decide) ?_
            exact hret _ _ _ dX7_against_75 (by rw [agF, if_neg c_4, if_neg (not_not_intro c_3), if_neg c_5b, if_neg (fun h => h.1 c_6)])
          ·
            have c_6b := Int32.not_lt.mp c_6
            refine lv_iload_n hx hb dX7_against_47 rfl (lv_at hl 3 rfl) ?_
            refine lv_aload_n hx hb dX7_against_48 rfl (lv_at hl 0 rfl) ?_
            refine va_get (D := E.1) (ci := 7) (v := .ref z1) (C := RX7) (T := TX7) (N := 23) hx hb hts hinX7 hown hK.1 hP 0 rfl rfl 3 (by decide) fl_13 (fun _ h9 => h9) rfl dX7_against_49 ?_
            refine lv_iload_n hx hb dX7_against_52 rfl (lv_at hl 1 rfl) ?_
            refine ild hx hb hK hP 2 rfl (j := j) rfl (by omega) (by decide) dX7_against_53 ?_
            rw [hsg]
            refine lv_icmp_gt (tgt := 70) hx hb dX7_against_54 (by decide) (fun c_7 => ?_) (fun c_7 => ?_)
            ·
              have c_7b := Int32.not_le.mpr c_7
              refine lv_iconst (v := 3) hx hb dX7_against_70 (by decide) ?_
              refine lv_goto (tgt := 75) hx hb dX7_against_71 (by decide) ?_
              exact hret _ _ _ dX7_against_75 (by rw [agF, if_neg c_4, if_neg (not_not_intro c_3), if_neg c_5b, if_neg (fun h => h.2.1 c_7)])
            ·
              have c_7b := Int32.not_lt.mp c_7
              refine lv_iload hx hb dX7_against_57 (lv_at hl 4 rfl) ?_
              refine lv_aload_n hx hb dX7_against_59 rfl (lv_at hl 0 rfl) ?_
              refine va_get (D := E.1) (ci := 7) (v := .ref z1) (C := RX7) (T := TX7) (N := 23) hx hb hts hinX7 hown hK.1 hP 0 rfl rfl 3 (by decide) fl_13 (fun _ h9 => h9) rfl dX7_against_60 ?_
              refine lv_iload_n hx hb dX7_against_63 rfl (lv_at hl 1 rfl) ?_
              refine ild hx hb hK hP 2 rfl (j := j) rfl (by omega) (by decide) dX7_against_64 ?_
              rw [hsg]
              refine lv_iload_n hx hb dX7_against_65 rfl (lv_at hl 3 rfl) ?_
              refine lv_isub hx hb dX7_against_66 ?_
              refine lv_icmp_le (tgt := 74) hx hb dX7_against_67 (by decide) (fun c_8 => ?_) (fun c_8 => ?_)
              ·
                have c_8b := Int32.not_lt.mpr c_8
                refine lv_iconst (v := 0) hx hb dX7_against_74 (by decide) ?_
                exact hret _ _ _ dX7_against_75 (by rw [agF, if_neg c_4, if_neg (not_not_intro c_3), if_neg c_5b, if_pos ⟨c_6, c_7, c_5b, c_8b⟩])
              ·
                have c_8b := Int32.not_le.mp c_8
                refine lv_iconst (v := 3) hx hb dX7_against_70 (by decide) ?_
                refine lv_goto (tgt := 75) hx hb dX7_against_71 (by decide) ?_
                exact hret _ _ _ dX7_against_75 (by rw [agF, if_neg c_4, if_neg (not_not_intro c_3), if_neg c_5b, if_neg (fun h => h.2.2.2 c_8b)])
        ·
          have c_5b := Int32.not_le.mp c_5
          refine lv_iconst (v := 4) hx hb dX7_against_41 (by decide) ?_
          exact hret _ _ _ dX7_against_42 (by rw [agF, if_neg c_4, if_neg (not_not_intro c_3), if_pos c_5b])
      ·
        refine lv_iconst (v := 1) hx hb dX7_against_34 (by decide) ?_
        exact hret _ _ _ dX7_against_35 (by rw [agF, if_pos c_4])
    ·
      refine lv_iconst (v := 2) hx hb dX7_against_21 (by decide) ?_
      exact hret _ _ _ dX7_against_22 (by rw [agF, if_neg c_1, if_pos c_3])
set_option maxHeartbeats 4000000 in
set_option maxRecDepth 100000 in
theorem c_X7_roomOf (l : Launch) (E : gE) (m0 : Nat) (lf : Int32) (tr : Int32) (z0 : Nat) (z1 : Nat) (z2 : Nat) (n : Nat) (y0 : Nat) (y1 : Nat) (y2 : Nat) (at_ : Int32) (rwi : Int32) (y3 : Nat) (y4 : Nat) (sl : Int32) (cr : Int32) (gr : Int32) (y5 : Nat) (y6 : Nat) (rc : Nat) (x0 : Nat) (x1 : Nat) (x2 : Nat) (x3 : Nat) (kd : Nat → Int32) (mn : Nat → Int32) (w : Int32) (j : Nat) (hFR : FR n kd mn) (hj : j < n) (hwj : w = nI j) : Met l yX7_roomOf wsX7_roomOf ({ frames := 1, cells := 0, slots := 0, locals := 21 }) (PR E [.ref m0, .int w] [ob m0 7 [.int lf, .int tr, .ref z0, .ref z1, .ref z2, .int (nI n), .ref y0, .ref y1, .ref y2, .int at_, .int rwi, .ref y3, .ref y4, .int sl, .int cr, .int gr, .ref y5, .ref y6, .int (nI rc), .ref x0, .ref x1, .ref x2, .ref x3], ar E y0 6 kd, ar E y1 6 mn]) (vp_Si (fun r => r = roomF (kd j) (mn j))) 0 0 (fun _ => False) := by
  refine mkRi (cc := cX7_roomOf) (maxL := 2) (by decide) rfl (Nat.le_of_ble_eq_true rfl) ?_
  intro p e s m args below meth c QQ hx hb hml hown hmn hts hK hP hret ls hl
  have hown : s.vm.findClass RX7 = some m.cls := hown
  have hl : lv_has ls 2 [(0, .ref m0), (1, .int w)] := hl
  have hinX7 : ∀ w ∈ wsX70, w ∈ wsX7_roomOf := by decide +kernel
  have fl_19 := hts (.fieldLink RX7 19 "GuardAbacusModel" "kind" "[I") (by decide +kernel)
  have fl_22 := hts (.fieldLink RX7 22 "GuardAbacusModel" "men" "[I") (by decide +kernel)
  subst hwj
  have hn := hFR.1
  refine lv_aload_n hx hb dX7_roomOf_0 rfl (lv_at hl 0 rfl) ?_
  refine va_get (D := E.1) (ci := 7) (v := .ref y0) (C := RX7) (T := TX7) (N := 23) hx hb hts hinX7 hown hK.1 hP 0 rfl rfl 6 (by decide) fl_19 (fun _ h9 => h9) rfl dX7_roomOf_1 ?_
  refine lv_iload_n hx hb dX7_roomOf_4 rfl (lv_at hl 1 rfl) ?_
  refine ild hx hb hK hP 1 rfl (j := j) rfl (by omega) (by decide) dX7_roomOf_5 ?_
  refine lv_aload_n hx hb dX7_roomOf_6 rfl (lv_at hl 0 rfl) ?_
  refine va_get (D := E.1) (ci := 7) (v := .ref y1) (C := RX7) (T := TX7) (N := 23) hx hb hts hinX7 hown hK.1 hP 0 rfl rfl 7 (by decide) fl_22 (fun _ h9 => h9) rfl dX7_roomOf_7 ?_
  refine lv_iload_n hx hb dX7_roomOf_10 rfl (lv_at hl 1 rfl) ?_
  refine ild hx hb hK hP 2 rfl (j := j) rfl (by omega) (by decide) dX7_roomOf_11 ?_
  refine crS (As := [.int (kd j), .int (mn j)]) (rest := []) ⟨hx, hb, hml, hown, hts⟩ (c_X7_roomFor l E (kd j) (mn j) (hFR.2 j hj).1) (va_cwS 2 hts gX7_roomOf_X7_roomFor rfl rfl rfl (by decide +kernel) ⟨Nat.le_of_ble_eq_true rfl, Nat.le_of_ble_eq_true rfl⟩) hK hP [] rfl rfl hl.1 rfl (catLe (Nat.le_of_ble_eq_true rfl)) dX7_roomOf_12 ⟨Nat.zero_le _, Nat.zero_le _⟩ (fun r_1 hr_1 => ?_)
  subst hr_1
  exact hret _ _ _ dX7_roomOf_15 rfl
set_option maxHeartbeats 4000000 in
set_option maxRecDepth 100000 in
theorem c_X7_worthOf (l : Launch) (E : gE) (m0 : Nat) (lf : Int32) (tr : Int32) (z0 : Nat) (z1 : Nat) (z2 : Nat) (n : Nat) (y0 : Nat) (y1 : Nat) (y2 : Nat) (at_ : Int32) (rwi : Int32) (y3 : Nat) (y4 : Nat) (sl : Int32) (cr : Int32) (gr : Int32) (y5 : Nat) (y6 : Nat) (rc : Nat) (x0 : Nat) (x1 : Nat) (x2 : Nat) (x3 : Nat) (kd : Nat → Int32) (mn : Nat → Int32) (q : Nat) (hFR : FR n kd mn) (hq : q ≤ n) : Met l yX7_worthOf wsX7_worthOf ({ frames := 2, cells := 0, slots := 0, locals := 42 }) (PR E [.ref m0, .int (nI q)] [ob m0 7 [.int lf, .int tr, .ref z0, .ref z1, .ref z2, .int (nI n), .ref y0, .ref y1, .ref y2, .int at_, .int rwi, .ref y3, .ref y4, .int sl, .int cr, .int gr, .ref y5, .ref y6, .int (nI rc), .ref x0, .ref x1, .ref x2, .ref x3], ar E y0 6 kd, ar E y1 6 mn]) (vp_Si (fun r => r = woF kd mn q)) 0 0 (fun _ => False) := by
  refine mkRi (cc := cX7_worthOf) (maxL := 4) (by decide) rfl (Nat.le_of_ble_eq_true rfl) ?_
  intro p e s m args below meth c QQ hx hb hml hown hmn hts hK hP hret ls hl
  have hown : s.vm.findClass RX7 = some m.cls := hown
  have hl : lv_has ls 4 [(0, .ref m0), (1, .int (nI q))] := hl
  have hn := hFR.1
  refine lv_iconst (v := 1) hx hb dX7_worthOf_0 (by decide) ?_
  refine lv_istore_n (lv' := [(2, .int 1), (0, .ref m0), (1, .int (nI q))]) hx hb dX7_worthOf_1 rfl hl (by decide) rfl (fun ls hl => ?_)
  refine lv_iconst (v := 0) hx hb dX7_worthOf_2 (by decide) ?_
  refine lv_istore_n (lv' := [(3, .int 0), (2, .int 1), (0, .ref m0), (1, .int (nI q))]) hx hb dX7_worthOf_3 rfl hl (by decide) rfl (fun ls hl => ?_)
  have L4 : ∀ (fuel : Nat) (k : Nat), (k ≤ q) → (q - k) < fuel → ∀ ls : Array Slot, lv_has ls 4 [(3, .int (nI k)), (2, .int (woF kd mn k)), (0, .ref m0), (1, .int (nI q))] → W p l e ({ frames := 2, cells := 0, slots := 0, locals := 42 }) s m args below meth c s.heap [] 0 0 QQ (F0 m 4 ls []) := by
    intro fuel
    induction fuel with
    | zero => intro k hk hf; exact absurd hf (Nat.not_lt_zero _)
    | succ fuel ih4 =>
      intro k hk hf4 ls hl
      refine lv_iload_n hx hb dX7_worthOf_4 rfl (lv_at hl 0 rfl) ?_
      refine lv_iload_n hx hb dX7_worthOf_5 rfl (lv_at hl 3 rfl) ?_
      refine icmpN_ge (tgt := 25) (a := k) (b := q) hx hb rfl rfl (by omega) (by omega) dX7_worthOf_6 (by decide) (fun c_1 => ?_) (fun c_1 => ?_)
      ·
        obtain rfl : q = k := by omega
        refine lv_iload_n hx hb dX7_worthOf_25 rfl (lv_at hl 1 rfl) ?_
        exact hret _ _ _ dX7_worthOf_26 rfl
      ·
        refine lv_iload_n hx hb dX7_worthOf_9 rfl (lv_at hl 1 rfl) ?_
        refine lv_aload_n hx hb dX7_worthOf_10 rfl (lv_at hl 2 rfl) ?_
        refine lv_iload_n hx hb dX7_worthOf_11 rfl (lv_at hl 0 rfl) ?_
        refine crV (As := [.int (nI k)]) (rest := [.int (woF kd mn k)]) ⟨hx, hb, hml, hown, hts⟩ (c_X7_roomOf l E m0 lf tr z0 z1 z2 n y0 y1 y2 at_ rwi y3 y4 sl cr gr y5 y6 rc x0 x1 x2 x3 kd mn (nI k) k (by first | assumption | omega) (by first | assumption | omega) rfl) (cwV 1 hts gX7_worthOf_X7_roomOf rfl rfl rfl (by decide +kernel) ⟨Nat.le_of_ble_eq_true rfl, Nat.le_of_ble_eq_true rfl⟩) hK hP [0, 1, 2] rfl 0 rfl rfl rfl rfl hl.1 rfl (catLe (Nat.le_of_ble_eq_true rfl)) dX7_worthOf_12 ⟨Nat.zero_le _, Nat.zero_le _⟩ (fun r_2 hr_2 => ?_)
        subst hr_2
        refine lv_iconst (v := 1) hx hb dX7_worthOf_15 (by decide) ?_
        refine lv_iadd hx hb dX7_worthOf_16 ?_
        refine lv_imul hx hb dX7_worthOf_17 ?_
        refine lv_istore_n (lv' := [(2, .int ((woF kd mn k) * ((roomF (kd k) (mn k)) + 1))), (3, .int (nI k)), (0, .ref m0), (1, .int (nI q))]) hx hb dX7_worthOf_18 rfl hl (by decide) rfl (fun ls hl => ?_)
        refine lv_iinc (v := nI (k + 1)) (lv' := [(3, .int (nI (k + 1))), (2, .int ((woF kd mn k) * ((roomF (kd k) (mn k)) + 1))), (0, .ref m0), (1, .int (nI q))]) hx hb dX7_worthOf_19 hl (k := 1) rfl (nI_inc k) (by decide) rfl (fun ls hl => ?_)
        refine lv_goto (tgt := 4) hx hb dX7_worthOf_22 (by decide) ?_
        exact ih4 (k + 1) (by omega) (by omega) ls (lv_sub hl [0, 1, 2, 3] rfl)
  exact L4 _ 0 (by omega) (Nat.lt_succ_self _) ls (lv_sub hl [0, 1, 2, 3] rfl)
set_option maxHeartbeats 4000000 in
set_option maxRecDepth 100000 in
theorem c_X7_mostOf (l : Launch) (E : gE) (m0 : Nat) (lf : Int32) (tr : Int32) (z0 : Nat) (z1 : Nat) (z2 : Nat) (n : Nat) (y0 : Nat) (y1 : Nat) (y2 : Nat) (at_ : Int32) (rwi : Int32) (y3 : Nat) (y4 : Nat) (sl : Int32) (cr : Int32) (gr : Int32) (y5 : Nat) (y6 : Nat) (rc : Nat) (x0 : Nat) (x1 : Nat) (x2 : Nat) (x3 : Nat) (kd : Nat → Int32) (mn : Nat → Int32) (hFR : FR n kd mn) : Met l yX7_mostOf wsX7_mostOf ({ frames := 3, cells := 0, slots := 0, locals := 65 }) (PR E [.ref m0] [ob m0 7 [.int lf, .int tr, .ref z0, .ref z1, .ref z2, .int (nI n), .ref y0, .ref y1, .ref y2, .int at_, .int rwi, .ref y3, .ref y4, .int sl, .int cr, .int gr, .ref y5, .ref y6, .int (nI rc), .ref x0, .ref x1, .ref x2, .ref x3], ar E y0 6 kd, ar E y1 6 mn]) (vp_Si (fun r => r = woF kd mn n - 1)) 0 0 (fun _ => False) := by
  refine mkRi (cc := cX7_mostOf) (maxL := 1) (by decide) rfl (Nat.le_of_ble_eq_true rfl) ?_
  intro p e s m args below meth c QQ hx hb hml hown hmn hts hK hP hret ls hl
  have hown : s.vm.findClass RX7 = some m.cls := hown
  have hl : lv_has ls 1 [(0, .ref m0)] := hl
  have hinX7 : ∀ w ∈ wsX70, w ∈ wsX7_mostOf := by decide +kernel
  have fl_62 := hts (.fieldLink RX7 62 "GuardAbacusModel" "wires" "I") (by decide +kernel)
  refine lv_aload_n hx hb dX7_mostOf_0 rfl (lv_at hl 0 rfl) ?_
  refine lv_aload_n hx hb dX7_mostOf_1 rfl (lv_at hl 0 rfl) ?_
  refine va_get (D := E.1) (ci := 7) (v := .int (nI n)) (C := RX7) (T := TX7) (N := 23) hx hb hts hinX7 hown hK.1 hP 0 rfl rfl 5 (by decide) fl_62 (fun _ h9 => h9) rfl dX7_mostOf_2 ?_
  refine crV (As := [.int (nI n)]) (rest := []) ⟨hx, hb, hml, hown, hts⟩ (c_X7_worthOf l E m0 lf tr z0 z1 z2 n y0 y1 y2 at_ rwi y3 y4 sl cr gr y5 y6 rc x0 x1 x2 x3 kd mn n (by first | assumption | omega) (Nat.le_refl _)) (cwV 1 hts gX7_mostOf_X7_worthOf rfl rfl rfl (by decide +kernel) ⟨Nat.le_of_ble_eq_true rfl, Nat.le_of_ble_eq_true rfl⟩) hK hP [0, 1, 2] rfl 0 rfl rfl rfl rfl hl.1 rfl (catLe (Nat.le_of_ble_eq_true rfl)) dX7_mostOf_5 ⟨Nat.zero_le _, Nat.zero_le _⟩ (fun r_1 hr_1 => ?_)
  subst hr_1
  refine lv_iconst (v := 1) hx hb dX7_mostOf_8 (by decide) ?_
  refine lv_isub hx hb dX7_mostOf_9 ?_
  exact hret _ _ _ dX7_mostOf_10 rfl
set_option maxHeartbeats 4000000 in
set_option maxRecDepth 100000 in
theorem c_X7_numberNow (l : Launch) (E : gE) (m0 : Nat) (lf : Int32) (tr : Int32) (z0 : Nat) (z1 : Nat) (z2 : Nat) (n : Nat) (y0 : Nat) (y1 : Nat) (y2 : Nat) (at_ : Int32) (rwi : Int32) (y3 : Nat) (y4 : Nat) (sl : Int32) (cr : Int32) (gr : Int32) (y5 : Nat) (y6 : Nat) (rc : Nat) (x0 : Nat) (x1 : Nat) (x2 : Nat) (x3 : Nat) (kd : Nat → Int32) (mn : Nat → Int32) (pu : Nat → Int32) (hFR : FR n kd mn) : Met l yX7_numberNow wsX7_numberNow ({ frames := 3, cells := 0, slots := 0, locals := 65 }) (PR E [.ref m0] [ob m0 7 [.int lf, .int tr, .ref z0, .ref z1, .ref z2, .int (nI n), .ref y0, .ref y1, .ref y2, .int at_, .int rwi, .ref y3, .ref y4, .int sl, .int cr, .int gr, .ref y5, .ref y6, .int (nI rc), .ref x0, .ref x1, .ref x2, .ref x3], ar E y0 6 kd, ar E y1 6 mn, ar E y2 6 pu]) (vp_Si (fun r => r = numF pu (woF kd mn) n)) 0 0 (fun _ => False) := by
  refine mkRi (cc := cX7_numberNow) (maxL := 3) (by decide) rfl (Nat.le_of_ble_eq_true rfl) ?_
  intro p e s m args below meth c QQ hx hb hml hown hmn hts hK hP hret ls hl
  have hown : s.vm.findClass RX7 = some m.cls := hown
  have hl : lv_has ls 3 [(0, .ref m0)] := hl
  have hinX7 : ∀ w ∈ wsX70, w ∈ wsX7_numberNow := by decide +kernel
  have fl_25 := hts (.fieldLink RX7 25 "GuardAbacusModel" "pushed" "[I") (by decide +kernel)
  have fl_62 := hts (.fieldLink RX7 62 "GuardAbacusModel" "wires" "I") (by decide +kernel)
  have hn := hFR.1
  refine lv_iconst (v := 0) hx hb dX7_numberNow_0 (by decide) ?_
  refine lv_istore_n (lv' := [(1, .int 0), (0, .ref m0)]) hx hb dX7_numberNow_1 rfl hl (by decide) rfl (fun ls hl => ?_)
  refine lv_iconst (v := 0) hx hb dX7_numberNow_2 (by decide) ?_
  refine lv_istore_n (lv' := [(2, .int 0), (1, .int 0), (0, .ref m0)]) hx hb dX7_numberNow_3 rfl hl (by decide) rfl (fun ls hl => ?_)
  have L4 : ∀ (fuel : Nat) (k : Nat), (k ≤ n) → (n - k) < fuel → ∀ ls : Array Slot, lv_has ls 3 [(2, .int (nI k)), (1, .int (numF pu (woF kd mn) k)), (0, .ref m0)] → W p l e ({ frames := 3, cells := 0, slots := 0, locals := 65 }) s m args below meth c s.heap [] 0 0 QQ (F0 m 4 ls []) := by
    intro fuel
    induction fuel with
    | zero => intro k hk hf; exact absurd hf (Nat.not_lt_zero _)
    | succ fuel ih4 =>
      intro k hk hf4 ls hl
      refine lv_iload_n hx hb dX7_numberNow_4 rfl (lv_at hl 0 rfl) ?_
      refine lv_aload_n hx hb dX7_numberNow_5 rfl (lv_at hl 2 rfl) ?_
      refine va_get (D := E.1) (ci := 7) (v := .int (nI n)) (C := RX7) (T := TX7) (N := 23) hx hb hts hinX7 hown hK.1 hP 0 rfl rfl 5 (by decide) fl_62 (fun _ h9 => h9) rfl dX7_numberNow_6 ?_
      refine icmpN_ge (tgt := 33) (a := k) (b := n) hx hb rfl rfl (by omega) (by omega) dX7_numberNow_9 (by decide) (fun c_1 => ?_) (fun c_1 => ?_)
      ·
        obtain rfl : n = k := by omega
        refine lv_iload_n hx hb dX7_numberNow_33 rfl (lv_at hl 1 rfl) ?_
        exact hret _ _ _ dX7_numberNow_34 rfl
      ·
        refine lv_iload_n hx hb dX7_numberNow_12 rfl (lv_at hl 1 rfl) ?_
        refine lv_aload_n hx hb dX7_numberNow_13 rfl (lv_at hl 2 rfl) ?_
        refine va_get (D := E.1) (ci := 7) (v := .ref y2) (C := RX7) (T := TX7) (N := 23) hx hb hts hinX7 hown hK.1 hP 0 rfl rfl 8 (by decide) fl_25 (fun _ h9 => h9) rfl dX7_numberNow_14 ?_
        refine lv_iload_n hx hb dX7_numberNow_17 rfl (lv_at hl 0 rfl) ?_
        refine ild hx hb hK hP 3 rfl (j := k) rfl (by omega) (by decide) dX7_numberNow_18 ?_
        refine lv_aload_n hx hb dX7_numberNow_19 rfl (lv_at hl 2 rfl) ?_
        refine lv_iload_n hx hb dX7_numberNow_20 rfl (lv_at hl 0 rfl) ?_
        refine crV (As := [.int (nI k)]) (rest := [.int (pu k), .int (numF pu (woF kd mn) k)]) ⟨hx, hb, hml, hown, hts⟩ (c_X7_worthOf l E m0 lf tr z0 z1 z2 n y0 y1 y2 at_ rwi y3 y4 sl cr gr y5 y6 rc x0 x1 x2 x3 kd mn k (by first | assumption | omega) (by first | assumption | omega)) (cwV 1 hts gX7_numberNow_X7_worthOf rfl rfl rfl (by decide +kernel) ⟨Nat.le_of_ble_eq_true rfl, Nat.le_of_ble_eq_true rfl⟩) hK hP [0, 1, 2] rfl 0 rfl rfl rfl rfl hl.1 rfl (catLe (Nat.le_of_ble_eq_true rfl)) dX7_numberNow_21 ⟨Nat.zero_le _, Nat.zero_le _⟩ (fun r_2 hr_2 => ?_)
        subst hr_2
        refine lv_imul hx hb dX7_numberNow_24 ?_
        refine lv_iadd hx hb dX7_numberNow_25 ?_
        refine lv_istore_n (lv' := [(1, .int ((numF pu (woF kd mn) k) + ((pu k) * (woF kd mn k)))), (2, .int (nI k)), (0, .ref m0)]) hx hb dX7_numberNow_26 rfl hl (by decide) rfl (fun ls hl => ?_)
        refine lv_iinc (v := nI (k + 1)) (lv' := [(2, .int (nI (k + 1))), (1, .int ((numF pu (woF kd mn) k) + ((pu k) * (woF kd mn k)))), (0, .ref m0)]) hx hb dX7_numberNow_27 hl (k := 1) rfl (nI_inc k) (by decide) rfl (fun ls hl => ?_)
        refine lv_goto (tgt := 4) hx hb dX7_numberNow_30 (by decide) ?_
        exact ih4 (k + 1) (by omega) (by omega) ls (lv_sub hl [0, 1, 2] rfl)
  exact L4 _ 0 (by omega) (Nat.lt_succ_self _) ls (lv_sub hl [0, 1, 2] rfl)
set_option maxHeartbeats 4000000 in
set_option maxRecDepth 100000 in
theorem c_X7_figureOf (l : Launch) (E : gE) (m0 : Nat) (lf : Int32) (tr : Int32) (z0 : Nat) (z1 : Nat) (z2 : Nat) (n : Nat) (y0 : Nat) (y1 : Nat) (y2 : Nat) (at_ : Int32) (rwi : Int32) (y3 : Nat) (y4 : Nat) (sl : Int32) (cr : Int32) (gr : Int32) (y5 : Nat) (y6 : Nat) (rc : Nat) (x0 : Nat) (x1 : Nat) (x2 : Nat) (x3 : Nat) (kd : Nat → Int32) (mn : Nat → Int32) (w : Int32) (j : Nat) (v : Int32) (hFR : FR n kd mn) (hj : j < n) (hwj : w = nI j) : Met l yX7_figureOf wsX7_figureOf ({ frames := 3, cells := 0, slots := 0, locals := 65 }) (PR E [.ref m0, .int w, .int v] [ob m0 7 [.int lf, .int tr, .ref z0, .ref z1, .ref z2, .int (nI n), .ref y0, .ref y1, .ref y2, .int at_, .int rwi, .ref y3, .ref y4, .int sl, .int cr, .int gr, .ref y5, .ref y6, .int (nI rc), .ref x0, .ref x1, .ref x2, .ref x3], ar E y0 6 kd, ar E y1 6 mn]) (vp_Si (fun r => r = figF (woF kd mn j) (rmF kd mn j) v)) 0 0 (fun _ => False) := by
  refine mkRi (cc := cX7_figureOf) (maxL := 3) (by decide) rfl (Nat.le_of_ble_eq_true rfl) ?_
  intro p e s m args below meth c QQ hx hb hml hown hmn hts hK hP hret ls hl
  have hown : s.vm.findClass RX7 = some m.cls := hown
  have hl : lv_has ls 3 [(0, .ref m0), (1, .int w), (2, .int v)] := hl
  subst hwj
  have hn := hFR.1
  have hgj := (hFR.WG (ro := rmF kd mn) (wo := woF kd mn) (fun _ _ => rfl) (fun _ _ => rfl)).2 j hj
  refine lv_iload_n hx hb dX7_figureOf_0 rfl (lv_at hl 2 rfl) ?_
  refine lv_aload_n hx hb dX7_figureOf_1 rfl (lv_at hl 0 rfl) ?_
  refine lv_iload_n hx hb dX7_figureOf_2 rfl (lv_at hl 1 rfl) ?_
  refine crV (As := [.int (nI j)]) (rest := [.int v]) ⟨hx, hb, hml, hown, hts⟩ (c_X7_worthOf l E m0 lf tr z0 z1 z2 n y0 y1 y2 at_ rwi y3 y4 sl cr gr y5 y6 rc x0 x1 x2 x3 kd mn j (by first | assumption | omega) (by first | assumption | omega)) (cwV 1 hts gX7_figureOf_X7_worthOf rfl rfl rfl (by decide +kernel) ⟨Nat.le_of_ble_eq_true rfl, Nat.le_of_ble_eq_true rfl⟩) hK hP [0, 1, 2] rfl 0 rfl rfl rfl rfl hl.1 rfl (catLe (Nat.le_of_ble_eq_true rfl)) dX7_figureOf_3 ⟨Nat.zero_le _, Nat.zero_le _⟩ (fun r_1 hr_1 => ?_)
  subst hr_1
  refine lv_idiv hx hb dX7_figureOf_6 (pos_ne hgj.1) ?_
  refine lv_aload_n hx hb dX7_figureOf_7 rfl (lv_at hl 0 rfl) ?_
  refine lv_iload_n hx hb dX7_figureOf_8 rfl (lv_at hl 1 rfl) ?_
  refine crV (As := [.int (nI j)]) (rest := [.int (v / (woF kd mn j))]) ⟨hx, hb, hml, hown, hts⟩ (c_X7_roomOf l E m0 lf tr z0 z1 z2 n y0 y1 y2 at_ rwi y3 y4 sl cr gr y5 y6 rc x0 x1 x2 x3 kd mn (nI j) j (by first | assumption | omega) (by first | assumption | omega) rfl) (cwV 1 hts gX7_figureOf_X7_roomOf rfl rfl rfl (by decide +kernel) ⟨Nat.le_of_ble_eq_true rfl, Nat.le_of_ble_eq_true rfl⟩) hK hP [0, 1, 2] rfl 0 rfl rfl rfl rfl hl.1 rfl (catLe (Nat.le_of_ble_eq_true rfl)) dX7_figureOf_9 ⟨Nat.zero_le _, Nat.zero_le _⟩ (fun r_2 hr_2 => ?_)
  subst hr_2
  refine lv_iconst (v := 1) hx hb dX7_figureOf_12 (by decide) ?_
  refine lv_iadd hx hb dX7_figureOf_13 ?_
  refine lv_irem hx hb dX7_figureOf_14 hgj.2.2 ?_
  exact hret _ _ _ dX7_figureOf_15 rfl
set_option maxHeartbeats 4000000 in
set_option maxRecDepth 100000 in
theorem c_X7_allPushed (l : Launch) (E : gE) (m0 : Nat) (lf : Int32) (tr : Int32) (z0 : Nat) (z1 : Nat) (z2 : Nat) (n : Nat) (y0 : Nat) (y1 : Nat) (y2 : Nat) (at_ : Int32) (rwi : Int32) (y3 : Nat) (y4 : Nat) (sl : Int32) (cr : Int32) (gr : Int32) (y5 : Nat) (y6 : Nat) (rc : Nat) (x0 : Nat) (x1 : Nat) (x2 : Nat) (x3 : Nat) (pu : Nat → Int32) (hn : n ≤ 6) : Met l yX7_allPushed wsX7_allPushed ({ frames := 0, cells := 0, slots := 0, locals := 0 }) (PR E [.ref m0] [ob m0 7 [.int lf, .int tr, .ref z0, .ref z1, .ref z2, .int (nI n), .ref y0, .ref y1, .ref y2, .int at_, .int rwi, .ref y3, .ref y4, .int sl, .int cr, .int gr, .ref y5, .ref y6, .int (nI rc), .ref x0, .ref x1, .ref x2, .ref x3], ar E y2 6 pu]) (vp_Si (fun r => r = sumF pu n)) 0 0 (fun _ => False) := by
  refine mkRi (cc := cX7_allPushed) (maxL := 3) (by decide) rfl (Nat.le_of_ble_eq_true rfl) ?_
  intro p e s m args below meth c QQ hx hb hml hown hmn hts hK hP hret ls hl
  have hown : s.vm.findClass RX7 = some m.cls := hown
  have hl : lv_has ls 3 [(0, .ref m0)] := hl
  have hinX7 : ∀ w ∈ wsX70, w ∈ wsX7_allPushed := by decide +kernel
  have fl_25 := hts (.fieldLink RX7 25 "GuardAbacusModel" "pushed" "[I") (by decide +kernel)
  have fl_62 := hts (.fieldLink RX7 62 "GuardAbacusModel" "wires" "I") (by decide +kernel)
  refine lv_iconst (v := 0) hx hb dX7_allPushed_0 (by decide) ?_
  refine lv_istore_n (lv' := [(1, .int 0), (0, .ref m0)]) hx hb dX7_allPushed_1 rfl hl (by decide) rfl (fun ls hl => ?_)
  refine lv_iconst (v := 0) hx hb dX7_allPushed_2 (by decide) ?_
  refine lv_istore_n (lv' := [(2, .int 0), (1, .int 0), (0, .ref m0)]) hx hb dX7_allPushed_3 rfl hl (by decide) rfl (fun ls hl => ?_)
  have L4 : ∀ (fuel : Nat) (k : Nat), (k ≤ n) → (n - k) < fuel → ∀ ls : Array Slot, lv_has ls 3 [(2, .int (nI k)), (1, .int (sumF pu k)), (0, .ref m0)] → W p l e ({ frames := 0, cells := 0, slots := 0, locals := 0 }) s m args below meth c s.heap [] 0 0 QQ (F0 m 4 ls []) := by
    intro fuel
    induction fuel with
    | zero => intro k hk hf; exact absurd hf (Nat.not_lt_zero _)
    | succ fuel ih4 =>
      intro k hk hf4 ls hl
      refine lv_iload_n hx hb dX7_allPushed_4 rfl (lv_at hl 0 rfl) ?_
      refine lv_aload_n hx hb dX7_allPushed_5 rfl (lv_at hl 2 rfl) ?_
      refine va_get (D := E.1) (ci := 7) (v := .int (nI n)) (C := RX7) (T := TX7) (N := 23) hx hb hts hinX7 hown hK.1 hP 0 rfl rfl 5 (by decide) fl_62 (fun _ h9 => h9) rfl dX7_allPushed_6 ?_
      refine icmpN_ge (tgt := 27) (a := k) (b := n) hx hb rfl rfl (by omega) (by omega) dX7_allPushed_9 (by decide) (fun c_1 => ?_) (fun c_1 => ?_)
      ·
        obtain rfl : n = k := by omega
        refine lv_iload_n hx hb dX7_allPushed_27 rfl (lv_at hl 1 rfl) ?_
        exact hret _ _ _ dX7_allPushed_28 rfl
      ·
        refine lv_iload_n hx hb dX7_allPushed_12 rfl (lv_at hl 1 rfl) ?_
        refine lv_aload_n hx hb dX7_allPushed_13 rfl (lv_at hl 2 rfl) ?_
        refine va_get (D := E.1) (ci := 7) (v := .ref y2) (C := RX7) (T := TX7) (N := 23) hx hb hts hinX7 hown hK.1 hP 0 rfl rfl 8 (by decide) fl_25 (fun _ h9 => h9) rfl dX7_allPushed_14 ?_
        refine lv_iload_n hx hb dX7_allPushed_17 rfl (lv_at hl 0 rfl) ?_
        refine ild hx hb hK hP 1 rfl (j := k) rfl (by omega) (by decide) dX7_allPushed_18 ?_
        refine lv_iadd hx hb dX7_allPushed_19 ?_
        refine lv_istore_n (lv' := [(1, .int ((sumF pu k) + (pu k))), (2, .int (nI k)), (0, .ref m0)]) hx hb dX7_allPushed_20 rfl hl (by decide) rfl (fun ls hl => ?_)
        refine lv_iinc (v := nI (k + 1)) (lv' := [(2, .int (nI (k + 1))), (1, .int ((sumF pu k) + (pu k))), (0, .ref m0)]) hx hb dX7_allPushed_21 hl (k := 1) rfl (nI_inc k) (by decide) rfl (fun ls hl => ?_)
        refine lv_goto (tgt := 4) hx hb dX7_allPushed_24 (by decide) ?_
        exact ih4 (k + 1) (by omega) (by omega) ls (lv_sub hl [0, 1, 2] rfl)
  exact L4 _ 0 (by omega) (Nat.lt_succ_self _) ls (lv_sub hl [0, 1, 2] rfl)
set_option maxHeartbeats 4000000 in
set_option maxRecDepth 100000 in
theorem c_X7_slidBetween (l : Launch) (E : gE) (m0 : Nat) (lf : Int32) (tr : Int32) (z0 : Nat) (z1 : Nat) (z2 : Nat) (n : Nat) (y0 : Nat) (y1 : Nat) (y2 : Nat) (at_ : Int32) (rwi : Int32) (y3 : Nat) (y4 : Nat) (sl : Int32) (cr : Int32) (gr : Int32) (y5 : Nat) (y6 : Nat) (rc : Nat) (x0 : Nat) (x1 : Nat) (x2 : Nat) (x3 : Nat) (kd : Nat → Int32) (mn : Nat → Int32) (va : Int32) (vb : Int32) (hFR : FR n kd mn) : Met l yX7_slidBetween wsX7_slidBetween ({ frames := 4, cells := 0, slots := 0, locals := 87 }) (PR E [.ref m0, .int va, .int vb] [ob m0 7 [.int lf, .int tr, .ref z0, .ref z1, .ref z2, .int (nI n), .ref y0, .ref y1, .ref y2, .int at_, .int rwi, .ref y3, .ref y4, .int sl, .int cr, .int gr, .ref y5, .ref y6, .int (nI rc), .ref x0, .ref x1, .ref x2, .ref x3], ar E y0 6 kd, ar E y1 6 mn]) (vp_Si (fun r => r = slF (rmF kd mn) (woF kd mn) va vb n)) 0 0 (fun _ => False) := by
  refine mkRi (cc := cX7_slidBetween) (maxL := 5) (by decide) rfl (Nat.le_of_ble_eq_true rfl) ?_
  intro p e s m args below meth c QQ hx hb hml hown hmn hts hK hP hret ls hl
  have hown : s.vm.findClass RX7 = some m.cls := hown
  have hl : lv_has ls 5 [(0, .ref m0), (1, .int va), (2, .int vb)] := hl
  have hinX7 : ∀ w ∈ wsX70, w ∈ wsX7_slidBetween := by decide +kernel
  have fl_62 := hts (.fieldLink RX7 62 "GuardAbacusModel" "wires" "I") (by decide +kernel)
  have hn := hFR.1
  refine lv_iconst (v := 0) hx hb dX7_slidBetween_0 (by decide) ?_
  refine lv_istore_n (lv' := [(3, .int 0), (0, .ref m0), (1, .int va), (2, .int vb)]) hx hb dX7_slidBetween_1 rfl hl (by decide) rfl (fun ls hl => ?_)
  refine lv_iconst (v := 0) hx hb dX7_slidBetween_2 (by decide) ?_
  refine lv_istore (lv' := [(4, .int 0), (3, .int 0), (0, .ref m0), (1, .int va), (2, .int vb)]) hx hb dX7_slidBetween_3 hl (by decide) rfl (fun ls hl => ?_)
  have L5 : ∀ (fuel : Nat) (k : Nat), (k ≤ n) → (n - k) < fuel → ∀ ls : Array Slot, lv_has ls 5 [(4, .int (nI k)), (3, .int (slF (rmF kd mn) (woF kd mn) va vb k)), (0, .ref m0), (1, .int va), (2, .int vb)] → W p l e ({ frames := 4, cells := 0, slots := 0, locals := 87 }) s m args below meth c s.heap [] 0 0 QQ (F0 m 5 ls []) := by
    intro fuel
    induction fuel with
    | zero => intro k hk hf; exact absurd hf (Nat.not_lt_zero _)
    | succ fuel ih5 =>
      intro k hk hf5 ls hl
      refine lv_iload hx hb dX7_slidBetween_5 (lv_at hl 0 rfl) ?_
      refine lv_aload_n hx hb dX7_slidBetween_7 rfl (lv_at hl 2 rfl) ?_
      refine va_get (D := E.1) (ci := 7) (v := .int (nI n)) (C := RX7) (T := TX7) (N := 23) hx hb hts hinX7 hown hK.1 hP 0 rfl rfl 5 (by decide) fl_62 (fun _ h9 => h9) rfl dX7_slidBetween_8 ?_
      refine icmpN_ge (tgt := 40) (a := k) (b := n) hx hb rfl rfl (by omega) (by omega) dX7_slidBetween_11 (by decide) (fun c_1 => ?_) (fun c_1 => ?_)
      ·
        obtain rfl : n = k := by omega
        refine lv_iload_n hx hb dX7_slidBetween_40 rfl (lv_at hl 1 rfl) ?_
        exact hret _ _ _ dX7_slidBetween_41 rfl
      ·
        refine lv_iload_n hx hb dX7_slidBetween_14 rfl (lv_at hl 1 rfl) ?_
        refine lv_aload_n hx hb dX7_slidBetween_15 rfl (lv_at hl 2 rfl) ?_
        refine lv_iload hx hb dX7_slidBetween_16 (lv_at hl 0 rfl) ?_
        refine lv_iload_n hx hb dX7_slidBetween_18 rfl (lv_at hl 3 rfl) ?_
        refine crV (As := [.int (nI k), .int va]) (rest := [.int (slF (rmF kd mn) (woF kd mn) va vb k)]) ⟨hx, hb, hml, hown, hts⟩ (c_X7_figureOf l E m0 lf tr z0 z1 z2 n y0 y1 y2 at_ rwi y3 y4 sl cr gr y5 y6 rc x0 x1 x2 x3 kd mn (nI k) k va (by first | assumption | omega) (by first | assumption | omega) rfl) (cwV 2 hts gX7_slidBetween_X7_figureOf rfl rfl rfl (by decide +kernel) ⟨Nat.le_of_ble_eq_true rfl, Nat.le_of_ble_eq_true rfl⟩) hK hP [0, 1, 2] rfl 0 rfl rfl rfl rfl hl.1 rfl (catLe (Nat.le_of_ble_eq_true rfl)) dX7_slidBetween_19 ⟨Nat.zero_le _, Nat.zero_le _⟩ (fun r_2 hr_2 => ?_)
        subst hr_2
        refine lv_aload_n hx hb dX7_slidBetween_22 rfl (lv_at hl 2 rfl) ?_
        refine lv_iload hx hb dX7_slidBetween_23 (lv_at hl 0 rfl) ?_
        refine lv_iload_n hx hb dX7_slidBetween_25 rfl (lv_at hl 4 rfl) ?_
        refine crV (As := [.int (nI k), .int vb]) (rest := [.int (figF (woF kd mn k) (rmF kd mn k) va), .int (slF (rmF kd mn) (woF kd mn) va vb k)]) ⟨hx, hb, hml, hown, hts⟩ (c_X7_figureOf l E m0 lf tr z0 z1 z2 n y0 y1 y2 at_ rwi y3 y4 sl cr gr y5 y6 rc x0 x1 x2 x3 kd mn (nI k) k vb (by first | assumption | omega) (by first | assumption | omega) rfl) (cwV 2 hts gX7_slidBetween_X7_figureOf rfl rfl rfl (by decide +kernel) ⟨Nat.le_of_ble_eq_true rfl, Nat.le_of_ble_eq_true rfl⟩) hK hP [0, 1, 2] rfl 0 rfl rfl rfl rfl hl.1 rfl (catLe (Nat.le_of_ble_eq_true rfl)) dX7_slidBetween_26 ⟨Nat.zero_le _, Nat.zero_le _⟩ (fun r_3 hr_3 => ?_)
        subst hr_3
        refine crS (As := [.int (figF (woF kd mn k) (rmF kd mn k) va), .int (figF (woF kd mn k) (rmF kd mn k) vb)]) (rest := [.int (slF (rmF kd mn) (woF kd mn) va vb k)]) ⟨hx, hb, hml, hown, hts⟩ (c_X7_apart l E (figF (woF kd mn k) (rmF kd mn k) va) (figF (woF kd mn k) (rmF kd mn k) vb)) (va_cwS 2 hts gX7_slidBetween_X7_apart rfl rfl rfl (by decide +kernel) ⟨Nat.le_of_ble_eq_true rfl, Nat.le_of_ble_eq_true rfl⟩) hK hP [] rfl rfl hl.1 rfl (catLe (Nat.le_of_ble_eq_true rfl)) dX7_slidBetween_29 ⟨Nat.zero_le _, Nat.zero_le _⟩ (fun r_4 hr_4 => ?_)
        subst hr_4
        rw [apF_abs (hFR.fig (w := k) (by omega) _ _) (hFR.fig (w := k) (by omega) _ _)]
        refine lv_iadd hx hb dX7_slidBetween_32 ?_
        refine lv_istore_n (lv' := [(3, .int ((slF (rmF kd mn) (woF kd mn) va vb k) + (absI (figF (woF kd mn k) (rmF kd mn k) vb - figF (woF kd mn k) (rmF kd mn k) va)))), (4, .int (nI k)), (0, .ref m0), (1, .int va), (2, .int vb)]) hx hb dX7_slidBetween_33 rfl hl (by decide) rfl (fun ls hl => ?_)
        refine lv_iinc (v := nI (k + 1)) (lv' := [(4, .int (nI (k + 1))), (3, .int ((slF (rmF kd mn) (woF kd mn) va vb k) + (absI (figF (woF kd mn k) (rmF kd mn k) vb - figF (woF kd mn k) (rmF kd mn k) va)))), (0, .ref m0), (1, .int va), (2, .int vb)]) hx hb dX7_slidBetween_34 hl (k := 1) rfl (nI_inc k) (by decide) rfl (fun ls hl => ?_)
        refine lv_goto (tgt := 5) hx hb dX7_slidBetween_37 (by decide) ?_
        exact ih5 (k + 1) (by omega) (by omega) ls (lv_sub hl [0, 1, 2, 3, 4] rfl)
  exact L5 _ 0 (by omega) (Nat.lt_succ_self _) ls (lv_sub hl [0, 1, 2, 3, 4] rfl)
set_option maxHeartbeats 4000000 in
set_option maxRecDepth 100000 in
theorem c_X7_carriedBy (l : Launch) (E : gE) (m0 : Nat) (lf : Int32) (tr : Int32) (z0 : Nat) (z1 : Nat) (z2 : Nat) (n : Nat) (y0 : Nat) (y1 : Nat) (y2 : Nat) (at_ : Int32) (rwi : Int32) (y3 : Nat) (y4 : Nat) (sl : Int32) (cr : Int32) (gr : Int32) (y5 : Nat) (y6 : Nat) (rc : Nat) (x0 : Nat) (x1 : Nat) (x2 : Nat) (x3 : Nat) (kd : Nat → Int32) (mn : Nat → Int32) (va : Int32) (vb : Int32) (hFR : FR n kd mn) : Met l yX7_carriedBy wsX7_carriedBy ({ frames := 4, cells := 0, slots := 0, locals := 87 }) (PR E [.ref m0, .int va, .int vb] [ob m0 7 [.int lf, .int tr, .ref z0, .ref z1, .ref z2, .int (nI n), .ref y0, .ref y1, .ref y2, .int at_, .int rwi, .ref y3, .ref y4, .int sl, .int cr, .int gr, .ref y5, .ref y6, .int (nI rc), .ref x0, .ref x1, .ref x2, .ref x3], ar E y0 6 kd, ar E y1 6 mn]) (vp_Si (fun r => r = cyF (rmF kd mn) (woF kd mn) va vb n)) 0 0 (fun _ => False) := by
  refine mkRi (cc := cX7_carriedBy) (maxL := 6) (by decide) rfl (Nat.le_of_ble_eq_true rfl) ?_
  intro p e s m args below meth c QQ hx hb hml hown hmn hts hK hP hret ls hl
  have hown : s.vm.findClass RX7 = some m.cls := hown
  have hl : lv_has ls 6 [(0, .ref m0), (1, .int va), (2, .int vb)] := hl
  have hinX7 : ∀ w ∈ wsX70, w ∈ wsX7_carriedBy := by decide +kernel
  have fl_62 := hts (.fieldLink RX7 62 "GuardAbacusModel" "wires" "I") (by decide +kernel)
  have hn := hFR.1
  refine lv_iconst (v := 0) hx hb dX7_carriedBy_0 (by decide) ?_
  refine lv_istore_n (lv' := [(3, .int 0), (0, .ref m0), (1, .int va), (2, .int vb)]) hx hb dX7_carriedBy_1 rfl hl (by decide) rfl (fun ls hl => ?_)
  refine lv_iconst (v := 0) hx hb dX7_carriedBy_2 (by decide) ?_
  refine lv_istore (lv' := [(4, .int 0), (3, .int 0), (0, .ref m0), (1, .int va), (2, .int vb)]) hx hb dX7_carriedBy_3 hl (by decide) rfl (fun ls hl => ?_)
  refine lv_iconst (v := 0) hx hb dX7_carriedBy_5 (by decide) ?_
  refine lv_istore (lv' := [(5, .int 0), (4, .int 0), (3, .int 0), (0, .ref m0), (1, .int va), (2, .int vb)]) hx hb dX7_carriedBy_6 hl (by decide) rfl (fun ls hl => ?_)
  have L8 : ∀ (fuel : Nat) (k : Nat), (k ≤ n) → (n - k) < fuel → ∀ ls : Array Slot, lv_has ls 6 [(5, .int (nI k)), (4, .int (ovF (rmF kd mn) (woF kd mn) va vb k)), (3, .int (cyF (rmF kd mn) (woF kd mn) va vb k)), (0, .ref m0), (1, .int va), (2, .int vb)] → W p l e ({ frames := 4, cells := 0, slots := 0, locals := 87 }) s m args below meth c s.heap [] 0 0 QQ (F0 m 8 ls []) := by
    intro fuel
    induction fuel with
    | zero => intro k hk hf; exact absurd hf (Nat.not_lt_zero _)
    | succ fuel ih8 =>
      intro k hk hf8 ls hl
      refine lv_iload hx hb dX7_carriedBy_8 (lv_at hl 0 rfl) ?_
      refine lv_aload_n hx hb dX7_carriedBy_10 rfl (lv_at hl 3 rfl) ?_
      refine va_get (D := E.1) (ci := 7) (v := .int (nI n)) (C := RX7) (T := TX7) (N := 23) hx hb hts hinX7 hown hK.1 hP 0 rfl rfl 5 (by decide) fl_62 (fun _ h9 => h9) rfl dX7_carriedBy_11 ?_
      refine icmpN_ge (tgt := 62) (a := k) (b := n) hx hb rfl rfl (by omega) (by omega) dX7_carriedBy_14 (by decide) (fun c_1 => ?_) (fun c_1 => ?_)
      ·
        obtain rfl : n = k := by omega
        refine lv_iload_n hx hb dX7_carriedBy_62 rfl (lv_at hl 2 rfl) ?_
        exact hret _ _ _ dX7_carriedBy_63 rfl
      ·
        refine lv_aload_n hx hb dX7_carriedBy_17 rfl (lv_at hl 3 rfl) ?_
        refine lv_iload hx hb dX7_carriedBy_18 (lv_at hl 0 rfl) ?_
        refine lv_iload_n hx hb dX7_carriedBy_20 rfl (lv_at hl 4 rfl) ?_
        refine crV (As := [.int (nI k), .int va]) (rest := []) ⟨hx, hb, hml, hown, hts⟩ (c_X7_figureOf l E m0 lf tr z0 z1 z2 n y0 y1 y2 at_ rwi y3 y4 sl cr gr y5 y6 rc x0 x1 x2 x3 kd mn (nI k) k va (by first | assumption | omega) (by first | assumption | omega) rfl) (cwV 2 hts gX7_carriedBy_X7_figureOf rfl rfl rfl (by decide +kernel) ⟨Nat.le_of_ble_eq_true rfl, Nat.le_of_ble_eq_true rfl⟩) hK hP [0, 1, 2] rfl 0 rfl rfl rfl rfl hl.1 rfl (catLe (Nat.le_of_ble_eq_true rfl)) dX7_carriedBy_21 ⟨Nat.zero_le _, Nat.zero_le _⟩ (fun r_2 hr_2 => ?_)
        subst hr_2
        refine lv_aload_n hx hb dX7_carriedBy_24 rfl (lv_at hl 3 rfl) ?_
        refine lv_iload hx hb dX7_carriedBy_25 (lv_at hl 0 rfl) ?_
        refine lv_iload_n hx hb dX7_carriedBy_27 rfl (lv_at hl 5 rfl) ?_
        refine crV (As := [.int (nI k), .int vb]) (rest := [.int (figF (woF kd mn k) (rmF kd mn k) va)]) ⟨hx, hb, hml, hown, hts⟩ (c_X7_figureOf l E m0 lf tr z0 z1 z2 n y0 y1 y2 at_ rwi y3 y4 sl cr gr y5 y6 rc x0 x1 x2 x3 kd mn (nI k) k vb (by first | assumption | omega) (by first | assumption | omega) rfl) (cwV 2 hts gX7_carriedBy_X7_figureOf rfl rfl rfl (by decide +kernel) ⟨Nat.le_of_ble_eq_true rfl, Nat.le_of_ble_eq_true rfl⟩) hK hP [0, 1, 2] rfl 0 rfl rfl rfl rfl hl.1 rfl (catLe (Nat.le_of_ble_eq_true rfl)) dX7_carriedBy_28 ⟨Nat.zero_le _, Nat.zero_le _⟩ (fun r_3 hr_3 => ?_)
        subst hr_3
        refine lv_iadd hx hb dX7_carriedBy_31 ?_
        refine lv_iload hx hb dX7_carriedBy_32 (lv_at hl 1 rfl) ?_
        refine lv_iadd hx hb dX7_carriedBy_34 ?_
        refine lv_aload_n hx hb dX7_carriedBy_35 rfl (lv_at hl 3 rfl) ?_
        refine lv_iload hx hb dX7_carriedBy_36 (lv_at hl 0 rfl) ?_
        refine crV (As := [.int (nI k)]) (rest := [.int (((figF (woF kd mn k) (rmF kd mn k) va) + (figF (woF kd mn k) (rmF kd mn k) vb)) + (ovF (rmF kd mn) (woF kd mn) va vb k))]) ⟨hx, hb, hml, hown, hts⟩ (c_X7_roomOf l E m0 lf tr z0 z1 z2 n y0 y1 y2 at_ rwi y3 y4 sl cr gr y5 y6 rc x0 x1 x2 x3 kd mn (nI k) k (by first | assumption | omega) (by first | assumption | omega) rfl) (cwV 1 hts gX7_carriedBy_X7_roomOf rfl rfl rfl (by decide +kernel) ⟨Nat.le_of_ble_eq_true rfl, Nat.le_of_ble_eq_true rfl⟩) hK hP [0, 1, 2] rfl 0 rfl rfl rfl rfl hl.1 rfl (catLe (Nat.le_of_ble_eq_true rfl)) dX7_carriedBy_38 ⟨Nat.zero_le _, Nat.zero_le _⟩ (fun r_4 hr_4 => ?_)
        subst hr_4
        refine lv_icmp_le (tgt := 48) hx hb dX7_carriedBy_41 (by decide) (fun c_5 => ?_) (fun c_5 => ?_)
        ·
          have c_5b := Int32.not_lt.mpr c_5
          refine lv_iconst (v := 0) hx hb dX7_carriedBy_48 (by decide) ?_
          rw [show (0 : Int32) = ovF (rmF kd mn) (woF kd mn) va vb (k + 1) from (if_pos c_5).symm]
          refine lv_istore (lv' := [(4, .int (ovF (rmF kd mn) (woF kd mn) va vb (k + 1))), (5, .int (nI k)), (3, .int (cyF (rmF kd mn) (woF kd mn) va vb k)), (0, .ref m0), (1, .int va), (2, .int vb)]) hx hb dX7_carriedBy_49 hl (by decide) rfl (fun ls hl => ?_)
          refine lv_iload_n hx hb dX7_carriedBy_51 rfl (lv_at hl 2 rfl) ?_
          refine lv_iload hx hb dX7_carriedBy_52 (lv_at hl 0 rfl) ?_
          refine lv_iadd hx hb dX7_carriedBy_54 ?_
          refine lv_istore_n (lv' := [(3, .int ((cyF (rmF kd mn) (woF kd mn) va vb k) + (ovF (rmF kd mn) (woF kd mn) va vb (k + 1)))), (4, .int (ovF (rmF kd mn) (woF kd mn) va vb (k + 1))), (5, .int (nI k)), (0, .ref m0), (1, .int va), (2, .int vb)]) hx hb dX7_carriedBy_55 rfl hl (by decide) rfl (fun ls hl => ?_)
          refine lv_iinc (v := nI (k + 1)) (lv' := [(5, .int (nI (k + 1))), (3, .int ((cyF (rmF kd mn) (woF kd mn) va vb k) + (ovF (rmF kd mn) (woF kd mn) va vb (k + 1)))), (4, .int (ovF (rmF kd mn) (woF kd mn) va vb (k + 1))), (0, .ref m0), (1, .int va), (2, .int vb)]) hx hb dX7_carriedBy_56 hl (k := 2) rfl (nI_inc k) (by decide) rfl (fun ls hl => ?_)
          refine lv_goto (tgt := 8) hx hb dX7_carriedBy_59 (by decide) ?_
          exact ih8 (k + 1) (by omega) (by omega) ls (lv_sub hl [0, 2, 1, 3, 4, 5] rfl)
        ·
          have c_5b := Int32.not_le.mp c_5
          refine lv_iconst (v := 1) hx hb dX7_carriedBy_44 (by decide) ?_
          refine lv_goto (tgt := 49) hx hb dX7_carriedBy_45 (by decide) ?_
          rw [show (1 : Int32) = ovF (rmF kd mn) (woF kd mn) va vb (k + 1) from (if_neg c_5).symm]
          refine lv_istore (lv' := [(4, .int (ovF (rmF kd mn) (woF kd mn) va vb (k + 1))), (5, .int (nI k)), (3, .int (cyF (rmF kd mn) (woF kd mn) va vb k)), (0, .ref m0), (1, .int va), (2, .int vb)]) hx hb dX7_carriedBy_49 hl (by decide) rfl (fun ls hl => ?_)
          refine lv_iload_n hx hb dX7_carriedBy_51 rfl (lv_at hl 2 rfl) ?_
          refine lv_iload hx hb dX7_carriedBy_52 (lv_at hl 0 rfl) ?_
          refine lv_iadd hx hb dX7_carriedBy_54 ?_
          refine lv_istore_n (lv' := [(3, .int ((cyF (rmF kd mn) (woF kd mn) va vb k) + (ovF (rmF kd mn) (woF kd mn) va vb (k + 1)))), (4, .int (ovF (rmF kd mn) (woF kd mn) va vb (k + 1))), (5, .int (nI k)), (0, .ref m0), (1, .int va), (2, .int vb)]) hx hb dX7_carriedBy_55 rfl hl (by decide) rfl (fun ls hl => ?_)
          refine lv_iinc (v := nI (k + 1)) (lv' := [(5, .int (nI (k + 1))), (3, .int ((cyF (rmF kd mn) (woF kd mn) va vb k) + (ovF (rmF kd mn) (woF kd mn) va vb (k + 1)))), (4, .int (ovF (rmF kd mn) (woF kd mn) va vb (k + 1))), (0, .ref m0), (1, .int va), (2, .int vb)]) hx hb dX7_carriedBy_56 hl (k := 2) rfl (nI_inc k) (by decide) rfl (fun ls hl => ?_)
          refine lv_goto (tgt := 8) hx hb dX7_carriedBy_59 (by decide) ?_
          exact ih8 (k + 1) (by omega) (by omega) ls (lv_sub hl [0, 2, 1, 3, 4, 5] rfl)
  exact L8 _ 0 (by omega) (Nat.lt_succ_self _) ls (lv_sub hl [0, 1, 2, 3, 4, 5] rfl)
set_option maxHeartbeats 4000000 in
set_option maxRecDepth 100000 in
theorem c_X7_become (l : Launch) (E : gE) (sz : Nat) (m0 : Nat) (lf : Int32) (tr : Int32) (z0 : Nat) (z1 : Nat) (z2 : Nat) (n : Nat) (y0 : Nat) (y1 : Nat) (y2 : Nat) (at_ : Int32) (rwi : Int32) (y3 : Nat) (y4 : Nat) (sl : Int32) (cr : Int32) (gr : Int32) (y5 : Nat) (y6 : Nat) (rc : Nat) (x0 : Nat) (x1 : Nat) (x2 : Nat) (x3 : Nat) (kd : Nat → Int32) (mn : Nat → Int32) (pu : Nat → Int32) (v : Int32) (hFR : FR n kd mn) : Met l yX7_become wsX7_become ({ frames := 4, cells := 0, slots := 0, locals := 87 }) (PW E [.ref m0, .int v] [ob m0 7 [.int lf, .int tr, .ref z0, .ref z1, .ref z2, .int (nI n), .ref y0, .ref y1, .ref y2, .int at_, .int rwi, .ref y3, .ref y4, .int sl, .int cr, .int gr, .ref y5, .ref y6, .int (nI rc), .ref x0, .ref x1, .ref x2, .ref x3], ar E y0 6 kd, ar E y1 6 mn, ar E y2 6 pu] sz) (QWv E (fun _ => True) (fun (_ : Unit) => [ob m0 7 [.int lf, .int tr, .ref z0, .ref z1, .ref z2, .int (nI n), .ref y0, .ref y1, .ref y2, .int at_, .int rwi, .ref y3, .ref y4, .int sl, .int cr, .int gr, .ref y5, .ref y6, .int (nI rc), .ref x0, .ref x1, .ref x2, .ref x3], ar E y0 6 kd, ar E y1 6 mn, ar E y2 6 (fil (fun w => figF (woF kd mn w) (rmF kd mn w) v) pu n)]) (va_A [ob m0 7 [.int lf, .int tr, .ref z0, .ref z1, .ref z2, .int (nI n), .ref y0, .ref y1, .ref y2, .int at_, .int rwi, .ref y3, .ref y4, .int sl, .int cr, .int gr, .ref y5, .ref y6, .int (nI rc), .ref x0, .ref x1, .ref x2, .ref x3], ar E y0 6 kd, ar E y1 6 mn, ar E y2 6 pu] sz)) 0 0 (va_A [ob m0 7 [.int lf, .int tr, .ref z0, .ref z1, .ref z2, .int (nI n), .ref y0, .ref y1, .ref y2, .int at_, .int rwi, .ref y3, .ref y4, .int sl, .int cr, .int gr, .ref y5, .ref y6, .int (nI rc), .ref x0, .ref x1, .ref x2, .ref x3], ar E y0 6 kd, ar E y1 6 mn, ar E y2 6 pu] sz) := by
  refine mkWv (cc := cX7_become) (maxL := 3) (by decide) rfl (Nat.le_of_ble_eq_true rfl) ?_
  intro p e s m args below meth c QQ A hx hb hml hown hmn hts hK hA hP hD hS hret ls hl
  have hown : s.vm.findClass RX7 = some m.cls := hown
  have hl : lv_has ls 3 [(0, .ref m0), (1, .int v)] := hl
  have hinX7 : ∀ w ∈ wsX70, w ∈ wsX7_become := by decide +kernel
  have fl_25 := hts (.fieldLink RX7 25 "GuardAbacusModel" "pushed" "[I") (by decide +kernel)
  have fl_62 := hts (.fieldLink RX7 62 "GuardAbacusModel" "wires" "I") (by decide +kernel)
  have hn := hFR.1
  refine lv_iconst (v := 0) hx hb dX7_become_0 (by decide) ?_
  refine lv_istore_n (lv' := [(2, .int 0), (0, .ref m0), (1, .int v)]) hx hb dX7_become_1 rfl hl (by decide) rfl (fun ls hl => ?_)
  rw [← fil_0 (fun w => figF (woF kd mn w) (rmF kd mn w) v) pu] at hP hD
  have L2 : ∀ (fuel : Nat) (k : Nat), (k ≤ n) → (n - k) < fuel → ∀ (H : Heap) (locs : List Loc), va_P E.1 vwCl [ob m0 7 [.int lf, .int tr, .ref z0, .ref z1, .ref z2, .int (nI n), .ref y0, .ref y1, .ref y2, .int at_, .int rwi, .ref y3, .ref y4, .int sl, .int cr, .int gr, .ref y5, .ref y6, .int (nI rc), .ref x0, .ref x1, .ref x2, .ref x3], ar E y0 6 kd, ar E y1 6 mn, ar E y2 6 (fil (fun w => figF (woF kd mn w) (rmF kd mn w) v) pu k)] H → va_D A [ob m0 7 [.int lf, .int tr, .ref z0, .ref z1, .ref z2, .int (nI n), .ref y0, .ref y1, .ref y2, .int at_, .int rwi, .ref y3, .ref y4, .int sl, .int cr, .int gr, .ref y5, .ref y6, .int (nI rc), .ref x0, .ref x1, .ref x2, .ref x3], ar E y0 6 kd, ar E y1 6 mn, ar E y2 6 (fil (fun w => figF (woF kd mn w) (rmF kd mn w) v) pu k)] → va_S A s.heap H locs → ∀ ls : Array Slot, lv_has ls 3 [(2, .int (nI k)), (0, .ref m0), (1, .int v)] → W p l e ({ frames := 4, cells := 0, slots := 0, locals := 87 }) s m args below meth c H locs 0 0 QQ (F0 m 2 ls []) := by
    intro fuel
    induction fuel with
    | zero => intro k hk hf; exact absurd hf (Nat.not_lt_zero _)
    | succ fuel ih2 =>
      intro k hk hf2 H locs hP hD hS ls hl
      refine lv_iload_n hx hb dX7_become_2 rfl (lv_at hl 0 rfl) ?_
      refine lv_aload_n hx hb dX7_become_3 rfl (lv_at hl 1 rfl) ?_
      refine va_get (D := E.1) (ci := 7) (v := .int (nI n)) (C := RX7) (T := TX7) (N := 23) hx hb hts hinX7 hown hK.1 hP 0 rfl rfl 5 (by decide) fl_62 (fun _ h9 => h9) rfl dX7_become_4 ?_
      refine icmpN_ge (tgt := 28) (a := k) (b := n) hx hb rfl rfl (by omega) (by omega) dX7_become_7 (by decide) (fun c_1 => ?_) (fun c_1 => ?_)
      ·
        obtain rfl : n = k := by omega
        exact hret _ _ _ _ () dX7_become_28 hS hP trivial
      ·
        refine lv_aload_n hx hb dX7_become_10 rfl (lv_at hl 1 rfl) ?_
        refine va_get (D := E.1) (ci := 7) (v := .ref y2) (C := RX7) (T := TX7) (N := 23) hx hb hts hinX7 hown hK.1 hP 0 rfl rfl 8 (by decide) fl_25 (fun _ h9 => h9) rfl dX7_become_11 ?_
        refine lv_iload_n hx hb dX7_become_14 rfl (lv_at hl 0 rfl) ?_
        refine lv_aload_n hx hb dX7_become_15 rfl (lv_at hl 1 rfl) ?_
        refine lv_iload_n hx hb dX7_become_16 rfl (lv_at hl 0 rfl) ?_
        refine lv_iload_n hx hb dX7_become_17 rfl (lv_at hl 2 rfl) ?_
        refine crV (As := [.int (nI k), .int v]) (rest := [.int (nI k), .ref y2]) ⟨hx, hb, hml, hown, hts⟩ (c_X7_figureOf l E m0 lf tr z0 z1 z2 n y0 y1 y2 at_ rwi y3 y4 sl cr gr y5 y6 rc x0 x1 x2 x3 kd mn (nI k) k v (by first | assumption | omega) (by first | assumption | omega) rfl) (cwV 2 hts gX7_become_X7_figureOf rfl rfl rfl (by decide +kernel) ⟨Nat.le_of_ble_eq_true rfl, Nat.le_of_ble_eq_true rfl⟩) hK hP [0, 1, 2] rfl 0 rfl rfl rfl rfl hl.1 rfl (catLe (Nat.le_of_ble_eq_true rfl)) dX7_become_18 ⟨Nat.zero_le _, Nat.zero_le _⟩ (fun r_2 hr_2 => ?_)
        subst hr_2
        refine ist hx hb hK hP hD hS 3 rfl (j := k) rfl (by omega) (by decide) dX7_become_21 (fun H locs hP hD hS => ?_)
        have hP : va_P E.1 vwCl [ob m0 7 [.int lf, .int tr, .ref z0, .ref z1, .ref z2, .int (nI n), .ref y0, .ref y1, .ref y2, .int at_, .int rwi, .ref y3, .ref y4, .int sl, .int cr, .int gr, .ref y5, .ref y6, .int (nI rc), .ref x0, .ref x1, .ref x2, .ref x3], ar E y0 6 kd, ar E y1 6 mn, ar E y2 6 (upd (fil (fun w => figF (woF kd mn w) (rmF kd mn w) v) pu k) k (figF (woF kd mn k) (rmF kd mn k) v))] H := hP
        have hD : va_D A [ob m0 7 [.int lf, .int tr, .ref z0, .ref z1, .ref z2, .int (nI n), .ref y0, .ref y1, .ref y2, .int at_, .int rwi, .ref y3, .ref y4, .int sl, .int cr, .int gr, .ref y5, .ref y6, .int (nI rc), .ref x0, .ref x1, .ref x2, .ref x3], ar E y0 6 kd, ar E y1 6 mn, ar E y2 6 (upd (fil (fun w => figF (woF kd mn w) (rmF kd mn w) v) pu k) k (figF (woF kd mn k) (rmF kd mn k) v))] := hD
        rw [show upd (fil (fun w => figF (woF kd mn w) (rmF kd mn w) v) pu k) k (figF (woF kd mn k) (rmF kd mn k) v) = fil (fun w => figF (woF kd mn w) (rmF kd mn w) v) pu (k + 1) from fil_s _ _ _] at hP hD
        refine lv_iinc (v := nI (k + 1)) (lv' := [(2, .int (nI (k + 1))), (0, .ref m0), (1, .int v)]) hx hb dX7_become_22 hl (k := 0) rfl (nI_inc k) (by decide) rfl (fun ls hl => ?_)
        refine lv_goto (tgt := 2) hx hb dX7_become_25 (by decide) ?_
        exact ih2 (k + 1) (by omega) (by omega) _ _ hP hD hS ls (lv_sub hl [0, 1, 2] rfl)
  exact L2 _ 0 (by omega) (Nat.lt_succ_self _) _ _ hP hD hS ls (lv_sub hl [0, 1, 2] rfl)
set_option maxHeartbeats 4000000 in
set_option maxRecDepth 100000 in
theorem c_X7_canAdd (l : Launch) (E : gE) (m0 : Nat) (lf : Int32) (tr : Int32) (z0 : Nat) (z1 : Nat) (z2 : Nat) (n : Nat) (y0 : Nat) (y1 : Nat) (y2 : Nat) (at_ : Int32) (rwi : Int32) (y3 : Nat) (y4 : Nat) (sl : Int32) (cr : Int32) (gr : Int32) (y5 : Nat) (y6 : Nat) (rc : Nat) (x0 : Nat) (x1 : Nat) (x2 : Nat) (x3 : Nat) (kd : Nat → Int32) (mn : Nat → Int32) (pu : Nat → Int32) (v : Int32) (hFR : FR n kd mn) : Met l yX7_canAdd wsX7_canAdd ({ frames := 4, cells := 0, slots := 0, locals := 87 }) (PR E [.ref m0, .int v] [ob m0 7 [.int lf, .int tr, .ref z0, .ref z1, .ref z2, .int (nI n), .ref y0, .ref y1, .ref y2, .int at_, .int rwi, .ref y3, .ref y4, .int sl, .int cr, .int gr, .ref y5, .ref y6, .int (nI rc), .ref x0, .ref x1, .ref x2, .ref x3], ar E y0 6 kd, ar E y1 6 mn, ar E y2 6 pu]) (vp_Si (fun r => r = if ¬ woF kd mn n - 1 - (numF pu (woF kd mn) n) < v then 1 else 0)) 0 0 (fun _ => False) := by
  refine mkRz (cc := cX7_canAdd) (maxL := 2) (by decide) rfl (Nat.le_of_ble_eq_true rfl) ?_
  intro p e s m args below meth c QQ hx hb hml hown hmn hts hK hP hret ls hl
  have hown : s.vm.findClass RX7 = some m.cls := hown
  have hl : lv_has ls 2 [(0, .ref m0), (1, .int v)] := hl
  have hn := hFR.1
  refine lv_iload_n hx hb dX7_canAdd_0 rfl (lv_at hl 1 rfl) ?_
  refine lv_aload_n hx hb dX7_canAdd_1 rfl (lv_at hl 0 rfl) ?_
  refine crV (As := []) (rest := [.int v]) ⟨hx, hb, hml, hown, hts⟩ (c_X7_mostOf l E m0 lf tr z0 z1 z2 n y0 y1 y2 at_ rwi y3 y4 sl cr gr y5 y6 rc x0 x1 x2 x3 kd mn (by first | assumption | omega)) (cwV 0 hts gX7_canAdd_X7_mostOf rfl rfl rfl (by decide +kernel) ⟨Nat.le_of_ble_eq_true rfl, Nat.le_of_ble_eq_true rfl⟩) hK hP [0, 1, 2] rfl 0 rfl rfl rfl rfl hl.1 rfl (catLe (Nat.le_of_ble_eq_true rfl)) dX7_canAdd_2 ⟨Nat.zero_le _, Nat.zero_le _⟩ (fun r_1 hr_1 => ?_)
  subst hr_1
  refine lv_aload_n hx hb dX7_canAdd_5 rfl (lv_at hl 0 rfl) ?_
  refine crV (As := []) (rest := [.int (woF kd mn n - 1), .int v]) ⟨hx, hb, hml, hown, hts⟩ (c_X7_numberNow l E m0 lf tr z0 z1 z2 n y0 y1 y2 at_ rwi y3 y4 sl cr gr y5 y6 rc x0 x1 x2 x3 kd mn pu (by first | assumption | omega)) (cwV 0 hts gX7_canAdd_X7_numberNow rfl rfl rfl (by decide +kernel) ⟨Nat.le_of_ble_eq_true rfl, Nat.le_of_ble_eq_true rfl⟩) hK hP [0, 1, 2, 3] rfl 0 rfl rfl rfl rfl hl.1 rfl (catLe (Nat.le_of_ble_eq_true rfl)) dX7_canAdd_6 ⟨Nat.zero_le _, Nat.zero_le _⟩ (fun r_2 hr_2 => ?_)
  subst hr_2
  refine lv_isub hx hb dX7_canAdd_9 ?_
  refine lv_icmp_gt (tgt := 17) hx hb dX7_canAdd_10 (by decide) (fun c_3 => ?_) (fun c_3 => ?_)
  ·
    have c_3b := Int32.not_le.mpr c_3
    refine lv_iconst (v := 0) hx hb dX7_canAdd_17 (by decide) ?_
    exact hret _ _ _ dX7_canAdd_18 rfl (by simp [c_3, c_3b])
  ·
    have c_3b := Int32.not_lt.mp c_3
    refine lv_iconst (v := 1) hx hb dX7_canAdd_13 (by decide) ?_
    refine lv_goto (tgt := 18) hx hb dX7_canAdd_14 (by decide) ?_
    exact hret _ _ _ dX7_canAdd_18 rfl (by simp [c_3, c_3b])
set_option maxHeartbeats 4000000 in
set_option maxRecDepth 100000 in
theorem c_X7_ofWire (l : Launch) (E : gE) (m0 : Nat) (lf : Int32) (tr : Int32) (z0 : Nat) (z1 : Nat) (z2 : Nat) (n : Nat) (y0 : Nat) (y1 : Nat) (y2 : Nat) (at_ : Int32) (rwi : Int32) (y3 : Nat) (y4 : Nat) (sl : Int32) (cr : Int32) (gr : Int32) (y5 : Nat) (y6 : Nat) (rc : Nat) (x0 : Nat) (x1 : Nat) (x2 : Nat) (x3 : Nat) (kd : Nat → Int32) (mn : Nat → Int32) (pu : Nat → Int32) (w : Int32) (what : Int32) (hFR : FR n kd mn) : Met l yX7_ofWire wsX7_ofWire ({ frames := 3, cells := 0, slots := 0, locals := 65 }) (PR E [.ref m0, .int w, .int what] [ob m0 7 [.int lf, .int tr, .ref z0, .ref z1, .ref z2, .int (nI n), .ref y0, .ref y1, .ref y2, .int at_, .int rwi, .ref y3, .ref y4, .int sl, .int cr, .int gr, .ref y5, .ref y6, .int (nI rc), .ref x0, .ref x1, .ref x2, .ref x3], ar E y0 6 kd, ar E y1 6 mn, ar E y2 6 pu]) (vp_Si (fun r => r = spOfWire n kd mn pu (rmF kd mn) (woF kd mn) w what)) 0 0 (fun _ => False) := by
  refine mkRi (cc := cX7_ofWire) (maxL := 3) (by decide) rfl (Nat.le_of_ble_eq_true rfl) ?_
  intro p e s m args below meth c QQ hx hb hml hown hmn hts hK hP hret ls hl
  have hown : s.vm.findClass RX7 = some m.cls := hown
  have hl : lv_has ls 3 [(0, .ref m0), (1, .int w), (2, .int what)] := hl
  have hinX7 : ∀ w ∈ wsX70, w ∈ wsX7_ofWire := by decide +kernel
  have fl_19 := hts (.fieldLink RX7 19 "GuardAbacusModel" "kind" "[I") (by decide +kernel)
  have fl_22 := hts (.fieldLink RX7 22 "GuardAbacusModel" "men" "[I") (by decide +kernel)
  have fl_25 := hts (.fieldLink RX7 25 "GuardAbacusModel" "pushed" "[I") (by decide +kernel)
  have hn := hFR.1
  refine lv_aload_n hx hb dX7_ofWire_0 rfl (lv_at hl 0 rfl) ?_
  refine lv_iload_n hx hb dX7_ofWire_1 rfl (lv_at hl 1 rfl) ?_
  refine crV (As := [.int w]) (rest := []) ⟨hx, hb, hml, hown, hts⟩ (c_X7_isWire l E m0 lf tr z0 z1 z2 n y0 y1 y2 at_ rwi y3 y4 sl cr gr y5 y6 rc x0 x1 x2 x3 w) (cwV 1 hts gX7_ofWire_X7_isWire rfl rfl rfl (by decide +kernel) ⟨Nat.le_of_ble_eq_true rfl, Nat.le_of_ble_eq_true rfl⟩) hK hP [0] rfl 0 rfl rfl rfl rfl hl.1 rfl (catLe (Nat.le_of_ble_eq_true rfl)) dX7_ofWire_2 ⟨Nat.zero_le _, Nat.zero_le _⟩ (fun r_1 hr_1 => ?_)
  subst hr_1
  refine ifB_ne (P := hasP n w) (tgt := 10) hx hb dX7_ofWire_5 (by decide) (fun c_2 => ?_) (fun c_2 => ?_)
  ·
    obtain ⟨j, hj, rfl⟩ := hasP_of c_2 hn
    have hix_j : ix (nI j) = j := ix_nI (by omega)
    refine lv_iload_n hx hb dX7_ofWire_10 rfl (lv_at hl 2 rfl) ?_
    by_cases q_3 : what = 0
    ·
      subst q_3
      refine lv_tableIn (off := 33) (tgt := 44) hx hb dX7_ofWire_11 (by decide) (by decide) rfl (by decide) ?_
      refine lv_aload_n hx hb dX7_ofWire_44 rfl (lv_at hl 0 rfl) ?_
      refine va_get (D := E.1) (ci := 7) (v := .ref y0) (C := RX7) (T := TX7) (N := 23) hx hb hts hinX7 hown hK.1 hP 0 rfl rfl 6 (by decide) fl_19 (fun _ h9 => h9) rfl dX7_ofWire_45 ?_
      refine lv_iload_n hx hb dX7_ofWire_48 rfl (lv_at hl 1 rfl) ?_
      refine ild hx hb hK hP 1 rfl (j := j) rfl (by omega) (by decide) dX7_ofWire_49 ?_
      exact hret _ _ _ dX7_ofWire_50 (by simp [spOfWire, rmF, c_2, hix_j])
    by_cases q_4 : what = 1
    ·
      subst q_4
      refine lv_tableIn (off := 40) (tgt := 51) hx hb dX7_ofWire_11 (by decide) (by decide) rfl (by decide) ?_
      refine lv_aload_n hx hb dX7_ofWire_51 rfl (lv_at hl 0 rfl) ?_
      refine va_get (D := E.1) (ci := 7) (v := .ref y1) (C := RX7) (T := TX7) (N := 23) hx hb hts hinX7 hown hK.1 hP 0 rfl rfl 7 (by decide) fl_22 (fun _ h9 => h9) rfl dX7_ofWire_52 ?_
      refine lv_iload_n hx hb dX7_ofWire_55 rfl (lv_at hl 1 rfl) ?_
      refine ild hx hb hK hP 2 rfl (j := j) rfl (by omega) (by decide) dX7_ofWire_56 ?_
      exact hret _ _ _ dX7_ofWire_57 (by simp [spOfWire, rmF, c_2, hix_j])
    by_cases q_5 : what = 2
    ·
      subst q_5
      refine lv_tableIn (off := 47) (tgt := 58) hx hb dX7_ofWire_11 (by decide) (by decide) rfl (by decide) ?_
      refine lv_aload_n hx hb dX7_ofWire_58 rfl (lv_at hl 0 rfl) ?_
      refine lv_iload_n hx hb dX7_ofWire_59 rfl (lv_at hl 1 rfl) ?_
      refine crV (As := [.int (nI j)]) (rest := []) ⟨hx, hb, hml, hown, hts⟩ (c_X7_roomOf l E m0 lf tr z0 z1 z2 n y0 y1 y2 at_ rwi y3 y4 sl cr gr y5 y6 rc x0 x1 x2 x3 kd mn (nI j) j (by first | assumption | omega) (by first | assumption | omega) rfl) (cwV 1 hts gX7_ofWire_X7_roomOf rfl rfl rfl (by decide +kernel) ⟨Nat.le_of_ble_eq_true rfl, Nat.le_of_ble_eq_true rfl⟩) hK hP [0, 1, 2] rfl 0 rfl rfl rfl rfl hl.1 rfl (catLe (Nat.le_of_ble_eq_true rfl)) dX7_ofWire_60 ⟨Nat.zero_le _, Nat.zero_le _⟩ (fun r_6 hr_6 => ?_)
      subst hr_6
      exact hret _ _ _ dX7_ofWire_63 (by simp [spOfWire, rmF, c_2, hix_j])
    by_cases q_7 : what = 3
    ·
      subst q_7
      refine lv_tableIn (off := 53) (tgt := 64) hx hb dX7_ofWire_11 (by decide) (by decide) rfl (by decide) ?_
      refine lv_aload_n hx hb dX7_ofWire_64 rfl (lv_at hl 0 rfl) ?_
      refine va_get (D := E.1) (ci := 7) (v := .ref y2) (C := RX7) (T := TX7) (N := 23) hx hb hts hinX7 hown hK.1 hP 0 rfl rfl 8 (by decide) fl_25 (fun _ h9 => h9) rfl dX7_ofWire_65 ?_
      refine lv_iload_n hx hb dX7_ofWire_68 rfl (lv_at hl 1 rfl) ?_
      refine ild hx hb hK hP 3 rfl (j := j) rfl (by omega) (by decide) dX7_ofWire_69 ?_
      exact hret _ _ _ dX7_ofWire_70 (by simp [spOfWire, rmF, c_2, hix_j])
    by_cases q_8 : what = 4
    ·
      subst q_8
      refine lv_tableIn (off := 60) (tgt := 71) hx hb dX7_ofWire_11 (by decide) (by decide) rfl (by decide) ?_
      refine lv_aload_n hx hb dX7_ofWire_71 rfl (lv_at hl 0 rfl) ?_
      refine lv_iload_n hx hb dX7_ofWire_72 rfl (lv_at hl 1 rfl) ?_
      refine crV (As := [.int (nI j)]) (rest := []) ⟨hx, hb, hml, hown, hts⟩ (c_X7_worthOf l E m0 lf tr z0 z1 z2 n y0 y1 y2 at_ rwi y3 y4 sl cr gr y5 y6 rc x0 x1 x2 x3 kd mn j (by first | assumption | omega) (by first | assumption | omega)) (cwV 1 hts gX7_ofWire_X7_worthOf rfl rfl rfl (by decide +kernel) ⟨Nat.le_of_ble_eq_true rfl, Nat.le_of_ble_eq_true rfl⟩) hK hP [0, 1, 2] rfl 0 rfl rfl rfl rfl hl.1 rfl (catLe (Nat.le_of_ble_eq_true rfl)) dX7_ofWire_73 ⟨Nat.zero_le _, Nat.zero_le _⟩ (fun r_9 hr_9 => ?_)
      subst hr_9
      exact hret _ _ _ dX7_ofWire_76 (by simp [spOfWire, rmF, c_2, hix_j])
    refine lv_tableOut (tgt := 77) hx hb dX7_ofWire_11 (by have z0 := lv_neT q_3 (show (0 : Int32).toInt = 0 from rfl); have z1 := lv_neT q_4 (show (1 : Int32).toInt = 1 from rfl); have z2 := lv_neT q_5 (show (2 : Int32).toInt = 2 from rfl); have z3 := lv_neT q_7 (show (3 : Int32).toInt = 3 from rfl); have z4 := lv_neT q_8 (show (4 : Int32).toInt = 4 from rfl); omega) (by decide) ?_
    refine lv_bipush (v := (-2)) hx hb dX7_ofWire_77 (by decide) ?_
    exact hret _ _ _ dX7_ofWire_79 (by simp [spOfWire, rmF, c_2, hix_j, q_3, q_4, q_5, q_7, q_8])
  ·
    refine lv_iconst (v := (-1)) hx hb dX7_ofWire_8 (by decide) ?_
    exact hret _ _ _ dX7_ofWire_9 (by simp [spOfWire, rmF, c_2])
set_option maxHeartbeats 4000000 in
set_option maxRecDepth 100000 in
theorem c_X7_number (l : Launch) (E : gE) (m0 : Nat) (lf : Int32) (tr : Int32) (z0 : Nat) (z1 : Nat) (z2 : Nat) (n : Nat) (y0 : Nat) (y1 : Nat) (y2 : Nat) (at_ : Int32) (rwi : Int32) (y3 : Nat) (y4 : Nat) (sl : Int32) (cr : Int32) (gr : Int32) (y5 : Nat) (y6 : Nat) (rc : Nat) (x0 : Nat) (x1 : Nat) (x2 : Nat) (x3 : Nat) (kd : Nat → Int32) (mn : Nat → Int32) (pu : Nat → Int32) (what : Int32) (hFR : FR n kd mn) : Met l yX7_number wsX7_number ({ frames := 4, cells := 0, slots := 0, locals := 87 }) (PR E [.ref m0, .int what] [ob m0 7 [.int lf, .int tr, .ref z0, .ref z1, .ref z2, .int (nI n), .ref y0, .ref y1, .ref y2, .int at_, .int rwi, .ref y3, .ref y4, .int sl, .int cr, .int gr, .ref y5, .ref y6, .int (nI rc), .ref x0, .ref x1, .ref x2, .ref x3], ar E y0 6 kd, ar E y1 6 mn, ar E y2 6 pu]) (vp_Si (fun r => r = spNumber n (woF kd mn n - 1) pu (woF kd mn) what)) 0 0 (fun _ => False) := by
  refine mkRi (cc := cX7_number) (maxL := 2) (by decide) rfl (Nat.le_of_ble_eq_true rfl) ?_
  intro p e s m args below meth c QQ hx hb hml hown hmn hts hK hP hret ls hl
  have hown : s.vm.findClass RX7 = some m.cls := hown
  have hl : lv_has ls 2 [(0, .ref m0), (1, .int what)] := hl
  have hinX7 : ∀ w ∈ wsX70, w ∈ wsX7_number := by decide +kernel
  have fl_62 := hts (.fieldLink RX7 62 "GuardAbacusModel" "wires" "I") (by decide +kernel)
  have hn := hFR.1
  refine lv_iload_n hx hb dX7_number_0 rfl (lv_at hl 1 rfl) ?_
  refine lv_iconst (v := 0) hx hb dX7_number_1 (by decide) ?_
  refine lv_iconst (v := 2) hx hb dX7_number_2 (by decide) ?_
  refine crS (As := [.int what, .int 0, .int 2]) (rest := []) ⟨hx, hb, hml, hown, hts⟩ (c_X7_within l E what 0 2) (va_cwS 3 hts gX7_number_X7_within rfl rfl rfl (by decide +kernel) ⟨Nat.le_of_ble_eq_true rfl, Nat.le_of_ble_eq_true rfl⟩) hK hP [] rfl rfl hl.1 rfl (catLe (Nat.le_of_ble_eq_true rfl)) dX7_number_3 ⟨Nat.zero_le _, Nat.zero_le _⟩ (fun r_1 hr_1 => ?_)
  subst hr_1
  refine ifB_ne (P := wiP what 0 2) (tgt := 12) hx hb dX7_number_6 (by decide) (fun c_2 => ?_) (fun c_2 => ?_)
  ·
    have hw1 := c_2.1
    have hw2 := c_2.2
    have hw3 := Int32.not_lt.mp hw2
    refine lv_aload_n hx hb dX7_number_12 rfl (lv_at hl 0 rfl) ?_
    refine va_get (D := E.1) (ci := 7) (v := .int (nI n)) (C := RX7) (T := TX7) (N := 23) hx hb hts hinX7 hown hK.1 hP 0 rfl rfl 5 (by decide) fl_62 (fun _ h9 => h9) rfl dX7_number_13 ?_
    refine ifN_ne (tgt := 22) (a := n) hx hb rfl (by omega) dX7_number_16 (by decide) (fun c_3 => ?_) (fun c_3 => ?_)
    ·
      refine lv_iload_n hx hb dX7_number_22 rfl (lv_at hl 1 rfl) ?_
      refine lv_if_ne (tgt := 33) hx hb dX7_number_23 (by decide) (fun c_4 => ?_) (fun c_4 => ?_)
      ·
        refine lv_iload_n hx hb dX7_number_33 rfl (lv_at hl 1 rfl) ?_
        refine lv_iconst (v := 1) hx hb dX7_number_34 (by decide) ?_
        refine lv_icmp_ne (tgt := 45) hx hb dX7_number_35 (by decide) (fun c_5 => ?_) (fun c_5 => ?_)
        ·
          refine lv_aload_n hx hb dX7_number_45 rfl (lv_at hl 0 rfl) ?_
          refine crV (As := []) (rest := []) ⟨hx, hb, hml, hown, hts⟩ (c_X7_allPushed l E m0 lf tr z0 z1 z2 n y0 y1 y2 at_ rwi y3 y4 sl cr gr y5 y6 rc x0 x1 x2 x3 pu (by first | assumption | omega)) (cwV 0 hts gX7_number_X7_allPushed rfl rfl rfl (by decide +kernel) ⟨Nat.le_of_ble_eq_true rfl, Nat.le_of_ble_eq_true rfl⟩) hK hP [0, 3] rfl 0 rfl rfl rfl rfl hl.1 rfl (catLe (Nat.le_of_ble_eq_true rfl)) dX7_number_46 ⟨Nat.zero_le _, Nat.zero_le _⟩ (fun r_6 hr_6 => ?_)
          subst hr_6
          exact hret _ _ _ dX7_number_49 (by simp only [spNumber]; simp [c_2, hw1, hw2, hw3, c_3, c_4, c_5]; try omega)
        ·
          refine lv_aload_n hx hb dX7_number_38 rfl (lv_at hl 0 rfl) ?_
          refine crV (As := []) (rest := []) ⟨hx, hb, hml, hown, hts⟩ (c_X7_mostOf l E m0 lf tr z0 z1 z2 n y0 y1 y2 at_ rwi y3 y4 sl cr gr y5 y6 rc x0 x1 x2 x3 kd mn (by first | assumption | omega)) (cwV 0 hts gX7_number_X7_mostOf rfl rfl rfl (by decide +kernel) ⟨Nat.le_of_ble_eq_true rfl, Nat.le_of_ble_eq_true rfl⟩) hK hP [0, 1, 2] rfl 0 rfl rfl rfl rfl hl.1 rfl (catLe (Nat.le_of_ble_eq_true rfl)) dX7_number_39 ⟨Nat.zero_le _, Nat.zero_le _⟩ (fun r_7 hr_7 => ?_)
          subst hr_7
          refine lv_goto (tgt := 49) hx hb dX7_number_42 (by decide) ?_
          exact hret _ _ _ dX7_number_49 (by simp only [spNumber]; simp [c_2, hw1, hw2, hw3, c_3, c_4, c_5]; try omega)
      ·
        refine lv_aload_n hx hb dX7_number_26 rfl (lv_at hl 0 rfl) ?_
        refine crV (As := []) (rest := []) ⟨hx, hb, hml, hown, hts⟩ (c_X7_numberNow l E m0 lf tr z0 z1 z2 n y0 y1 y2 at_ rwi y3 y4 sl cr gr y5 y6 rc x0 x1 x2 x3 kd mn pu (by first | assumption | omega)) (cwV 0 hts gX7_number_X7_numberNow rfl rfl rfl (by decide +kernel) ⟨Nat.le_of_ble_eq_true rfl, Nat.le_of_ble_eq_true rfl⟩) hK hP [0, 1, 2, 3] rfl 0 rfl rfl rfl rfl hl.1 rfl (catLe (Nat.le_of_ble_eq_true rfl)) dX7_number_27 ⟨Nat.zero_le _, Nat.zero_le _⟩ (fun r_8 hr_8 => ?_)
        subst hr_8
        refine lv_goto (tgt := 49) hx hb dX7_number_30 (by decide) ?_
        exact hret _ _ _ dX7_number_49 (by simp only [spNumber]; simp [c_2, hw1, hw2, hw3, c_3, c_4]; try omega)
    ·
      refine lv_bipush (v := (-3)) hx hb dX7_number_19 (by decide) ?_
      exact hret _ _ _ dX7_number_21 (by simp only [spNumber]; simp [c_2, hw1, hw2, hw3, c_3]; try omega)
  ·
    refine lv_bipush (v := (-2)) hx hb dX7_number_9 (by decide) ?_
    exact hret _ _ _ dX7_number_11 (by rw [spNumber, wi_no c_2])
set_option maxHeartbeats 4000000 in
set_option maxRecDepth 100000 in
theorem c_X7_figure (l : Launch) (E : gE) (m0 : Nat) (lf : Int32) (tr : Int32) (z0 : Nat) (z1 : Nat) (z2 : Nat) (n : Nat) (y0 : Nat) (y1 : Nat) (y2 : Nat) (at_ : Int32) (rwi : Int32) (y3 : Nat) (y4 : Nat) (sl : Int32) (cr : Int32) (gr : Int32) (y5 : Nat) (y6 : Nat) (rc : Nat) (x0 : Nat) (x1 : Nat) (x2 : Nat) (x3 : Nat) (kd : Nat → Int32) (mn : Nat → Int32) (pu : Nat → Int32) (w : Int32) (v : Int32) (hFR : FR n kd mn) : Met l yX7_figure wsX7_figure ({ frames := 4, cells := 0, slots := 0, locals := 87 }) (PR E [.ref m0, .int w, .int v] [ob m0 7 [.int lf, .int tr, .ref z0, .ref z1, .ref z2, .int (nI n), .ref y0, .ref y1, .ref y2, .int at_, .int rwi, .ref y3, .ref y4, .int sl, .int cr, .int gr, .ref y5, .ref y6, .int (nI rc), .ref x0, .ref x1, .ref x2, .ref x3], ar E y0 6 kd, ar E y1 6 mn, ar E y2 6 pu]) (vp_Si (fun r => r = spFigure n (woF kd mn n - 1) (rmF kd mn) (woF kd mn) w v)) 0 0 (fun _ => False) := by
  refine mkRi (cc := cX7_figure) (maxL := 3) (by decide) rfl (Nat.le_of_ble_eq_true rfl) ?_
  intro p e s m args below meth c QQ hx hb hml hown hmn hts hK hP hret ls hl
  have hown : s.vm.findClass RX7 = some m.cls := hown
  have hl : lv_has ls 3 [(0, .ref m0), (1, .int w), (2, .int v)] := hl
  have hn := hFR.1
  refine lv_aload_n hx hb dX7_figure_0 rfl (lv_at hl 0 rfl) ?_
  refine lv_iload_n hx hb dX7_figure_1 rfl (lv_at hl 1 rfl) ?_
  refine crV (As := [.int w]) (rest := []) ⟨hx, hb, hml, hown, hts⟩ (c_X7_isWire l E m0 lf tr z0 z1 z2 n y0 y1 y2 at_ rwi y3 y4 sl cr gr y5 y6 rc x0 x1 x2 x3 w) (cwV 1 hts gX7_figure_X7_isWire rfl rfl rfl (by decide +kernel) ⟨Nat.le_of_ble_eq_true rfl, Nat.le_of_ble_eq_true rfl⟩) hK hP [0] rfl 0 rfl rfl rfl rfl hl.1 rfl (catLe (Nat.le_of_ble_eq_true rfl)) dX7_figure_2 ⟨Nat.zero_le _, Nat.zero_le _⟩ (fun r_1 hr_1 => ?_)
  subst hr_1
  refine ifB_ne (P := hasP n w) (tgt := 10) hx hb dX7_figure_5 (by decide) (fun c_2 => ?_) (fun c_2 => ?_)
  ·
    obtain ⟨j, hj, rfl⟩ := hasP_of c_2 hn
    have hix_j : ix (nI j) = j := ix_nI (by omega)
    refine lv_iload_n hx hb dX7_figure_10 rfl (lv_at hl 2 rfl) ?_
    refine lv_iconst (v := 0) hx hb dX7_figure_11 (by decide) ?_
    refine lv_aload_n hx hb dX7_figure_12 rfl (lv_at hl 0 rfl) ?_
    refine crV (As := []) (rest := [.int 0, .int v]) ⟨hx, hb, hml, hown, hts⟩ (c_X7_mostOf l E m0 lf tr z0 z1 z2 n y0 y1 y2 at_ rwi y3 y4 sl cr gr y5 y6 rc x0 x1 x2 x3 kd mn (by first | assumption | omega)) (cwV 0 hts gX7_figure_X7_mostOf rfl rfl rfl (by decide +kernel) ⟨Nat.le_of_ble_eq_true rfl, Nat.le_of_ble_eq_true rfl⟩) hK hP [0, 1, 2] rfl 0 rfl rfl rfl rfl hl.1 rfl (catLe (Nat.le_of_ble_eq_true rfl)) dX7_figure_13 ⟨Nat.zero_le _, Nat.zero_le _⟩ (fun r_3 hr_3 => ?_)
    subst hr_3
    refine crS (As := [.int v, .int 0, .int (woF kd mn n - 1)]) (rest := []) ⟨hx, hb, hml, hown, hts⟩ (c_X7_within l E v 0 (woF kd mn n - 1)) (va_cwS 3 hts gX7_figure_X7_within rfl rfl rfl (by decide +kernel) ⟨Nat.le_of_ble_eq_true rfl, Nat.le_of_ble_eq_true rfl⟩) hK hP [] rfl rfl hl.1 rfl (catLe (Nat.le_of_ble_eq_true rfl)) dX7_figure_16 ⟨Nat.zero_le _, Nat.zero_le _⟩ (fun r_4 hr_4 => ?_)
    subst hr_4
    refine ifB_eq (P := wiP v 0 (woF kd mn n - 1)) (tgt := 31) hx hb dX7_figure_19 (by decide) (fun c_5 => ?_) (fun c_5 => ?_)
    ·
      refine lv_bipush (v := (-2)) hx hb dX7_figure_31 (by decide) ?_
      exact hret _ _ _ dX7_figure_33 (by rw [spFigure, if_neg (not_not_intro c_2), wi_no c_5])
    ·
      have hw1 := c_5.1
      have hw2 := c_5.2
      have hw3 := Int32.not_lt.mp hw2
      refine lv_aload_n hx hb dX7_figure_22 rfl (lv_at hl 0 rfl) ?_
      refine lv_iload_n hx hb dX7_figure_23 rfl (lv_at hl 1 rfl) ?_
      refine lv_iload_n hx hb dX7_figure_24 rfl (lv_at hl 2 rfl) ?_
      refine crV (As := [.int (nI j), .int v]) (rest := []) ⟨hx, hb, hml, hown, hts⟩ (c_X7_figureOf l E m0 lf tr z0 z1 z2 n y0 y1 y2 at_ rwi y3 y4 sl cr gr y5 y6 rc x0 x1 x2 x3 kd mn (nI j) j v (by first | assumption | omega) (by first | assumption | omega) rfl) (cwV 2 hts gX7_figure_X7_figureOf rfl rfl rfl (by decide +kernel) ⟨Nat.le_of_ble_eq_true rfl, Nat.le_of_ble_eq_true rfl⟩) hK hP [0, 1, 2] rfl 0 rfl rfl rfl rfl hl.1 rfl (catLe (Nat.le_of_ble_eq_true rfl)) dX7_figure_25 ⟨Nat.zero_le _, Nat.zero_le _⟩ (fun r_6 hr_6 => ?_)
      subst hr_6
      refine lv_goto (tgt := 33) hx hb dX7_figure_28 (by decide) ?_
      exact hret _ _ _ dX7_figure_33 (by simp [spFigure, c_2, hix_j, c_5, hw1, hw2, hw3])
  ·
    refine lv_iconst (v := (-1)) hx hb dX7_figure_8 (by decide) ?_
    exact hret _ _ _ dX7_figure_9 (by simp [spFigure, c_2])
set_option maxHeartbeats 4000000 in
set_option maxRecDepth 100000 in
theorem c_X7_slide (l : Launch) (E : gE) (sz : Nat) (m0 : Nat) (lf : Int32) (tr : Int32) (z0 : Nat) (z1 : Nat) (z2 : Nat) (n : Nat) (y0 : Nat) (y1 : Nat) (y2 : Nat) (at_ : Int32) (rwi : Int32) (y3 : Nat) (y4 : Nat) (sl : Int32) (cr : Int32) (gr : Int32) (y5 : Nat) (y6 : Nat) (rc : Nat) (x0 : Nat) (x1 : Nat) (x2 : Nat) (x3 : Nat) (kd : Nat → Int32) (mn : Nat → Int32) (pu : Nat → Int32) (w : Int32) (v : Int32) (hFR : FR n kd mn) : Met l yX7_slide wsX7_slide ({ frames := 2, cells := 0, slots := 0, locals := 42 }) (PW E [.ref m0, .int w, .int v] [ob m0 7 [.int lf, .int tr, .ref z0, .ref z1, .ref z2, .int (nI n), .ref y0, .ref y1, .ref y2, .int at_, .int rwi, .ref y3, .ref y4, .int sl, .int cr, .int gr, .ref y5, .ref y6, .int (nI rc), .ref x0, .ref x1, .ref x2, .ref x3], ar E y0 6 kd, ar E y1 6 mn, ar E y2 6 pu] sz) (QWi E (fun r _ => r = spSlide n pu (rmF kd mn) w v) (fun (_ : Unit) => [ob m0 7 [.int lf, .int tr, .ref z0, .ref z1, .ref z2, .int (nI n), .ref y0, .ref y1, .ref y2, .int at_, .int rwi, .ref y3, .ref y4, .int sl, .int cr, .int gr, .ref y5, .ref y6, .int (nI rc), .ref x0, .ref x1, .ref x2, .ref x3], ar E y0 6 kd, ar E y1 6 mn, ar E y2 6 (spSlideP n pu (rmF kd mn) w v)]) (va_A [ob m0 7 [.int lf, .int tr, .ref z0, .ref z1, .ref z2, .int (nI n), .ref y0, .ref y1, .ref y2, .int at_, .int rwi, .ref y3, .ref y4, .int sl, .int cr, .int gr, .ref y5, .ref y6, .int (nI rc), .ref x0, .ref x1, .ref x2, .ref x3], ar E y0 6 kd, ar E y1 6 mn, ar E y2 6 pu] sz)) 0 0 (va_A [ob m0 7 [.int lf, .int tr, .ref z0, .ref z1, .ref z2, .int (nI n), .ref y0, .ref y1, .ref y2, .int at_, .int rwi, .ref y3, .ref y4, .int sl, .int cr, .int gr, .ref y5, .ref y6, .int (nI rc), .ref x0, .ref x1, .ref x2, .ref x3], ar E y0 6 kd, ar E y1 6 mn, ar E y2 6 pu] sz) := by
  refine mkWi (cc := cX7_slide) (maxL := 4) (by decide) rfl (Nat.le_of_ble_eq_true rfl) ?_
  intro p e s m args below meth c QQ A hx hb hml hown hmn hts hK hA hP hD hS hret ls hl
  have hown : s.vm.findClass RX7 = some m.cls := hown
  have hl : lv_has ls 4 [(0, .ref m0), (1, .int w), (2, .int v)] := hl
  have hinX7 : ∀ w ∈ wsX70, w ∈ wsX7_slide := by decide +kernel
  have fl_25 := hts (.fieldLink RX7 25 "GuardAbacusModel" "pushed" "[I") (by decide +kernel)
  have hn := hFR.1
  refine lv_aload_n hx hb dX7_slide_0 rfl (lv_at hl 0 rfl) ?_
  refine lv_iload_n hx hb dX7_slide_1 rfl (lv_at hl 1 rfl) ?_
  refine crV (As := [.int w]) (rest := []) ⟨hx, hb, hml, hown, hts⟩ (c_X7_isWire l E m0 lf tr z0 z1 z2 n y0 y1 y2 at_ rwi y3 y4 sl cr gr y5 y6 rc x0 x1 x2 x3 w) (cwV 1 hts gX7_slide_X7_isWire rfl rfl rfl (by decide +kernel) ⟨Nat.le_of_ble_eq_true rfl, Nat.le_of_ble_eq_true rfl⟩) hK hP [0] rfl 0 rfl rfl rfl rfl hl.1 rfl (catLe (Nat.le_of_ble_eq_true rfl)) dX7_slide_2 ⟨Nat.zero_le _, Nat.zero_le _⟩ (fun r_1 hr_1 => ?_)
  subst hr_1
  refine ifB_ne (P := hasP n w) (tgt := 10) hx hb dX7_slide_5 (by decide) (fun c_2 => ?_) (fun c_2 => ?_)
  ·
    obtain ⟨j, hj, rfl⟩ := hasP_of c_2 hn
    have hix_j : ix (nI j) = j := ix_nI (by omega)
    refine lv_iload_n hx hb dX7_slide_10 rfl (lv_at hl 2 rfl) ?_
    refine lv_iconst (v := 0) hx hb dX7_slide_11 (by decide) ?_
    refine lv_aload_n hx hb dX7_slide_12 rfl (lv_at hl 0 rfl) ?_
    refine lv_iload_n hx hb dX7_slide_13 rfl (lv_at hl 1 rfl) ?_
    refine crV (As := [.int (nI j)]) (rest := [.int 0, .int v]) ⟨hx, hb, hml, hown, hts⟩ (c_X7_roomOf l E m0 lf tr z0 z1 z2 n y0 y1 y2 at_ rwi y3 y4 sl cr gr y5 y6 rc x0 x1 x2 x3 kd mn (nI j) j (by first | assumption | omega) (by first | assumption | omega) rfl) (cwV 1 hts gX7_slide_X7_roomOf rfl rfl rfl (by decide +kernel) ⟨Nat.le_of_ble_eq_true rfl, Nat.le_of_ble_eq_true rfl⟩) hK hP [0, 1, 2] rfl 0 rfl rfl rfl rfl hl.1 rfl (catLe (Nat.le_of_ble_eq_true rfl)) dX7_slide_14 ⟨Nat.zero_le _, Nat.zero_le _⟩ (fun r_3 hr_3 => ?_)
    subst hr_3
    refine crS (As := [.int v, .int 0, .int (roomF (kd j) (mn j))]) (rest := []) ⟨hx, hb, hml, hown, hts⟩ (c_X7_within l E v 0 (roomF (kd j) (mn j))) (va_cwS 3 hts gX7_slide_X7_within rfl rfl rfl (by decide +kernel) ⟨Nat.le_of_ble_eq_true rfl, Nat.le_of_ble_eq_true rfl⟩) hK hP [] rfl rfl hl.1 rfl (catLe (Nat.le_of_ble_eq_true rfl)) dX7_slide_17 ⟨Nat.zero_le _, Nat.zero_le _⟩ (fun r_4 hr_4 => ?_)
    subst hr_4
    refine ifB_ne (P := wiP v 0 (roomF (kd j) (mn j))) (tgt := 26) hx hb dX7_slide_20 (by decide) (fun c_5 => ?_) (fun c_5 => ?_)
    ·
      have hw1 := c_5.1
      have hw2 := c_5.2
      have hw3 := Int32.not_lt.mp hw2
      refine lv_aload_n hx hb dX7_slide_26 rfl (lv_at hl 0 rfl) ?_
      refine va_get (D := E.1) (ci := 7) (v := .ref y2) (C := RX7) (T := TX7) (N := 23) hx hb hts hinX7 hown hK.1 hP 0 rfl rfl 8 (by decide) fl_25 (fun _ h9 => h9) rfl dX7_slide_27 ?_
      refine lv_iload_n hx hb dX7_slide_30 rfl (lv_at hl 1 rfl) ?_
      refine ild hx hb hK hP 3 rfl (j := j) rfl (by omega) (by decide) dX7_slide_31 ?_
      refine lv_istore_n (lv' := [(3, .int (pu j)), (0, .ref m0), (1, .int (nI j)), (2, .int v)]) hx hb dX7_slide_32 rfl hl (by decide) rfl (fun ls hl => ?_)
      refine lv_aload_n hx hb dX7_slide_33 rfl (lv_at hl 1 rfl) ?_
      refine va_get (D := E.1) (ci := 7) (v := .ref y2) (C := RX7) (T := TX7) (N := 23) hx hb hts hinX7 hown hK.1 hP 0 rfl rfl 8 (by decide) fl_25 (fun _ h9 => h9) rfl dX7_slide_34 ?_
      refine lv_iload_n hx hb dX7_slide_37 rfl (lv_at hl 2 rfl) ?_
      refine lv_iload_n hx hb dX7_slide_38 rfl (lv_at hl 3 rfl) ?_
      refine ist hx hb hK hP hD hS 3 rfl (j := j) rfl (by omega) (by decide) dX7_slide_39 (fun H locs hP hD hS => ?_)
      have hP : va_P E.1 vwCl [ob m0 7 [.int lf, .int tr, .ref z0, .ref z1, .ref z2, .int (nI n), .ref y0, .ref y1, .ref y2, .int at_, .int rwi, .ref y3, .ref y4, .int sl, .int cr, .int gr, .ref y5, .ref y6, .int (nI rc), .ref x0, .ref x1, .ref x2, .ref x3], ar E y0 6 kd, ar E y1 6 mn, ar E y2 6 (upd pu j v)] H := hP
      have hD : va_D A [ob m0 7 [.int lf, .int tr, .ref z0, .ref z1, .ref z2, .int (nI n), .ref y0, .ref y1, .ref y2, .int at_, .int rwi, .ref y3, .ref y4, .int sl, .int cr, .int gr, .ref y5, .ref y6, .int (nI rc), .ref x0, .ref x1, .ref x2, .ref x3], ar E y0 6 kd, ar E y1 6 mn, ar E y2 6 (upd pu j v)] := hD
      refine lv_iload_n hx hb dX7_slide_40 rfl (lv_at hl 0 rfl) ?_
      have eo_6 : (spSlideP n pu (rmF kd mn) (nI j) v) = (upd pu j v) := by simp [spSlideP, rmF, c_2, hix_j, c_5, hw1, hw2, hw3]
      exact hret _ _ _ _ _ () dX7_slide_41 hS (by rw [eo_6]; exact hP) (by simp [spSlide, rmF, c_2, hix_j, c_5, hw1, hw2, hw3])
    ·
      refine lv_bipush (v := (-2)) hx hb dX7_slide_23 (by decide) ?_
      have eo : spSlideP n pu (rmF kd mn) (nI j) v = pu := (by rw [spSlideP, if_neg (not_not_intro c_2), hix_j, wi_no c_5])
      exact hret _ _ _ _ _ () dX7_slide_25 hS (by rw [eo]; exact hP) (by rw [spSlide, if_neg (not_not_intro c_2), hix_j, wi_no c_5])
  ·
    refine lv_iconst (v := (-1)) hx hb dX7_slide_8 (by decide) ?_
    have eo_7 : (spSlideP n pu (rmF kd mn) w v) = pu := by simp [spSlideP, rmF, c_2]
    exact hret _ _ _ _ _ () dX7_slide_9 hS (by rw [eo_7]; exact hP) (by simp [spSlide, rmF, c_2])
set_option maxHeartbeats 4000000 in
set_option maxRecDepth 100000 in
theorem c_X7_add (l : Launch) (E : gE) (sz : Nat) (m0 : Nat) (lf : Int32) (tr : Int32) (z0 : Nat) (z1 : Nat) (z2 : Nat) (n : Nat) (y0 : Nat) (y1 : Nat) (y2 : Nat) (at_ : Int32) (rwi : Int32) (y3 : Nat) (y4 : Nat) (sl : Int32) (cr : Int32) (gr : Int32) (y5 : Nat) (y6 : Nat) (rc : Nat) (x0 : Nat) (x1 : Nat) (x2 : Nat) (x3 : Nat) (kd : Nat → Int32) (mn : Nat → Int32) (pu : Nat → Int32) (v : Int32) (hFR : FR n kd mn) : Met l yX7_add wsX7_add ({ frames := 5, cells := 0, slots := 0, locals := 111 }) (PW E [.ref m0, .int v] [ob m0 7 [.int lf, .int tr, .ref z0, .ref z1, .ref z2, .int (nI n), .ref y0, .ref y1, .ref y2, .int at_, .int rwi, .ref y3, .ref y4, .int sl, .int cr, .int gr, .ref y5, .ref y6, .int (nI rc), .ref x0, .ref x1, .ref x2, .ref x3], ar E y0 6 kd, ar E y1 6 mn, ar E y2 6 pu] sz) (QWi E (fun r _ => r = spAdd n (woF kd mn n - 1) pu (rmF kd mn) (woF kd mn) v) (fun (_ : Unit) => [ob m0 7 [.int lf, .int tr, .ref z0, .ref z1, .ref z2, .int (nI n), .ref y0, .ref y1, .ref y2, .int at_, .int rwi, .ref y3, .ref y4, .int sl, .int cr, .int gr, .ref y5, .ref y6, .int (nI rc), .ref x0, .ref x1, .ref x2, .ref x3], ar E y0 6 kd, ar E y1 6 mn, ar E y2 6 (spAddP n (woF kd mn n - 1) pu (rmF kd mn) (woF kd mn) v)]) (va_A [ob m0 7 [.int lf, .int tr, .ref z0, .ref z1, .ref z2, .int (nI n), .ref y0, .ref y1, .ref y2, .int at_, .int rwi, .ref y3, .ref y4, .int sl, .int cr, .int gr, .ref y5, .ref y6, .int (nI rc), .ref x0, .ref x1, .ref x2, .ref x3], ar E y0 6 kd, ar E y1 6 mn, ar E y2 6 pu] sz)) 0 0 (va_A [ob m0 7 [.int lf, .int tr, .ref z0, .ref z1, .ref z2, .int (nI n), .ref y0, .ref y1, .ref y2, .int at_, .int rwi, .ref y3, .ref y4, .int sl, .int cr, .int gr, .ref y5, .ref y6, .int (nI rc), .ref x0, .ref x1, .ref x2, .ref x3], ar E y0 6 kd, ar E y1 6 mn, ar E y2 6 pu] sz) := by
  refine mkWi (cc := cX7_add) (maxL := 3) (by decide) rfl (Nat.le_of_ble_eq_true rfl) ?_
  intro p e s m args below meth c QQ A hx hb hml hown hmn hts hK hA hP hD hS hret ls hl
  have hown : s.vm.findClass RX7 = some m.cls := hown
  have hl : lv_has ls 3 [(0, .ref m0), (1, .int v)] := hl
  have hinX7 : ∀ w ∈ wsX70, w ∈ wsX7_add := by decide +kernel
  have fl_62 := hts (.fieldLink RX7 62 "GuardAbacusModel" "wires" "I") (by decide +kernel)
  have hn := hFR.1
  refine lv_iload_n hx hb dX7_add_0 rfl (lv_at hl 1 rfl) ?_
  refine lv_if_ge (tgt := 7) hx hb dX7_add_1 (by decide) (fun c_1 => ?_) (fun c_1 => ?_)
  ·
    have c_1b := Int32.not_lt.mpr c_1
    refine lv_aload_n hx hb dX7_add_7 rfl (lv_at hl 0 rfl) ?_
    refine va_get (D := E.1) (ci := 7) (v := .int (nI n)) (C := RX7) (T := TX7) (N := 23) hx hb hts hinX7 hown hK.1 hP 0 rfl rfl 5 (by decide) fl_62 (fun _ h9 => h9) rfl dX7_add_8 ?_
    refine ifN_eq (tgt := 22) (a := n) hx hb rfl (by omega) dX7_add_11 (by decide) (fun c_2 => ?_) (fun c_2 => ?_)
    ·
      refine lv_bipush (v := (-3)) hx hb dX7_add_22 (by decide) ?_
      have eo : spAddP n (woF kd mn n - 1) pu (rmF kd mn) (woF kd mn) v = pu := (by rw [spAddP, if_neg c_1b, if_pos (fun h => by have := h.1; omega)])
      exact hret _ _ _ _ _ () dX7_add_24 hS (by rw [eo]; exact hP) (by rw [spAdd, if_neg c_1b, if_pos (fun h => by have := h.1; omega)])
    ·
      refine lv_aload_n hx hb dX7_add_14 rfl (lv_at hl 0 rfl) ?_
      refine lv_iload_n hx hb dX7_add_15 rfl (lv_at hl 1 rfl) ?_
      refine crV (As := [.int v]) (rest := []) ⟨hx, hb, hml, hown, hts⟩ (c_X7_canAdd l E m0 lf tr z0 z1 z2 n y0 y1 y2 at_ rwi y3 y4 sl cr gr y5 y6 rc x0 x1 x2 x3 kd mn pu v (by first | assumption | omega)) (cwV 1 hts gX7_add_X7_canAdd rfl rfl rfl (by decide +kernel) ⟨Nat.le_of_ble_eq_true rfl, Nat.le_of_ble_eq_true rfl⟩) hK hP [0, 1, 2, 3] rfl 0 rfl rfl rfl rfl hl.1 rfl (catLe (Nat.le_of_ble_eq_true rfl)) dX7_add_16 ⟨Nat.zero_le _, Nat.zero_le _⟩ (fun r_3 hr_3 => ?_)
      subst hr_3
      refine ifB_ne (P := ¬ woF kd mn n - 1 - (numF pu (woF kd mn) n) < v) (tgt := 25) hx hb dX7_add_19 (by decide) (fun c_4 => ?_) (fun c_4 => ?_)
      ·
        refine lv_aload_n hx hb dX7_add_25 rfl (lv_at hl 0 rfl) ?_
        refine crV (As := []) (rest := []) ⟨hx, hb, hml, hown, hts⟩ (c_X7_numberNow l E m0 lf tr z0 z1 z2 n y0 y1 y2 at_ rwi y3 y4 sl cr gr y5 y6 rc x0 x1 x2 x3 kd mn pu (by first | assumption | omega)) (cwV 0 hts gX7_add_X7_numberNow rfl rfl rfl (by decide +kernel) ⟨Nat.le_of_ble_eq_true rfl, Nat.le_of_ble_eq_true rfl⟩) hK hP [0, 1, 2, 3] rfl 0 rfl rfl rfl rfl hl.1 rfl (catLe (Nat.le_of_ble_eq_true rfl)) dX7_add_26 ⟨Nat.zero_le _, Nat.zero_le _⟩ (fun r_5 hr_5 => ?_)
        subst hr_5
        refine lv_istore_n (lv' := [(2, .int (numF pu (woF kd mn) n)), (0, .ref m0), (1, .int v)]) hx hb dX7_add_29 rfl hl (by decide) rfl (fun ls hl => ?_)
        refine lv_aload_n hx hb dX7_add_30 rfl (lv_at hl 1 rfl) ?_
        refine lv_iload_n hx hb dX7_add_31 rfl (lv_at hl 0 rfl) ?_
        refine lv_iload_n hx hb dX7_add_32 rfl (lv_at hl 2 rfl) ?_
        refine lv_iadd hx hb dX7_add_33 ?_
        refine cwVv (As := [.int ((numF pu (woF kd mn) n) + v)]) (rest := []) ⟨hx, hb, hml, hown, hts⟩ (c_X7_become l E _ m0 lf tr z0 z1 z2 n y0 y1 y2 at_ rwi y3 y4 sl cr gr y5 y6 rc x0 x1 x2 x3 kd mn pu ((numF pu (woF kd mn) n) + v) (by first | assumption | omega)) (cwV 1 hts gX7_add_X7_become rfl rfl rfl (by decide +kernel) ⟨Nat.le_of_ble_eq_true rfl, Nat.le_of_ble_eq_true rfl⟩) hK hP hD hS hA [0, 1, 2, 3] (by decide) rfl [m0, y0, y1, y2] (fun _ => rfl) rfl 0 rfl rfl rfl rfl hl.1 rfl (catLe (Nat.le_of_ble_eq_true rfl)) dX7_add_34 ⟨Nat.zero_le _, Nat.zero_le _⟩ (fun u_7 H locs hwr_6 hP hD hS => ?_)
        have hP : va_P E.1 vwCl [ob m0 7 [.int lf, .int tr, .ref z0, .ref z1, .ref z2, .int (nI n), .ref y0, .ref y1, .ref y2, .int at_, .int rwi, .ref y3, .ref y4, .int sl, .int cr, .int gr, .ref y5, .ref y6, .int (nI rc), .ref x0, .ref x1, .ref x2, .ref x3], ar E y0 6 kd, ar E y1 6 mn, ar E y2 6 (fil (fun w => figF (woF kd mn w) (rmF kd mn w) ((numF pu (woF kd mn) n) + v)) pu n)] H := hP
        have hD : va_D A [ob m0 7 [.int lf, .int tr, .ref z0, .ref z1, .ref z2, .int (nI n), .ref y0, .ref y1, .ref y2, .int at_, .int rwi, .ref y3, .ref y4, .int sl, .int cr, .int gr, .ref y5, .ref y6, .int (nI rc), .ref x0, .ref x1, .ref x2, .ref x3], ar E y0 6 kd, ar E y1 6 mn, ar E y2 6 (fil (fun w => figF (woF kd mn w) (rmF kd mn w) ((numF pu (woF kd mn) n) + v)) pu n)] := hD
        refine lv_aload_n hx hb dX7_add_37 rfl (lv_at hl 1 rfl) ?_
        refine lv_iload_n hx hb dX7_add_38 rfl (lv_at hl 0 rfl) ?_
        refine lv_iload_n hx hb dX7_add_39 rfl (lv_at hl 0 rfl) ?_
        refine lv_iload_n hx hb dX7_add_40 rfl (lv_at hl 2 rfl) ?_
        refine lv_iadd hx hb dX7_add_41 ?_
        refine crV (As := [.int (numF pu (woF kd mn) n), .int ((numF pu (woF kd mn) n) + v)]) (rest := []) ⟨hx, hb, hml, hown, hts⟩ (c_X7_slidBetween l E m0 lf tr z0 z1 z2 n y0 y1 y2 at_ rwi y3 y4 sl cr gr y5 y6 rc x0 x1 x2 x3 kd mn (numF pu (woF kd mn) n) ((numF pu (woF kd mn) n) + v) (by first | assumption | omega)) (cwV 2 hts gX7_add_X7_slidBetween rfl rfl rfl (by decide +kernel) ⟨Nat.le_of_ble_eq_true rfl, Nat.le_of_ble_eq_true rfl⟩) hK hP [0, 1, 2] rfl 0 rfl rfl rfl rfl hl.1 rfl (catLe (Nat.le_of_ble_eq_true rfl)) dX7_add_42 ⟨Nat.zero_le _, Nat.zero_le _⟩ (fun r_8 hr_8 => ?_)
        subst hr_8
        have eo : spAddP n (woF kd mn n - 1) pu (rmF kd mn) (woF kd mn) v = (fil (fun w => figF (woF kd mn w) (rmF kd mn w) ((numF pu (woF kd mn) n) + v)) pu n) := (by rw [spAddP, if_neg c_1b, if_neg (not_not_intro (⟨by omega, c_4⟩))])
        exact hret _ _ _ _ _ () dX7_add_45 hS (by rw [eo]; exact hP) (by rw [spAdd, if_neg c_1b, if_neg (not_not_intro (⟨by omega, c_4⟩))])
      ·
        refine lv_bipush (v := (-3)) hx hb dX7_add_22 (by decide) ?_
        have eo : spAddP n (woF kd mn n - 1) pu (rmF kd mn) (woF kd mn) v = pu := (by rw [spAddP, if_neg c_1b, if_pos (fun h => c_4 h.2)])
        exact hret _ _ _ _ _ () dX7_add_24 hS (by rw [eo]; exact hP) (by rw [spAdd, if_neg c_1b, if_pos (fun h => c_4 h.2)])
  ·
    have c_1b := Int32.not_le.mp c_1
    refine lv_bipush (v := (-2)) hx hb dX7_add_4 (by decide) ?_
    have eo : spAddP n (woF kd mn n - 1) pu (rmF kd mn) (woF kd mn) v = pu := (by rw [spAddP, if_pos c_1b])
    exact hret _ _ _ _ _ () dX7_add_6 hS (by rw [eo]; exact hP) (by rw [spAdd, if_pos c_1b])
set_option maxHeartbeats 4000000 in
set_option maxRecDepth 100000 in
theorem c_X7_take (l : Launch) (E : gE) (sz : Nat) (m0 : Nat) (lf : Int32) (tr : Int32) (z0 : Nat) (z1 : Nat) (z2 : Nat) (n : Nat) (y0 : Nat) (y1 : Nat) (y2 : Nat) (at_ : Int32) (rwi : Int32) (y3 : Nat) (y4 : Nat) (sl : Int32) (cr : Int32) (gr : Int32) (y5 : Nat) (y6 : Nat) (rc : Nat) (x0 : Nat) (x1 : Nat) (x2 : Nat) (x3 : Nat) (kd : Nat → Int32) (mn : Nat → Int32) (pu : Nat → Int32) (v : Int32) (hFR : FR n kd mn) : Met l yX7_take wsX7_take ({ frames := 5, cells := 0, slots := 0, locals := 111 }) (PW E [.ref m0, .int v] [ob m0 7 [.int lf, .int tr, .ref z0, .ref z1, .ref z2, .int (nI n), .ref y0, .ref y1, .ref y2, .int at_, .int rwi, .ref y3, .ref y4, .int sl, .int cr, .int gr, .ref y5, .ref y6, .int (nI rc), .ref x0, .ref x1, .ref x2, .ref x3], ar E y0 6 kd, ar E y1 6 mn, ar E y2 6 pu] sz) (QWi E (fun r _ => r = spTake n pu (rmF kd mn) (woF kd mn) v) (fun (_ : Unit) => [ob m0 7 [.int lf, .int tr, .ref z0, .ref z1, .ref z2, .int (nI n), .ref y0, .ref y1, .ref y2, .int at_, .int rwi, .ref y3, .ref y4, .int sl, .int cr, .int gr, .ref y5, .ref y6, .int (nI rc), .ref x0, .ref x1, .ref x2, .ref x3], ar E y0 6 kd, ar E y1 6 mn, ar E y2 6 (spTakeP n pu (rmF kd mn) (woF kd mn) v)]) (va_A [ob m0 7 [.int lf, .int tr, .ref z0, .ref z1, .ref z2, .int (nI n), .ref y0, .ref y1, .ref y2, .int at_, .int rwi, .ref y3, .ref y4, .int sl, .int cr, .int gr, .ref y5, .ref y6, .int (nI rc), .ref x0, .ref x1, .ref x2, .ref x3], ar E y0 6 kd, ar E y1 6 mn, ar E y2 6 pu] sz)) 0 0 (va_A [ob m0 7 [.int lf, .int tr, .ref z0, .ref z1, .ref z2, .int (nI n), .ref y0, .ref y1, .ref y2, .int at_, .int rwi, .ref y3, .ref y4, .int sl, .int cr, .int gr, .ref y5, .ref y6, .int (nI rc), .ref x0, .ref x1, .ref x2, .ref x3], ar E y0 6 kd, ar E y1 6 mn, ar E y2 6 pu] sz) := by
  refine mkWi (cc := cX7_take) (maxL := 3) (by decide) rfl (Nat.le_of_ble_eq_true rfl) ?_
  intro p e s m args below meth c QQ A hx hb hml hown hmn hts hK hA hP hD hS hret ls hl
  have hown : s.vm.findClass RX7 = some m.cls := hown
  have hl : lv_has ls 3 [(0, .ref m0), (1, .int v)] := hl
  have hinX7 : ∀ w ∈ wsX70, w ∈ wsX7_take := by decide +kernel
  have fl_62 := hts (.fieldLink RX7 62 "GuardAbacusModel" "wires" "I") (by decide +kernel)
  have hn := hFR.1
  refine lv_iload_n hx hb dX7_take_0 rfl (lv_at hl 1 rfl) ?_
  refine lv_if_ge (tgt := 7) hx hb dX7_take_1 (by decide) (fun c_1 => ?_) (fun c_1 => ?_)
  ·
    have c_1b := Int32.not_lt.mpr c_1
    refine lv_aload_n hx hb dX7_take_7 rfl (lv_at hl 0 rfl) ?_
    refine crV (As := []) (rest := []) ⟨hx, hb, hml, hown, hts⟩ (c_X7_numberNow l E m0 lf tr z0 z1 z2 n y0 y1 y2 at_ rwi y3 y4 sl cr gr y5 y6 rc x0 x1 x2 x3 kd mn pu (by first | assumption | omega)) (cwV 0 hts gX7_take_X7_numberNow rfl rfl rfl (by decide +kernel) ⟨Nat.le_of_ble_eq_true rfl, Nat.le_of_ble_eq_true rfl⟩) hK hP [0, 1, 2, 3] rfl 0 rfl rfl rfl rfl hl.1 rfl (catLe (Nat.le_of_ble_eq_true rfl)) dX7_take_8 ⟨Nat.zero_le _, Nat.zero_le _⟩ (fun r_2 hr_2 => ?_)
    subst hr_2
    refine lv_istore_n (lv' := [(2, .int (numF pu (woF kd mn) n)), (0, .ref m0), (1, .int v)]) hx hb dX7_take_11 rfl hl (by decide) rfl (fun ls hl => ?_)
    refine lv_aload_n hx hb dX7_take_12 rfl (lv_at hl 1 rfl) ?_
    refine va_get (D := E.1) (ci := 7) (v := .int (nI n)) (C := RX7) (T := TX7) (N := 23) hx hb hts hinX7 hown hK.1 hP 0 rfl rfl 5 (by decide) fl_62 (fun _ h9 => h9) rfl dX7_take_13 ?_
    refine ifN_eq (tgt := 24) (a := n) hx hb rfl (by omega) dX7_take_16 (by decide) (fun c_3 => ?_) (fun c_3 => ?_)
    ·
      refine lv_bipush (v := (-3)) hx hb dX7_take_24 (by decide) ?_
      have eo : spTakeP n pu (rmF kd mn) (woF kd mn) v = pu := (by rw [spTakeP, if_neg c_1b, if_pos (fun h => by have := h.1; omega)])
      exact hret _ _ _ _ _ () dX7_take_26 hS (by rw [eo]; exact hP) (by rw [spTake, if_neg c_1b, if_pos (fun h => by have := h.1; omega)])
    ·
      refine lv_iload_n hx hb dX7_take_19 rfl (lv_at hl 2 rfl) ?_
      refine lv_iload_n hx hb dX7_take_20 rfl (lv_at hl 0 rfl) ?_
      refine lv_icmp_le (tgt := 27) hx hb dX7_take_21 (by decide) (fun c_4 => ?_) (fun c_4 => ?_)
      ·
        have c_4b := Int32.not_lt.mpr c_4
        refine lv_aload_n hx hb dX7_take_27 rfl (lv_at hl 1 rfl) ?_
        refine lv_iload_n hx hb dX7_take_28 rfl (lv_at hl 0 rfl) ?_
        refine lv_iload_n hx hb dX7_take_29 rfl (lv_at hl 2 rfl) ?_
        refine lv_isub hx hb dX7_take_30 ?_
        refine cwVv (As := [.int ((numF pu (woF kd mn) n) - v)]) (rest := []) ⟨hx, hb, hml, hown, hts⟩ (c_X7_become l E _ m0 lf tr z0 z1 z2 n y0 y1 y2 at_ rwi y3 y4 sl cr gr y5 y6 rc x0 x1 x2 x3 kd mn pu ((numF pu (woF kd mn) n) - v) (by first | assumption | omega)) (cwV 1 hts gX7_take_X7_become rfl rfl rfl (by decide +kernel) ⟨Nat.le_of_ble_eq_true rfl, Nat.le_of_ble_eq_true rfl⟩) hK hP hD hS hA [0, 1, 2, 3] (by decide) rfl [m0, y0, y1, y2] (fun _ => rfl) rfl 0 rfl rfl rfl rfl hl.1 rfl (catLe (Nat.le_of_ble_eq_true rfl)) dX7_take_31 ⟨Nat.zero_le _, Nat.zero_le _⟩ (fun u_6 H locs hwr_5 hP hD hS => ?_)
        have hP : va_P E.1 vwCl [ob m0 7 [.int lf, .int tr, .ref z0, .ref z1, .ref z2, .int (nI n), .ref y0, .ref y1, .ref y2, .int at_, .int rwi, .ref y3, .ref y4, .int sl, .int cr, .int gr, .ref y5, .ref y6, .int (nI rc), .ref x0, .ref x1, .ref x2, .ref x3], ar E y0 6 kd, ar E y1 6 mn, ar E y2 6 (fil (fun w => figF (woF kd mn w) (rmF kd mn w) ((numF pu (woF kd mn) n) - v)) pu n)] H := hP
        have hD : va_D A [ob m0 7 [.int lf, .int tr, .ref z0, .ref z1, .ref z2, .int (nI n), .ref y0, .ref y1, .ref y2, .int at_, .int rwi, .ref y3, .ref y4, .int sl, .int cr, .int gr, .ref y5, .ref y6, .int (nI rc), .ref x0, .ref x1, .ref x2, .ref x3], ar E y0 6 kd, ar E y1 6 mn, ar E y2 6 (fil (fun w => figF (woF kd mn w) (rmF kd mn w) ((numF pu (woF kd mn) n) - v)) pu n)] := hD
        refine lv_aload_n hx hb dX7_take_34 rfl (lv_at hl 1 rfl) ?_
        refine lv_iload_n hx hb dX7_take_35 rfl (lv_at hl 0 rfl) ?_
        refine lv_iload_n hx hb dX7_take_36 rfl (lv_at hl 0 rfl) ?_
        refine lv_iload_n hx hb dX7_take_37 rfl (lv_at hl 2 rfl) ?_
        refine lv_isub hx hb dX7_take_38 ?_
        refine crV (As := [.int (numF pu (woF kd mn) n), .int ((numF pu (woF kd mn) n) - v)]) (rest := []) ⟨hx, hb, hml, hown, hts⟩ (c_X7_slidBetween l E m0 lf tr z0 z1 z2 n y0 y1 y2 at_ rwi y3 y4 sl cr gr y5 y6 rc x0 x1 x2 x3 kd mn (numF pu (woF kd mn) n) ((numF pu (woF kd mn) n) - v) (by first | assumption | omega)) (cwV 2 hts gX7_take_X7_slidBetween rfl rfl rfl (by decide +kernel) ⟨Nat.le_of_ble_eq_true rfl, Nat.le_of_ble_eq_true rfl⟩) hK hP [0, 1, 2] rfl 0 rfl rfl rfl rfl hl.1 rfl (catLe (Nat.le_of_ble_eq_true rfl)) dX7_take_39 ⟨Nat.zero_le _, Nat.zero_le _⟩ (fun r_7 hr_7 => ?_)
        subst hr_7
        have eo : spTakeP n pu (rmF kd mn) (woF kd mn) v = (fil (fun w => figF (woF kd mn w) (rmF kd mn w) ((numF pu (woF kd mn) n) - v)) pu n) := (by rw [spTakeP, if_neg c_1b, if_neg (not_not_intro ⟨by omega, c_4b⟩)])
        exact hret _ _ _ _ _ () dX7_take_42 hS (by rw [eo]; exact hP) (by rw [spTake, if_neg c_1b, if_neg (not_not_intro ⟨by omega, c_4b⟩)])
      ·
        have c_4b := Int32.not_le.mp c_4
        refine lv_bipush (v := (-3)) hx hb dX7_take_24 (by decide) ?_
        have eo : spTakeP n pu (rmF kd mn) (woF kd mn) v = pu := (by rw [spTakeP, if_neg c_1b, if_pos (fun h => h.2 c_4b)])
        exact hret _ _ _ _ _ () dX7_take_26 hS (by rw [eo]; exact hP) (by rw [spTake, if_neg c_1b, if_pos (fun h => h.2 c_4b)])
  ·
    have c_1b := Int32.not_le.mp c_1
    refine lv_bipush (v := (-2)) hx hb dX7_take_4 (by decide) ?_
    have eo : spTakeP n pu (rmF kd mn) (woF kd mn) v = pu := (by rw [spTakeP, if_pos c_1b])
    exact hret _ _ _ _ _ () dX7_take_6 hS (by rw [eo]; exact hP) (by rw [spTake, if_pos c_1b])
set_option maxHeartbeats 4000000 in
set_option maxRecDepth 100000 in
theorem c_X7_work (l : Launch) (E : gE) (m0 : Nat) (lf : Int32) (tr : Int32) (z0 : Nat) (z1 : Nat) (z2 : Nat) (n : Nat) (y0 : Nat) (y1 : Nat) (y2 : Nat) (at_ : Int32) (rwi : Int32) (y3 : Nat) (y4 : Nat) (sl : Int32) (cr : Int32) (gr : Int32) (y5 : Nat) (y6 : Nat) (rc : Nat) (x0 : Nat) (x1 : Nat) (x2 : Nat) (x3 : Nat) (kd : Nat → Int32) (mn : Nat → Int32) (pu : Nat → Int32) (v : Int32) (what : Int32) (hFR : FR n kd mn) : Met l yX7_work wsX7_work ({ frames := 5, cells := 0, slots := 0, locals := 112 }) (PR E [.ref m0, .int v, .int what] [ob m0 7 [.int lf, .int tr, .ref z0, .ref z1, .ref z2, .int (nI n), .ref y0, .ref y1, .ref y2, .int at_, .int rwi, .ref y3, .ref y4, .int sl, .int cr, .int gr, .ref y5, .ref y6, .int (nI rc), .ref x0, .ref x1, .ref x2, .ref x3], ar E y0 6 kd, ar E y1 6 mn, ar E y2 6 pu]) (vp_Si (fun r => r = spWork n (woF kd mn n - 1) pu (rmF kd mn) (woF kd mn) v what)) 0 0 (fun _ => False) := by
  refine mkRi (cc := cX7_work) (maxL := 4) (by decide) rfl (Nat.le_of_ble_eq_true rfl) ?_
  intro p e s m args below meth c QQ hx hb hml hown hmn hts hK hP hret ls hl
  have hown : s.vm.findClass RX7 = some m.cls := hown
  have hl : lv_has ls 4 [(0, .ref m0), (1, .int v), (2, .int what)] := hl
  have hinX7 : ∀ w ∈ wsX70, w ∈ wsX7_work := by decide +kernel
  have fl_62 := hts (.fieldLink RX7 62 "GuardAbacusModel" "wires" "I") (by decide +kernel)
  have hn := hFR.1
  refine lv_iload_n hx hb dX7_work_0 rfl (lv_at hl 1 rfl) ?_
  refine lv_if_lt (tgt := 13) hx hb dX7_work_1 (by decide) (fun c_1 => ?_) (fun c_1 => ?_)
  ·
    have c_1b := Int32.not_le.mpr c_1
    refine lv_bipush (v := (-2)) hx hb dX7_work_13 (by decide) ?_
    exact hret _ _ _ dX7_work_15 (by rw [spWork, if_pos c_1])
  ·
    have c_1b := Int32.not_lt.mp c_1
    refine lv_iload_n hx hb dX7_work_4 rfl (lv_at hl 2 rfl) ?_
    refine lv_iconst (v := 0) hx hb dX7_work_5 (by decide) ?_
    refine lv_iconst (v := 1) hx hb dX7_work_6 (by decide) ?_
    refine crS (As := [.int what, .int 0, .int 1]) (rest := []) ⟨hx, hb, hml, hown, hts⟩ (c_X7_within l E what 0 1) (va_cwS 3 hts gX7_work_X7_within rfl rfl rfl (by decide +kernel) ⟨Nat.le_of_ble_eq_true rfl, Nat.le_of_ble_eq_true rfl⟩) hK hP [] rfl rfl hl.1 rfl (catLe (Nat.le_of_ble_eq_true rfl)) dX7_work_7 ⟨Nat.zero_le _, Nat.zero_le _⟩ (fun r_2 hr_2 => ?_)
    subst hr_2
    refine ifB_ne (P := wiP what 0 1) (tgt := 16) hx hb dX7_work_10 (by decide) (fun c_3 => ?_) (fun c_3 => ?_)
    ·
      refine lv_aload_n hx hb dX7_work_16 rfl (lv_at hl 0 rfl) ?_
      refine va_get (D := E.1) (ci := 7) (v := .int (nI n)) (C := RX7) (T := TX7) (N := 23) hx hb hts hinX7 hown hK.1 hP 0 rfl rfl 5 (by decide) fl_62 (fun _ h9 => h9) rfl dX7_work_17 ?_
      refine ifN_eq (tgt := 31) (a := n) hx hb rfl (by omega) dX7_work_20 (by decide) (fun c_4 => ?_) (fun c_4 => ?_)
      ·
        refine lv_bipush (v := (-3)) hx hb dX7_work_31 (by decide) ?_
        exact hret _ _ _ dX7_work_33 (by rw [spWork, if_neg c_1, if_neg c_3.1, if_neg (not_not_intro (Int32.not_lt.mp c_3.2)), if_pos (fun h => by have := h.1; omega)])
      ·
        refine lv_aload_n hx hb dX7_work_23 rfl (lv_at hl 0 rfl) ?_
        refine lv_iload_n hx hb dX7_work_24 rfl (lv_at hl 1 rfl) ?_
        refine crV (As := [.int v]) (rest := []) ⟨hx, hb, hml, hown, hts⟩ (c_X7_canAdd l E m0 lf tr z0 z1 z2 n y0 y1 y2 at_ rwi y3 y4 sl cr gr y5 y6 rc x0 x1 x2 x3 kd mn pu v (by first | assumption | omega)) (cwV 1 hts gX7_work_X7_canAdd rfl rfl rfl (by decide +kernel) ⟨Nat.le_of_ble_eq_true rfl, Nat.le_of_ble_eq_true rfl⟩) hK hP [0, 1, 2, 3] rfl 0 rfl rfl rfl rfl hl.1 rfl (catLe (Nat.le_of_ble_eq_true rfl)) dX7_work_25 ⟨Nat.zero_le _, Nat.zero_le _⟩ (fun r_5 hr_5 => ?_)
        subst hr_5
        refine ifB_ne (P := ¬ woF kd mn n - 1 - (numF pu (woF kd mn) n) < v) (tgt := 34) hx hb dX7_work_28 (by decide) (fun c_6 => ?_) (fun c_6 => ?_)
        ·
          refine lv_aload_n hx hb dX7_work_34 rfl (lv_at hl 0 rfl) ?_
          refine crV (As := []) (rest := []) ⟨hx, hb, hml, hown, hts⟩ (c_X7_numberNow l E m0 lf tr z0 z1 z2 n y0 y1 y2 at_ rwi y3 y4 sl cr gr y5 y6 rc x0 x1 x2 x3 kd mn pu (by first | assumption | omega)) (cwV 0 hts gX7_work_X7_numberNow rfl rfl rfl (by decide +kernel) ⟨Nat.le_of_ble_eq_true rfl, Nat.le_of_ble_eq_true rfl⟩) hK hP [0, 1, 2, 3] rfl 0 rfl rfl rfl rfl hl.1 rfl (catLe (Nat.le_of_ble_eq_true rfl)) dX7_work_35 ⟨Nat.zero_le _, Nat.zero_le _⟩ (fun r_7 hr_7 => ?_)
          subst hr_7
          refine lv_istore_n (lv' := [(3, .int (numF pu (woF kd mn) n)), (0, .ref m0), (1, .int v), (2, .int what)]) hx hb dX7_work_38 rfl hl (by decide) rfl (fun ls hl => ?_)
          refine lv_iload_n hx hb dX7_work_39 rfl (lv_at hl 3 rfl) ?_
          refine lv_if_ne (tgt := 54) hx hb dX7_work_40 (by decide) (fun c_8 => ?_) (fun c_8 => ?_)
          ·
            refine lv_aload_n hx hb dX7_work_54 rfl (lv_at hl 1 rfl) ?_
            refine lv_iload_n hx hb dX7_work_55 rfl (lv_at hl 0 rfl) ?_
            refine lv_iload_n hx hb dX7_work_56 rfl (lv_at hl 2 rfl) ?_
            refine crV (As := [.int (numF pu (woF kd mn) n), .int v]) (rest := []) ⟨hx, hb, hml, hown, hts⟩ (c_X7_carriedBy l E m0 lf tr z0 z1 z2 n y0 y1 y2 at_ rwi y3 y4 sl cr gr y5 y6 rc x0 x1 x2 x3 kd mn (numF pu (woF kd mn) n) v (by first | assumption | omega)) (cwV 2 hts gX7_work_X7_carriedBy rfl rfl rfl (by decide +kernel) ⟨Nat.le_of_ble_eq_true rfl, Nat.le_of_ble_eq_true rfl⟩) hK hP [0, 1, 2] rfl 0 rfl rfl rfl rfl hl.1 rfl (catLe (Nat.le_of_ble_eq_true rfl)) dX7_work_57 ⟨Nat.zero_le _, Nat.zero_le _⟩ (fun r_9 hr_9 => ?_)
            subst hr_9
            exact hret _ _ _ dX7_work_60 (by rw [spWork, if_neg c_1, if_neg c_3.1, if_neg (not_not_intro (Int32.not_lt.mp c_3.2)), if_neg (not_not_intro (⟨by omega, c_6⟩)), if_neg c_8])
          ·
            refine lv_aload_n hx hb dX7_work_43 rfl (lv_at hl 1 rfl) ?_
            refine lv_iload_n hx hb dX7_work_44 rfl (lv_at hl 0 rfl) ?_
            refine lv_iload_n hx hb dX7_work_45 rfl (lv_at hl 0 rfl) ?_
            refine lv_iload_n hx hb dX7_work_46 rfl (lv_at hl 2 rfl) ?_
            refine lv_iadd hx hb dX7_work_47 ?_
            refine crV (As := [.int (numF pu (woF kd mn) n), .int ((numF pu (woF kd mn) n) + v)]) (rest := []) ⟨hx, hb, hml, hown, hts⟩ (c_X7_slidBetween l E m0 lf tr z0 z1 z2 n y0 y1 y2 at_ rwi y3 y4 sl cr gr y5 y6 rc x0 x1 x2 x3 kd mn (numF pu (woF kd mn) n) ((numF pu (woF kd mn) n) + v) (by first | assumption | omega)) (cwV 2 hts gX7_work_X7_slidBetween rfl rfl rfl (by decide +kernel) ⟨Nat.le_of_ble_eq_true rfl, Nat.le_of_ble_eq_true rfl⟩) hK hP [0, 1, 2] rfl 0 rfl rfl rfl rfl hl.1 rfl (catLe (Nat.le_of_ble_eq_true rfl)) dX7_work_48 ⟨Nat.zero_le _, Nat.zero_le _⟩ (fun r_10 hr_10 => ?_)
            subst hr_10
            refine lv_goto (tgt := 60) hx hb dX7_work_51 (by decide) ?_
            exact hret _ _ _ dX7_work_60 (by rw [spWork, if_neg c_1, if_neg c_3.1, if_neg (not_not_intro (Int32.not_lt.mp c_3.2)), if_neg (not_not_intro (⟨by omega, c_6⟩)), if_pos c_8])
        ·
          refine lv_bipush (v := (-3)) hx hb dX7_work_31 (by decide) ?_
          exact hret _ _ _ dX7_work_33 (by rw [spWork, if_neg c_1, if_neg c_3.1, if_neg (not_not_intro (Int32.not_lt.mp c_3.2)), if_pos (fun h => c_6 h.2)])
    ·
      refine lv_bipush (v := (-2)) hx hb dX7_work_13 (by decide) ?_
      exact hret _ _ _ dX7_work_15 (by rw [spWork, if_neg c_1, wi_no c_3])
