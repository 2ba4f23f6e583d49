set_option maxHeartbeats 4000000 in
set_option maxRecDepth 100000 in
theorem c_X7_ordersOf (l : Launch) (E : gE) (n : Nat) (hn6 : n ≤ 6) : Met l yX7_ordersOf wsX7_ordersOf ({ frames := 0, cells := 0, slots := 0, locals := 0 }) (PR E [.int (nI n)] []) (vp_Si (fun r => r = nI (facN n))) 0 0 (fun _ => False) := by
  refine mkRi (cc := cX7_ordersOf) (maxL := 3) (by decide) rfl (Nat.le_of_ble_eq_true rfl) ?_
  intro p e s m args below meth c QQ hx hb hml hown hmn hts hK hP hret ls hl
  have hown : s.vm.findClass RX7 = some m.cls := hown
  have hl : lv_has ls 3 [(0, .int (nI n))] := hl
  refine lv_iconst (v := 1) hx hb dX7_ordersOf_0 (by decide) ?_
  refine lv_istore_n (lv' := [(1, .int 1), (0, .int (nI n))]) hx hb dX7_ordersOf_1 rfl hl (by decide) rfl (fun ls hl => ?_)
  refine lv_iconst (v := 2) hx hb dX7_ordersOf_2 (by decide) ?_
  refine lv_istore_n (lv' := [(2, .int 2), (1, .int 1), (0, .int (nI n))]) hx hb dX7_ordersOf_3 rfl hl (by decide) rfl (fun ls hl => ?_)
  have L4 : ∀ (fuel : Nat) (k : Nat), (k + 1 ≤ max n 1) → (7 - k) < fuel → ∀ ls : Array Slot, lv_has ls 3 [(2, .int (nI (k + 2))), (1, .int (nI (facN (k + 1)))), (0, .int (nI n))] → W p l e ({ frames := 0, cells := 0, slots := 0, locals := 0 }) s m args below meth c s.heap [] 0 0 QQ (F0 m 4 ls []) := by
    intro fuel
    induction fuel with
    | zero => intro k hk hf; exact absurd hf (Nat.not_lt_zero _)
    | succ fuel ih4 =>
      intro k hk hf4 ls hl
      refine lv_iload_n hx hb dX7_ordersOf_4 rfl (lv_at hl 0 rfl) ?_
      refine lv_iload_n hx hb dX7_ordersOf_5 rfl (lv_at hl 2 rfl) ?_
      refine icmpN_gt (tgt := 19) (a := k + 2) (b := n) hx hb rfl rfl (by omega) (by omega) dX7_ordersOf_6 (by decide) (fun c_1 => ?_) (fun c_1 => ?_)
      ·
        refine lv_iload_n hx hb dX7_ordersOf_19 rfl (lv_at hl 1 rfl) ?_
        exact hret _ _ _ dX7_ordersOf_20 (congrArg nI (by rcases Nat.eq_zero_or_pos n with z | z; (rw [show k = 0 by omega, z]; rfl); (rw [show n = k + 1 by omega])))
      ·
        refine lv_iload_n hx hb dX7_ordersOf_9 rfl (lv_at hl 1 rfl) ?_
        refine lv_iload_n hx hb dX7_ordersOf_10 rfl (lv_at hl 0 rfl) ?_
        refine N_imul (a := facN (k + 1)) (b := k + 2) hx hb rfl rfl dX7_ordersOf_11 ?_
        refine lv_istore_n (lv' := [(1, .int (nI ((facN (k + 1)) * (k + 2)))), (2, .int (nI (k + 2))), (0, .int (nI n))]) hx hb dX7_ordersOf_12 rfl hl (by decide) rfl (fun ls hl => ?_)
        refine lv_iinc (v := nI ((k + 2) + 1)) (lv' := [(2, .int (nI ((k + 2) + 1))), (1, .int (nI ((facN (k + 1)) * (k + 2)))), (0, .int (nI n))]) hx hb dX7_ordersOf_13 hl (k := 1) rfl (nI_inc (k + 2)) (by decide) rfl (fun ls hl => ?_)
        refine lv_goto (tgt := 4) hx hb dX7_ordersOf_16 (by decide) ?_
        exact ih4 (k + 1) (by omega) (by omega) ls (lv_sub hl [0, 1, 2] rfl)
  exact L4 _ 0 (by omega) (Nat.lt_succ_self _) ls (lv_sub hl [0, 1, 2] rfl)
set_option maxHeartbeats 4000000 in
set_option maxRecDepth 100000 in
theorem c_X7_slidByRow (l : Launch) (E : gE) (m0 : Nat) (lf : Int32) (tr : Int32) (z0 : Nat) (z1 : Nat) (z2 : Nat) (n : Nat) (y0 : Nat) (y1 : Nat) (y2 : Nat) (at_ : Int32) (rwi : Int32) (y3 : Nat) (y4 : Nat) (sl : Int32) (cr : Int32) (gr : Int32) (y5 : Nat) (y6 : Nat) (rc : Nat) (x0 : Nat) (x1 : Nat) (x2 : Nat) (x3 : Nat) (kd : Nat → Int32) (mn : Nat → Int32) (pu : Nat → Int32) (cc : Nat → Int32) (rw_ : Nat → Int32) (b : Nat) (i : Nat) (nn : Nat) (hFR : FR n kd mn) (hin : b + i + nn ≤ 240) (hn6 : nn ≤ 6) (hrow : ∀ q, q < nn → ∃ y : Nat, y < nn ∧ rw_ q = nI y) : Met l yX7_slidByRow wsX7_slidByRow ({ frames := 5, cells := 0, slots := 0, locals := 111 }) (PR E [.ref m0, .int (nI (b + i)), .int (nI nn)] [ob m0 7 [.int lf, .int tr, .ref z0, .ref z1, .ref z2, .int (nI n), .ref y0, .ref y1, .ref y2, .int at_, .int rwi, .ref y3, .ref y4, .int sl, .int cr, .int gr, .ref y5, .ref y6, .int (nI rc), .ref x0, .ref x1, .ref x2, .ref x3], ar E y0 6 kd, ar E y1 6 mn, ar E y2 6 pu, ar E z2 240 cc, ar E y5 6 rw_]) (vp_Si (fun r => r = (slR (rmF kd mn) (woF kd mn) n (fun q => cc (b + (i + q))) rw_ (numF pu (woF kd mn) n) nn).2)) 0 0 (fun _ => False) := by
  refine mkRi (cc := cX7_slidByRow) (maxL := 7) (by decide) rfl (Nat.le_of_ble_eq_true rfl) ?_
  intro p e s m args below meth c QQ hx hb hml hown hmn hts hK hP hret ls hl
  have hown : s.vm.findClass RX7 = some m.cls := hown
  have hl : lv_has ls 7 [(0, .ref m0), (1, .int (nI (b + i))), (2, .int (nI nn))] := hl
  have hinX7 : ∀ w ∈ wsX70, w ∈ wsX7_slidByRow := by decide +kernel
  have fl_16 := hts (.fieldLink RX7 16 "GuardAbacusModel" "cells" "[I") (by decide +kernel)
  have fl_34 := hts (.fieldLink RX7 34 "GuardAbacusModel" "row" "[I") (by decide +kernel)
  have hn := hFR.1
  refine lv_aload_n hx hb dX7_slidByRow_0 rfl (lv_at hl 0 rfl) ?_
  refine crV (As := []) (rest := []) ⟨hx, hb, hml, hown, hts⟩ (c_X7_numberNow l E m0 lf tr z0 z1 z2 n y0 y1 y2 at_ rwi y3 y4 sl cr gr y5 y6 rc x0 x1 x2 x3 kd mn pu (by first | assumption | omega)) (cwV 0 hts gX7_slidByRow_X7_numberNow rfl rfl rfl (by decide +kernel) ⟨Nat.le_of_ble_eq_true rfl, Nat.le_of_ble_eq_true rfl⟩) hK hP [0, 1, 2, 3] rfl 0 rfl rfl rfl rfl hl.1 rfl (catLe (Nat.le_of_ble_eq_true rfl)) dX7_slidByRow_1 ⟨Nat.zero_le _, Nat.zero_le _⟩ (fun r_1 hr_1 => ?_)
  subst hr_1
  refine lv_istore_n (lv' := [(3, .int (numF pu (woF kd mn) n)), (0, .ref m0), (1, .int (nI (b + i))), (2, .int (nI nn))]) hx hb dX7_slidByRow_4 rfl hl (by decide) rfl (fun ls hl => ?_)
  refine lv_iconst (v := 0) hx hb dX7_slidByRow_5 (by decide) ?_
  refine lv_istore (lv' := [(4, .int 0), (3, .int (numF pu (woF kd mn) n)), (0, .ref m0), (1, .int (nI (b + i))), (2, .int (nI nn))]) hx hb dX7_slidByRow_6 hl (by decide) rfl (fun ls hl => ?_)
  refine lv_iconst (v := 0) hx hb dX7_slidByRow_8 (by decide) ?_
  refine lv_istore (lv' := [(5, .int 0), (4, .int 0), (3, .int (numF pu (woF kd mn) n)), (0, .ref m0), (1, .int (nI (b + i))), (2, .int (nI nn))]) hx hb dX7_slidByRow_9 hl (by decide) rfl (fun ls hl => ?_)
  have L11 : ∀ (fuel : Nat) (k : Nat), (k ≤ nn) → (nn - k) < fuel → ∀ ls : Array Slot, lv_has ls 7 [(5, .int (nI k)), (4, .int ((slR (rmF kd mn) (woF kd mn) n (fun q => cc (b + (i + q))) rw_ (numF pu (woF kd mn) n) k).2)), (3, .int ((slR (rmF kd mn) (woF kd mn) n (fun q => cc (b + (i + q))) rw_ (numF pu (woF kd mn) n) k).1)), (0, .ref m0), (1, .int (nI (b + i))), (2, .int (nI nn))] → W p l e ({ frames := 5, cells := 0, slots := 0, locals := 111 }) s m args below meth c s.heap [] 0 0 QQ (F0 m 11 ls []) := by
    intro fuel
    induction fuel with
    | zero => intro k hk hf; exact absurd hf (Nat.not_lt_zero _)
    | succ fuel ih11 =>
      intro k hk hf11 ls hl
      refine lv_iload hx hb dX7_slidByRow_11 (lv_at hl 0 rfl) ?_
      refine lv_iload_n hx hb dX7_slidByRow_13 rfl (lv_at hl 5 rfl) ?_
      refine icmpN_ge (tgt := 56) (a := k) (b := nn) hx hb rfl rfl (by omega) (by omega) dX7_slidByRow_14 (by decide) (fun c_2 => ?_) (fun c_2 => ?_)
      ·
        obtain rfl : nn = k := by omega
        refine lv_iload hx hb dX7_slidByRow_56 (lv_at hl 1 rfl) ?_
        exact hret _ _ _ dX7_slidByRow_58 rfl
      ·
        refine lv_iload_n hx hb dX7_slidByRow_17 rfl (lv_at hl 2 rfl) ?_
        refine lv_aload_n hx hb dX7_slidByRow_18 rfl (lv_at hl 3 rfl) ?_
        refine va_get (D := E.1) (ci := 7) (v := .ref z2) (C := RX7) (T := TX7) (N := 23) hx hb hts hinX7 hown hK.1 hP 0 rfl rfl 4 (by decide) fl_16 (fun _ h9 => h9) rfl dX7_slidByRow_19 ?_
        refine lv_iload_n hx hb dX7_slidByRow_22 rfl (lv_at hl 4 rfl) ?_
        refine lv_aload_n hx hb dX7_slidByRow_23 rfl (lv_at hl 3 rfl) ?_
        refine va_get (D := E.1) (ci := 7) (v := .ref y5) (C := RX7) (T := TX7) (N := 23) hx hb hts hinX7 hown hK.1 hP 0 rfl rfl 16 (by decide) fl_34 (fun _ h9 => h9) rfl dX7_slidByRow_24 ?_
        refine lv_iload hx hb dX7_slidByRow_27 (lv_at hl 0 rfl) ?_
        refine ild hx hb hK hP 5 rfl (j := k) rfl (by omega) (by decide) dX7_slidByRow_29 ?_
        obtain ⟨y, hy, ey⟩ := hrow k (by omega)
        have hiy : ix (rw_ k) = y := by rw [ey]; exact ix_nI (by omega)
        rw [ey]
        refine N_iadd (a := b + i) (b := y) hx hb rfl rfl dX7_slidByRow_30 ?_
        refine ild hx hb hK hP 4 rfl (j := (b + i) + y) rfl (by omega) (by decide) dX7_slidByRow_31 ?_
        rw [show b + i + y = b + (i + ix (rw_ k)) by rw [hiy]; omega]
        refine lv_iadd hx hb dX7_slidByRow_32 ?_
        refine lv_istore (lv' := [(6, .int (((slR (rmF kd mn) (woF kd mn) n (fun q => cc (b + (i + q))) rw_ (numF pu (woF kd mn) n) k).1) + (cc (b + (i + ix (rw_ k)))))), (5, .int (nI k)), (4, .int ((slR (rmF kd mn) (woF kd mn) n (fun q => cc (b + (i + q))) rw_ (numF pu (woF kd mn) n) k).2)), (3, .int ((slR (rmF kd mn) (woF kd mn) n (fun q => cc (b + (i + q))) rw_ (numF pu (woF kd mn) n) k).1)), (0, .ref m0), (1, .int (nI (b + i))), (2, .int (nI nn))]) hx hb dX7_slidByRow_33 hl (by decide) rfl (fun ls hl => ?_)
        refine lv_iload hx hb dX7_slidByRow_35 (lv_at hl 2 rfl) ?_
        refine lv_aload_n hx hb dX7_slidByRow_37 rfl (lv_at hl 4 rfl) ?_
        refine lv_iload_n hx hb dX7_slidByRow_38 rfl (lv_at hl 3 rfl) ?_
        refine lv_iload hx hb dX7_slidByRow_39 (lv_at hl 0 rfl) ?_
        refine crV (As := [.int ((slR (rmF kd mn) (woF kd mn) n (fun q => cc (b + (i + q))) rw_ (numF pu (woF kd mn) n) k).1), .int (((slR (rmF kd mn) (woF kd mn) n (fun q => cc (b + (i + q))) rw_ (numF pu (woF kd mn) n) k).1) + (cc (b + (i + ix (rw_ k)))))]) (rest := [.int ((slR (rmF kd mn) (woF kd mn) n (fun q => cc (b + (i + q))) rw_ (numF pu (woF kd mn) n) k).2)]) ⟨hx, hb, hml, hown, hts⟩ (c_X7_slidBetween l E m0 lf tr z0 z1 z2 n y0 y1 y2 at_ rwi y3 y4 sl cr gr y5 y6 rc x0 x1 x2 x3 kd mn ((slR (rmF kd mn) (woF kd mn) n (fun q => cc (b + (i + q))) rw_ (numF pu (woF kd mn) n) k).1) (((slR (rmF kd mn) (woF kd mn) n (fun q => cc (b + (i + q))) rw_ (numF pu (woF kd mn) n) k).1) + (cc (b + (i + ix (rw_ k))))) (by first | assumption | omega)) (cwV 2 hts gX7_slidByRow_X7_slidBetween rfl rfl rfl (by decide +kernel) ⟨Nat.le_of_ble_eq_true rfl, Nat.le_of_ble_eq_true rfl⟩) hK hP [0, 1, 2] rfl 0 rfl rfl rfl rfl hl.1 rfl (catLe (Nat.le_of_ble_eq_true rfl)) dX7_slidByRow_41 ⟨Nat.zero_le _, Nat.zero_le _⟩ (fun r_3 hr_3 => ?_)
        subst hr_3
        refine lv_iadd hx hb dX7_slidByRow_44 ?_
        refine lv_istore (lv' := [(4, .int (((slR (rmF kd mn) (woF kd mn) n (fun q => cc (b + (i + q))) rw_ (numF pu (woF kd mn) n) k).2) + (slF (rmF kd mn) (woF kd mn) ((slR (rmF kd mn) (woF kd mn) n (fun q => cc (b + (i + q))) rw_ (numF pu (woF kd mn) n) k).1) (((slR (rmF kd mn) (woF kd mn) n (fun q => cc (b + (i + q))) rw_ (numF pu (woF kd mn) n) k).1) + (cc (b + (i + ix (rw_ k))))) n))), (6, .int (((slR (rmF kd mn) (woF kd mn) n (fun q => cc (b + (i + q))) rw_ (numF pu (woF kd mn) n) k).1) + (cc (b + (i + ix (rw_ k)))))), (5, .int (nI k)), (3, .int ((slR (rmF kd mn) (woF kd mn) n (fun q => cc (b + (i + q))) rw_ (numF pu (woF kd mn) n) k).1)), (0, .ref m0), (1, .int (nI (b + i))), (2, .int (nI nn))]) hx hb dX7_slidByRow_45 hl (by decide) rfl (fun ls hl => ?_)
        refine lv_iload hx hb dX7_slidByRow_47 (lv_at hl 1 rfl) ?_
        refine lv_istore_n (lv' := [(3, .int (((slR (rmF kd mn) (woF kd mn) n (fun q => cc (b + (i + q))) rw_ (numF pu (woF kd mn) n) k).1) + (cc (b + (i + ix (rw_ k)))))), (4, .int (((slR (rmF kd mn) (woF kd mn) n (fun q => cc (b + (i + q))) rw_ (numF pu (woF kd mn) n) k).2) + (slF (rmF kd mn) (woF kd mn) ((slR (rmF kd mn) (woF kd mn) n (fun q => cc (b + (i + q))) rw_ (numF pu (woF kd mn) n) k).1) (((slR (rmF kd mn) (woF kd mn) n (fun q => cc (b + (i + q))) rw_ (numF pu (woF kd mn) n) k).1) + (cc (b + (i + ix (rw_ k))))) n))), (6, .int (((slR (rmF kd mn) (woF kd mn) n (fun q => cc (b + (i + q))) rw_ (numF pu (woF kd mn) n) k).1) + (cc (b + (i + ix (rw_ k)))))), (5, .int (nI k)), (0, .ref m0), (1, .int (nI (b + i))), (2, .int (nI nn))]) hx hb dX7_slidByRow_49 rfl hl (by decide) rfl (fun ls hl => ?_)
        refine lv_iinc (v := nI (k + 1)) (lv' := [(5, .int (nI (k + 1))), (3, .int (((slR (rmF kd mn) (woF kd mn) n (fun q => cc (b + (i + q))) rw_ (numF pu (woF kd mn) n) k).1) + (cc (b + (i + ix (rw_ k)))))), (4, .int (((slR (rmF kd mn) (woF kd mn) n (fun q => cc (b + (i + q))) rw_ (numF pu (woF kd mn) n) k).2) + (slF (rmF kd mn) (woF kd mn) ((slR (rmF kd mn) (woF kd mn) n (fun q => cc (b + (i + q))) rw_ (numF pu (woF kd mn) n) k).1) (((slR (rmF kd mn) (woF kd mn) n (fun q => cc (b + (i + q))) rw_ (numF pu (woF kd mn) n) k).1) + (cc (b + (i + ix (rw_ k))))) n))), (6, .int (((slR (rmF kd mn) (woF kd mn) n (fun q => cc (b + (i + q))) rw_ (numF pu (woF kd mn) n) k).1) + (cc (b + (i + ix (rw_ k)))))), (0, .ref m0), (1, .int (nI (b + i))), (2, .int (nI nn))]) hx hb dX7_slidByRow_50 hl (k := 3) rfl (nI_inc k) (by decide) rfl (fun ls hl => ?_)
        refine lv_goto (tgt := 11) hx hb dX7_slidByRow_53 (by decide) ?_
        exact ih11 (k + 1) (by omega) (by omega) ls (lv_sub hl [0, 2, 1, 4, 5, 6] rfl)
  exact L11 _ 0 (by omega) (Nat.lt_succ_self _) ls (lv_sub hl [0, 1, 2, 3, 4, 5] rfl)
