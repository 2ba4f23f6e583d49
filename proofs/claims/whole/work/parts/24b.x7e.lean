set_option maxHeartbeats 4000000 in
set_option maxRecDepth 100000 in
theorem c_X7_fewest (l : Launch) (E : gE) (sz : Nat) (m0 : Nat) (lf : Int32) (tr : Int32) (z0 : Nat) (z1 : Nat) (z2 : Nat) (n : Nat) (y0 : Nat) (y1 : Nat) (y2 : Nat) (at_ : Int32) (rwi : Int32) (y3 : Nat) (y4 : Nat) (sl : Int32) (cr : Int32) (gr : Int32) (y5 : Nat) (y6 : Nat) (rc : Nat) (x0 : Nat) (x1 : Nat) (x2 : Nat) (x3 : Nat) (so : Nat → Int32) (sg : Nat → Int32) (cc : Nat → Int32) (fw : Nat → Int32) (ln : Nat) (j : Nat) (sheet : Int32) (lane : Int32) (i : Int32) (x : Int32) (d : Int32) (hj4 : j < 4) (hjs : shP sheet → sheet = nI j) (hsg : sg j = nI ln) (h60 : ln ≤ 60) : Met l yX7_fewest wsX7_fewest ({ frames := 2, cells := 0, slots := 0, locals := 42 }) (PW E [.ref m0, .int sheet, .int lane, .int i, .int x, .int d] [ob m0 7 [.int lf, .int tr, .ref z0, .ref z1, .ref z2, .int (nI n), .ref y0, .ref y1, .ref y2, .int at_, .int rwi, .ref y3, .ref y4, .int sl, .int cr, .int gr, .ref y5, .ref y6, .int (nI rc), .ref x0, .ref x1, .ref x2, .ref x3], ar E z0 4 so, ar E z1 4 sg, ar E z2 240 cc, ar E y6 1000 fw] sz) (QWi E (fun r _ => r = spFewest sheet lane i x d (thM (so j)) (so j) ln (fun q => cc (60 * j + q)) fw) (fun (u : Nat → Int32) => [ob m0 7 [.int (fltF (rtK sheet lane i x (if feT x d then 1 else 0) (thM (so j)) (so j) ln)), .int tr, .ref z0, .ref z1, .ref z2, .int (nI n), .ref y0, .ref y1, .ref y2, .int at_, .int rwi, .ref y3, .ref y4, .int sl, .int cr, .int gr, .ref y5, .ref y6, .int (nI rc), .ref x0, .ref x1, .ref x2, .ref x3], ar E z0 4 so, ar E z1 4 sg, ar E z2 240 cc, ar E y6 1000 u]) (va_A [ob m0 7 [.int lf, .int tr, .ref z0, .ref z1, .ref z2, .int (nI n), .ref y0, .ref y1, .ref y2, .int at_, .int rwi, .ref y3, .ref y4, .int sl, .int cr, .int gr, .ref y5, .ref y6, .int (nI rc), .ref x0, .ref x1, .ref x2, .ref x3], ar E z0 4 so, ar E z1 4 sg, ar E z2 240 cc, ar E y6 1000 fw] sz)) 0 0 (va_A [ob m0 7 [.int lf, .int tr, .ref z0, .ref z1, .ref z2, .int (nI n), .ref y0, .ref y1, .ref y2, .int at_, .int rwi, .ref y3, .ref y4, .int sl, .int cr, .int gr, .ref y5, .ref y6, .int (nI rc), .ref x0, .ref x1, .ref x2, .ref x3], ar E z0 4 so, ar E z1 4 sg, ar E z2 240 cc, ar E y6 1000 fw] sz) := by
  refine mkWi (cc := cX7_fewest) (maxL := 12) (by decide) rfl (Nat.le_of_ble_eq_true rfl) ?_
  intro p e s m args below meth c QQ A hx hb hml hown hmn hts hK hA hP hD hS hret ls hl
  have hown : s.vm.findClass RX7 = some m.cls := hown
  have hl : lv_has ls 12 [(0, .ref m0), (1, .int sheet), (2, .int lane), (3, .int i), (4, .int x), (5, .int d)] := hl
  have hinX7 : ∀ w ∈ wsX70, w ∈ wsX7_fewest := by decide +kernel
  have fl_16 := hts (.fieldLink RX7 16 "GuardAbacusModel" "cells" "[I") (by decide +kernel)
  have fl_37 := hts (.fieldLink RX7 37 "GuardAbacusModel" "coins" "[I") (by decide +kernel)
  have fl_52 := hts (.fieldLink RX7 52 "GuardAbacusModel" "fault" "I") (by decide +kernel)
  refine lv_aload_n hx hb dX7_fewest_0 rfl (lv_at hl 0 rfl) ?_
  refine lv_iconst (v := 0) hx hb dX7_fewest_1 (by decide) ?_
  refine va_put (D := E.1) (ci := 7) (v := .int 0) (ty := .int) (C := RX7) (T := TX7) (N := 23) hx hb hts hinX7 tyX7 tyX7_ok nmX7 hown hK.1 hP hD hS 0 rfl rfl 0 (by decide) fl_52 (fun _ h9 => h9) rfl (by decide +kernel) rfl rfl (Nat.le_of_ble_eq_true rfl) dX7_fewest_2 (fun H locs hP hD hS => ?_)
  have hP : va_P E.1 vwCl [ob m0 7 [.int 0, .int tr, .ref z0, .ref z1, .ref z2, .int (nI n), .ref y0, .ref y1, .ref y2, .int at_, .int rwi, .ref y3, .ref y4, .int sl, .int cr, .int gr, .ref y5, .ref y6, .int (nI rc), .ref x0, .ref x1, .ref x2, .ref x3], ar E z0 4 so, ar E z1 4 sg, ar E z2 240 cc, ar E y6 1000 fw] H := hP
  have hD : va_D A [ob m0 7 [.int 0, .int tr, .ref z0, .ref z1, .ref z2, .int (nI n), .ref y0, .ref y1, .ref y2, .int at_, .int rwi, .ref y3, .ref y4, .int sl, .int cr, .int gr, .ref y5, .ref y6, .int (nI rc), .ref x0, .ref x1, .ref x2, .ref x3], ar E z0 4 so, ar E z1 4 sg, ar E z2 240 cc, ar E y6 1000 fw] := hD
  refine lv_iload_n hx hb dX7_fewest_5 rfl (lv_at hl 1 rfl) ?_
  refine crS (As := [.int sheet]) (rest := []) ⟨hx, hb, hml, hown, hts⟩ (c_X7_isSheet l E sheet) (va_cwS 1 hts gX7_fewest_X7_isSheet rfl rfl rfl (by decide +kernel) ⟨Nat.le_of_ble_eq_true rfl, Nat.le_of_ble_eq_true rfl⟩) hK hP [] rfl rfl hl.1 rfl (catLe (Nat.le_of_ble_eq_true rfl)) dX7_fewest_6 ⟨Nat.zero_le _, Nat.zero_le _⟩ (fun r_1 hr_1 => ?_)
  subst hr_1
  refine ifB_ne (P := shP sheet) (tgt := 14) hx hb dX7_fewest_9 (by decide) (fun c_2 => ?_) (fun c_2 => ?_)
  ·
    have hsh := hjs c_2
    subst hsh
    refine lv_iload_n hx hb dX7_fewest_14 rfl (lv_at hl 2 rfl) ?_
    refine crS (As := [.int lane]) (rest := []) ⟨hx, hb, hml, hown, hts⟩ (c_X7_isSort l E lane) (va_cwS 1 hts gX7_fewest_X7_isSort rfl rfl rfl (by decide +kernel) ⟨Nat.le_of_ble_eq_true rfl, Nat.le_of_ble_eq_true rfl⟩) hK hP [] rfl rfl hl.1 rfl (catLe (Nat.le_of_ble_eq_true rfl)) dX7_fewest_15 ⟨Nat.zero_le _, Nat.zero_le _⟩ (fun r_3 hr_3 => ?_)
    subst hr_3
    refine ifB_eq (P := laP lane) (tgt := 44) hx hb dX7_fewest_18 (by decide) (fun c_4 => ?_) (fun c_4 => ?_)
    ·
      refine lv_bipush (v := (-2)) hx hb dX7_fewest_44 (by decide) ?_
      have eR : rtK (nI j) lane i x (if feT x d then 1 else 0) (thM (so j)) (so j) ln = -2 := by rw [rtK, if_neg (not_not_intro c_2), if_pos (Or.inl c_4)]
      exact hret _ _ _ _ _ fw dX7_fewest_46 hS (by rw [eR]; exact hP) (by rw [spFewest, eR, if_pos (by decide)])
    ·
      refine lv_iload hx hb dX7_fewest_21 (lv_at hl 4 rfl) ?_
      refine lv_iconst (v := 0) hx hb dX7_fewest_23 (by decide) ?_
      refine lv_bipush (v := 8) hx hb dX7_fewest_24 (by decide) ?_
      refine crS (As := [.int x, .int 0, .int 8]) (rest := []) ⟨hx, hb, hml, hown, hts⟩ (c_X7_within l E x 0 8) (va_cwS 3 hts gX7_fewest_X7_within rfl rfl rfl (by decide +kernel) ⟨Nat.le_of_ble_eq_true rfl, Nat.le_of_ble_eq_true rfl⟩) hK hP [] rfl rfl hl.1 rfl (catLe (Nat.le_of_ble_eq_true rfl)) dX7_fewest_26 ⟨Nat.zero_le _, Nat.zero_le _⟩ (fun r_5 hr_5 => ?_)
      subst hr_5
      refine ifB_eq (P := wiP x 0 8) (tgt := 44) hx hb dX7_fewest_29 (by decide) (fun c_6 => ?_) (fun c_6 => ?_)
      ·
        refine lv_bipush (v := (-2)) hx hb dX7_fewest_44 (by decide) ?_
        have eR : rtK (nI j) lane i x (if feT x d then 1 else 0) (thM (so j)) (so j) ln = -2 := by rw [rtK, if_neg (not_not_intro c_2), if_pos (Or.inr (if_neg (fun h => c_6 ⟨h.1, Int32.not_lt.mpr h.2.1⟩)))]
        exact hret _ _ _ _ _ fw dX7_fewest_46 hS (by rw [eR]; exact hP) (by rw [spFewest, eR, if_pos (by decide)])
      ·
        refine lv_iload hx hb dX7_fewest_32 (lv_at hl 5 rfl) ?_
        refine lv_iconst (v := 0) hx hb dX7_fewest_34 (by decide) ?_
        refine lv_sipush (v := 999) hx hb dX7_fewest_35 (by decide) ?_
        refine crS (As := [.int d, .int 0, .int 999]) (rest := []) ⟨hx, hb, hml, hown, hts⟩ (c_X7_within l E d 0 999) (va_cwS 3 hts gX7_fewest_X7_within rfl rfl rfl (by decide +kernel) ⟨Nat.le_of_ble_eq_true rfl, Nat.le_of_ble_eq_true rfl⟩) hK hP [] rfl rfl hl.1 rfl (catLe (Nat.le_of_ble_eq_true rfl)) dX7_fewest_38 ⟨Nat.zero_le _, Nat.zero_le _⟩ (fun r_7 hr_7 => ?_)
        subst hr_7
        refine ifB_ne (P := wiP d 0 999) (tgt := 47) hx hb dX7_fewest_41 (by decide) (fun c_8 => ?_) (fun c_8 => ?_)
        ·
          have ha : (if feT x d then (1 : Int32) else 0) = 1 := if_pos ⟨c_6.1, Int32.not_lt.mp c_6.2, c_8.1, Int32.not_lt.mp c_8.2⟩
          have eR := ag_rt (sheet := nI j) (i := i) (cells := x) (so := so j) (ln := ln) c_2 c_4
          refine lv_aload_n hx hb dX7_fewest_47 rfl (lv_at hl 0 rfl) ?_
          refine lv_iload_n hx hb dX7_fewest_48 rfl (lv_at hl 1 rfl) ?_
          refine lv_iload_n hx hb dX7_fewest_49 rfl (lv_at hl 2 rfl) ?_
          refine lv_iload_n hx hb dX7_fewest_50 rfl (lv_at hl 3 rfl) ?_
          refine lv_iload hx hb dX7_fewest_51 (lv_at hl 4 rfl) ?_
          refine crV (As := [.int (nI j), .int lane, .int i, .int x]) (rest := []) ⟨hx, hb, hml, hown, hts⟩ (c_X7_against l E m0 0 tr z0 z1 z2 n y0 y1 y2 at_ rwi y3 y4 sl cr gr y5 y6 rc x0 x1 x2 x3 so sg j ln lane i x (by first | assumption | omega) (by first | assumption | omega)) (cwV 4 hts gX7_fewest_X7_against rfl rfl rfl (by decide +kernel) ⟨Nat.le_of_ble_eq_true rfl, Nat.le_of_ble_eq_true rfl⟩) hK hP [0, 1, 2] rfl 0 rfl rfl rfl rfl hl.1 rfl (catLe (Nat.le_of_ble_eq_true rfl)) dX7_fewest_53 ⟨Nat.zero_le _, Nat.zero_le _⟩ (fun r_9 hr_9 => ?_)
          subst hr_9
          refine lv_istore (lv' := [(6, .int (agF (so j) lane i x ln)), (0, .ref m0), (1, .int (nI j)), (2, .int lane), (3, .int i), (4, .int x), (5, .int d)]) hx hb dX7_fewest_56 hl (by decide) rfl (fun ls hl => ?_)
          refine lv_iload hx hb dX7_fewest_58 (lv_at hl 0 rfl) ?_
          refine lv_if_eq (tgt := 70) hx hb dX7_fewest_60 (by decide) (fun c_10 => ?_) (fun c_10 => ?_)
          ·
            rw [if_pos c_10] at eR
            have hz := rtK_0 eR
            obtain ⟨m_, hm, rfl⟩ := le_nat (n := 8) (M := 8) rfl c_6.1 (Int32.not_lt.mp c_6.2)
            obtain ⟨y, hy, rfl⟩ := le_nat (n := 999) (M := 999) rfl c_8.1 (Int32.not_lt.mp c_8.2)
            obtain ⟨a, rfl, hab⟩ := reach2 hz.2.2.2.2.2 h60 (by omega)
            have hixa : ix (nI a) = a := ix_nI (by omega)
            have hixm : ix (nI m_) = m_ := ix_nI (by omega)
            have hixy : ix (nI y) = y := ix_nI (by omega)
            refine lv_bipush (v := 60) hx hb dX7_fewest_70 (by decide) ?_
            refine lv_iload_n hx hb dX7_fewest_72 rfl (lv_at hl 2 rfl) ?_
            refine N_imul (a := 60) (b := j) hx hb rfl rfl dX7_fewest_73 ?_
            refine lv_iload_n hx hb dX7_fewest_74 rfl (lv_at hl 4 rfl) ?_
            refine N_iadd (a := 60 * j) (b := a) hx hb rfl rfl dX7_fewest_75 ?_
            refine lv_istore (lv' := [(7, .int (nI ((60 * j) + a))), (6, .int (agF (so j) lane (nI a) (nI m_) ln)), (0, .ref m0), (1, .int (nI j)), (2, .int lane), (3, .int (nI a)), (4, .int (nI m_)), (5, .int (nI y))]) hx hb dX7_fewest_76 hl (by decide) rfl (fun ls hl => ?_)
            refine lv_iconst (v := 0) hx hb dX7_fewest_78 (by decide) ?_
            refine lv_istore (lv' := [(8, .int 0), (7, .int (nI ((60 * j) + a))), (6, .int (agF (so j) lane (nI a) (nI m_) ln)), (0, .ref m0), (1, .int (nI j)), (2, .int lane), (3, .int (nI a)), (4, .int (nI m_)), (5, .int (nI y))]) hx hb dX7_fewest_79 hl (by decide) rfl (fun ls hl => ?_)
            have L81 : ∀ (fuel : Nat) (z_ : Nat), (z_ ≤ m_) → (∀ q, q < z_ → ¬ cc (60 * j + (a + q)) < 0 ∧ cc (60 * j + (a + q)) ≤ 999) → (m_ - z_) < fuel → ∀ (H : Heap) (locs : List Loc), va_P E.1 vwCl [ob m0 7 [.int 0, .int tr, .ref z0, .ref z1, .ref z2, .int (nI n), .ref y0, .ref y1, .ref y2, .int at_, .int rwi, .ref y3, .ref y4, .int sl, .int cr, .int gr, .ref y5, .ref y6, .int (nI rc), .ref x0, .ref x1, .ref x2, .ref x3], ar E z0 4 so, ar E z1 4 sg, ar E z2 240 cc, ar E y6 1000 fw] H → va_D A [ob m0 7 [.int 0, .int tr, .ref z0, .ref z1, .ref z2, .int (nI n), .ref y0, .ref y1, .ref y2, .int at_, .int rwi, .ref y3, .ref y4, .int sl, .int cr, .int gr, .ref y5, .ref y6, .int (nI rc), .ref x0, .ref x1, .ref x2, .ref x3], ar E z0 4 so, ar E z1 4 sg, ar E z2 240 cc, ar E y6 1000 fw] → va_S A s.heap H locs → ∀ ls : Array Slot, lv_has ls 12 [(8, .int (nI z_)), (7, .int (nI ((60 * j) + a))), (6, .int (agF (so j) lane (nI a) (nI m_) ln)), (0, .ref m0), (1, .int (nI j)), (2, .int lane), (3, .int (nI a)), (4, .int (nI m_)), (5, .int (nI y))] → W p l e ({ frames := 2, cells := 0, slots := 0, locals := 42 }) s m args below meth c H locs 0 0 QQ (F0 m 81 ls []) := by
              intro fuel
              induction fuel with
              | zero => intro z_ hz_ hq hf; exact absurd hf (Nat.not_lt_zero _)
              | succ fuel ih81 =>
                intro z_ hz_ hq hf81 H locs hP hD hS ls hl
                refine lv_iload hx hb dX7_fewest_81 (lv_at hl 0 rfl) ?_
                refine lv_iload hx hb dX7_fewest_83 (lv_at hl 7 rfl) ?_
                refine icmpN_ge (tgt := 117) (a := z_) (b := m_) hx hb rfl rfl (by omega) (by omega) dX7_fewest_85 (by decide) (fun c_11 => ?_) (fun c_11 => ?_)
                ·
                  obtain rfl : m_ = z_ := by omega
                  refine lv_aload_n hx hb dX7_fewest_117 rfl (lv_at hl 3 rfl) ?_
                  refine va_get (D := E.1) (ci := 7) (v := .ref y6) (C := RX7) (T := TX7) (N := 23) hx hb hts hinX7 hown hK.1 hP 0 rfl rfl 17 (by decide) fl_37 (fun _ h9 => h9) rfl dX7_fewest_118 ?_
                  refine lv_iconst (v := 0) hx hb dX7_fewest_121 (by decide) ?_
                  refine lv_iconst (v := 0) hx hb dX7_fewest_122 (by decide) ?_
                  refine ist hx hb hK hP hD hS 4 rfl (j := 0) rfl (by omega) (by decide) dX7_fewest_123 (fun H locs hP hD hS => ?_)
                  have hP : va_P E.1 vwCl [ob m0 7 [.int 0, .int tr, .ref z0, .ref z1, .ref z2, .int (nI n), .ref y0, .ref y1, .ref y2, .int at_, .int rwi, .ref y3, .ref y4, .int sl, .int cr, .int gr, .ref y5, .ref y6, .int (nI rc), .ref x0, .ref x1, .ref x2, .ref x3], ar E z0 4 so, ar E z1 4 sg, ar E z2 240 cc, ar E y6 1000 (upd fw 0 0)] H := hP
                  have hD : va_D A [ob m0 7 [.int 0, .int tr, .ref z0, .ref z1, .ref z2, .int (nI n), .ref y0, .ref y1, .ref y2, .int at_, .int rwi, .ref y3, .ref y4, .int sl, .int cr, .int gr, .ref y5, .ref y6, .int (nI rc), .ref x0, .ref x1, .ref x2, .ref x3], ar E z0 4 so, ar E z1 4 sg, ar E z2 240 cc, ar E y6 1000 (upd fw 0 0)] := hD
                  refine lv_iconst (v := 1) hx hb dX7_fewest_124 (by decide) ?_
                  refine lv_istore (lv' := [(8, .int 1), (7, .int (nI ((60 * j) + a))), (6, .int (agF (so j) lane (nI a) (nI m_) ln)), (0, .ref m0), (1, .int (nI j)), (2, .int lane), (3, .int (nI a)), (4, .int (nI m_)), (5, .int (nI y))]) hx hb dX7_fewest_125 hl (by decide) rfl (fun ls hl => ?_)
                  have L127 : ∀ (fuel : Nat) (z : Nat), (z ≤ y) → (y - z) < fuel → ∀ (H : Heap) (locs : List Loc), va_P E.1 vwCl [ob m0 7 [.int 0, .int tr, .ref z0, .ref z1, .ref z2, .int (nI n), .ref y0, .ref y1, .ref y2, .int at_, .int rwi, .ref y3, .ref y4, .int sl, .int cr, .int gr, .ref y5, .ref y6, .int (nI rc), .ref x0, .ref x1, .ref x2, .ref x3], ar E z0 4 so, ar E z1 4 sg, ar E z2 240 cc, ar E y6 1000 (cT fw (fun q => (fun q => cc (60 * j + q)) (a + q)) m_ z)] H → va_D A [ob m0 7 [.int 0, .int tr, .ref z0, .ref z1, .ref z2, .int (nI n), .ref y0, .ref y1, .ref y2, .int at_, .int rwi, .ref y3, .ref y4, .int sl, .int cr, .int gr, .ref y5, .ref y6, .int (nI rc), .ref x0, .ref x1, .ref x2, .ref x3], ar E z0 4 so, ar E z1 4 sg, ar E z2 240 cc, ar E y6 1000 (cT fw (fun q => (fun q => cc (60 * j + q)) (a + q)) m_ z)] → va_S A s.heap H locs → ∀ ls : Array Slot, lv_has ls 12 [(8, .int (nI (z + 1))), (7, .int (nI ((60 * j) + a))), (0, .ref m0), (4, .int (nI m_)), (5, .int (nI y))] → W p l e ({ frames := 2, cells := 0, slots := 0, locals := 42 }) s m args below meth c H locs 0 0 QQ (F0 m 127 ls []) := by
                    intro fuel
                    induction fuel with
                    | zero => intro z hzy hf; exact absurd hf (Nat.not_lt_zero _)
                    | succ fuel ih127 =>
                      intro z hzy hf127 H locs hP hD hS ls hl
                      refine lv_iload hx hb dX7_fewest_127 (lv_at hl 0 rfl) ?_
                      refine lv_iload hx hb dX7_fewest_129 (lv_at hl 4 rfl) ?_
                      refine icmpN_gt (tgt := 279) (a := z + 1) (b := y) hx hb rfl rfl (by omega) (by omega) dX7_fewest_131 (by decide) (fun c_12 => ?_) (fun c_12 => ?_)
                      ·
                        obtain rfl : y = z := by omega
                        refine lv_aload_n hx hb dX7_fewest_279 rfl (lv_at hl 2 rfl) ?_
                        refine va_get (D := E.1) (ci := 7) (v := .ref y6) (C := RX7) (T := TX7) (N := 23) hx hb hts hinX7 hown hK.1 hP 0 rfl rfl 17 (by decide) fl_37 (fun _ h9 => h9) rfl dX7_fewest_280 ?_
                        refine lv_iload hx hb dX7_fewest_283 (lv_at hl 4 rfl) ?_
                        refine ild hx hb hK hP 4 rfl (j := y) rfl (by omega) (by decide) dX7_fewest_285 ?_
                        exact hret _ _ _ _ _ (cT fw (fun q => (fun q => cc (60 * j + q)) (a + q)) m_ y) dX7_fewest_286 hS (by rw [ha, eR]; exact hP) (by rw [spFewest, ha, eR, if_neg (not_not_intro rfl), hixa, hixm, if_neg (not_not_intro hq), hixy])
                      ·
                        refine lv_aload_n hx hb dX7_fewest_134 rfl (lv_at hl 2 rfl) ?_
                        refine va_get (D := E.1) (ci := 7) (v := .ref y6) (C := RX7) (T := TX7) (N := 23) hx hb hts hinX7 hown hK.1 hP 0 rfl rfl 17 (by decide) fl_37 (fun _ h9 => h9) rfl dX7_fewest_135 ?_
                        refine lv_iload hx hb dX7_fewest_138 (lv_at hl 0 rfl) ?_
                        refine lv_bipush (v := (-9)) hx hb dX7_fewest_140 (by decide) ?_
                        refine ist hx hb hK hP hD hS 4 rfl (j := z + 1) rfl (by omega) (by decide) dX7_fewest_142 (fun H locs hP hD hS => ?_)
                        have hP : va_P E.1 vwCl [ob m0 7 [.int 0, .int tr, .ref z0, .ref z1, .ref z2, .int (nI n), .ref y0, .ref y1, .ref y2, .int at_, .int rwi, .ref y3, .ref y4, .int sl, .int cr, .int gr, .ref y5, .ref y6, .int (nI rc), .ref x0, .ref x1, .ref x2, .ref x3], ar E z0 4 so, ar E z1 4 sg, ar E z2 240 cc, ar E y6 1000 (upd (cT fw (fun q => (fun q => cc (60 * j + q)) (a + q)) m_ z) (z + 1) (-9))] H := hP
                        have hD : va_D A [ob m0 7 [.int 0, .int tr, .ref z0, .ref z1, .ref z2, .int (nI n), .ref y0, .ref y1, .ref y2, .int at_, .int rwi, .ref y3, .ref y4, .int sl, .int cr, .int gr, .ref y5, .ref y6, .int (nI rc), .ref x0, .ref x1, .ref x2, .ref x3], ar E z0 4 so, ar E z1 4 sg, ar E z2 240 cc, ar E y6 1000 (upd (cT fw (fun q => (fun q => cc (60 * j + q)) (a + q)) m_ z) (z + 1) (-9))] := hD
                        refine lv_iconst (v := 0) hx hb dX7_fewest_143 (by decide) ?_
                        refine lv_istore (lv' := [(9, .int 0), (8, .int (nI (z + 1))), (7, .int (nI ((60 * j) + a))), (0, .ref m0), (4, .int (nI m_)), (5, .int (nI y))]) hx hb dX7_fewest_144 hl (by decide) rfl (fun ls hl => ?_)
                        have L146 : ∀ (fuel : Nat) (k : Nat), (k ≤ m_) → (m_ - k) < fuel → ∀ (H : Heap) (locs : List Loc), va_P E.1 vwCl [ob m0 7 [.int 0, .int tr, .ref z0, .ref z1, .ref z2, .int (nI n), .ref y0, .ref y1, .ref y2, .int at_, .int rwi, .ref y3, .ref y4, .int sl, .int cr, .int gr, .ref y5, .ref y6, .int (nI rc), .ref x0, .ref x1, .ref x2, .ref x3], ar E z0 4 so, ar E z1 4 sg, ar E z2 240 cc, ar E y6 1000 (upd (cT fw (fun q => (fun q => cc (60 * j + q)) (a + q)) m_ z) (z + 1) (fwL (cT fw (fun q => (fun q => cc (60 * j + q)) (a + q)) m_ z) (fun q => (fun q => cc (60 * j + q)) (a + q)) (z + 1) k))] H → va_D A [ob m0 7 [.int 0, .int tr, .ref z0, .ref z1, .ref z2, .int (nI n), .ref y0, .ref y1, .ref y2, .int at_, .int rwi, .ref y3, .ref y4, .int sl, .int cr, .int gr, .ref y5, .ref y6, .int (nI rc), .ref x0, .ref x1, .ref x2, .ref x3], ar E z0 4 so, ar E z1 4 sg, ar E z2 240 cc, ar E y6 1000 (upd (cT fw (fun q => (fun q => cc (60 * j + q)) (a + q)) m_ z) (z + 1) (fwL (cT fw (fun q => (fun q => cc (60 * j + q)) (a + q)) m_ z) (fun q => (fun q => cc (60 * j + q)) (a + q)) (z + 1) k))] → va_S A s.heap H locs → ∀ ls : Array Slot, lv_has ls 12 [(9, .int (nI k)), (8, .int (nI (z + 1))), (7, .int (nI ((60 * j) + a))), (0, .ref m0), (4, .int (nI m_)), (5, .int (nI y))] → W p l e ({ frames := 2, cells := 0, slots := 0, locals := 42 }) s m args below meth c H locs 0 0 QQ (F0 m 146 ls []) := by
                          intro fuel
                          induction fuel with
                          | zero => intro k hk hf; exact absurd hf (Nat.not_lt_zero _)
                          | succ fuel ih146 =>
                            intro k hk hf146 H locs hP hD hS ls hl
                            refine lv_iload hx hb dX7_fewest_146 (lv_at hl 0 rfl) ?_
                            refine lv_iload hx hb dX7_fewest_148 (lv_at hl 4 rfl) ?_
                            refine icmpN_ge (tgt := 273) (a := k) (b := m_) hx hb rfl rfl (by omega) (by omega) dX7_fewest_150 (by decide) (fun c_13 => ?_) (fun c_13 => ?_)
                            ·
                              obtain rfl : m_ = k := by omega
                              refine lv_iinc (v := nI ((z + 1) + 1)) (lv' := [(8, .int (nI ((z + 1) + 1))), (9, .int (nI m_)), (7, .int (nI ((60 * j) + a))), (0, .ref m0), (4, .int (nI m_)), (5, .int (nI y))]) hx hb dX7_fewest_273 hl (k := 1) rfl (nI_inc (z + 1)) (by decide) rfl (fun ls hl => ?_)
                              refine lv_goto (tgt := 127) hx hb dX7_fewest_276 (by decide) ?_
                              exact ih127 (z + 1) (by omega) (by omega) _ _ hP hD hS ls (lv_sub hl [0, 2, 3, 4, 5] rfl)
                            ·
                              refine lv_aload_n hx hb dX7_fewest_153 rfl (lv_at hl 3 rfl) ?_
                              refine va_get (D := E.1) (ci := 7) (v := .ref z2) (C := RX7) (T := TX7) (N := 23) hx hb hts hinX7 hown hK.1 hP 0 rfl rfl 4 (by decide) fl_16 (fun _ h9 => h9) rfl dX7_fewest_154 ?_
                              refine lv_iload hx hb dX7_fewest_157 (lv_at hl 2 rfl) ?_
                              refine lv_iload hx hb dX7_fewest_159 (lv_at hl 0 rfl) ?_
                              refine N_iadd (a := (60 * j) + a) (b := k) hx hb rfl rfl dX7_fewest_161 ?_
                              refine ild hx hb hK hP 3 rfl (j := ((60 * j) + a) + k) rfl (by omega) (by decide) dX7_fewest_162 ?_
                              rw [Nat.add_assoc (60 * j) a k]
                              refine lv_istore (lv' := [(10, .int (cc (60 * j + (a + k)))), (9, .int (nI k)), (8, .int (nI (z + 1))), (7, .int (nI ((60 * j) + a))), (0, .ref m0), (4, .int (nI m_)), (5, .int (nI y))]) hx hb dX7_fewest_163 hl (by decide) rfl (fun ls hl => ?_)
                              refine lv_iload hx hb dX7_fewest_165 (lv_at hl 0 rfl) ?_
                              refine lv_if_le (tgt := 196) hx hb dX7_fewest_167 (by decide) (fun c_14 => ?_) (fun c_14 => ?_)
                              ·
                                have c_14b := Int32.not_lt.mpr c_14
                                refine lv_iconst (v := 0) hx hb dX7_fewest_196 (by decide) ?_
                                refine lv_istore (lv' := [(11, .int 0), (10, .int (cc (60 * j + (a + k)))), (9, .int (nI k)), (8, .int (nI (z + 1))), (7, .int (nI ((60 * j) + a))), (0, .ref m0), (4, .int (nI m_)), (5, .int (nI y))]) hx hb dX7_fewest_197 hl (by decide) rfl (fun ls hl => ?_)
                                refine lv_aload_n hx hb dX7_fewest_199 rfl (lv_at hl 5 rfl) ?_
                                refine va_get (D := E.1) (ci := 7) (v := .ref y6) (C := RX7) (T := TX7) (N := 23) hx hb hts hinX7 hown hK.1 hP 0 rfl rfl 17 (by decide) fl_37 (fun _ h9 => h9) rfl dX7_fewest_200 ?_
                                refine lv_iload hx hb dX7_fewest_203 (lv_at hl 3 rfl) ?_
                                refine lv_iload hx hb dX7_fewest_205 (lv_at hl 0 rfl) ?_
                                refine ifN_eq (tgt := 259) (a := 0) hx hb rfl (by omega) dX7_fewest_207 (by decide) (fun c_15 => ?_) (fun c_15 => ?_)
                                ·
                                  refine lv_aload_n hx hb dX7_fewest_259 rfl (lv_at hl 5 rfl) ?_
                                  refine va_get (D := E.1) (ci := 7) (v := .ref y6) (C := RX7) (T := TX7) (N := 23) hx hb hts hinX7 hown hK.1 hP 0 rfl rfl 17 (by decide) fl_37 (fun _ h9 => h9) rfl dX7_fewest_260 ?_
                                  refine lv_iload hx hb dX7_fewest_263 (lv_at hl 3 rfl) ?_
                                  refine ild hx hb hK hP 4 rfl (j := z + 1) rfl (by omega) (by decide) dX7_fewest_265 ?_
                                  rw [pk_us]
                                  refine ist hx hb hK hP hD hS 4 rfl (j := z + 1) rfl (by omega) (by decide) dX7_fewest_266 (fun H locs hP hD hS => ?_)
                                  have hP : va_P E.1 vwCl [ob m0 7 [.int 0, .int tr, .ref z0, .ref z1, .ref z2, .int (nI n), .ref y0, .ref y1, .ref y2, .int at_, .int rwi, .ref y3, .ref y4, .int sl, .int cr, .int gr, .ref y5, .ref y6, .int (nI rc), .ref x0, .ref x1, .ref x2, .ref x3], ar E z0 4 so, ar E z1 4 sg, ar E z2 240 cc, ar E y6 1000 (upd (upd (cT fw (fun q => (fun q => cc (60 * j + q)) (a + q)) m_ z) (z + 1) (fwL (cT fw (fun q => (fun q => cc (60 * j + q)) (a + q)) m_ z) (fun q => (fun q => cc (60 * j + q)) (a + q)) (z + 1) k)) (z + 1) (fwL (cT fw (fun q => (fun q => cc (60 * j + q)) (a + q)) m_ z) (fun q => (fun q => cc (60 * j + q)) (a + q)) (z + 1) k))] H := hP
                                  have hD : va_D A [ob m0 7 [.int 0, .int tr, .ref z0, .ref z1, .ref z2, .int (nI n), .ref y0, .ref y1, .ref y2, .int at_, .int rwi, .ref y3, .ref y4, .int sl, .int cr, .int gr, .ref y5, .ref y6, .int (nI rc), .ref x0, .ref x1, .ref x2, .ref x3], ar E z0 4 so, ar E z1 4 sg, ar E z2 240 cc, ar E y6 1000 (upd (upd (cT fw (fun q => (fun q => cc (60 * j + q)) (a + q)) m_ z) (z + 1) (fwL (cT fw (fun q => (fun q => cc (60 * j + q)) (a + q)) m_ z) (fun q => (fun q => cc (60 * j + q)) (a + q)) (z + 1) k)) (z + 1) (fwL (cT fw (fun q => (fun q => cc (60 * j + q)) (a + q)) m_ z) (fun q => (fun q => cc (60 * j + q)) (a + q)) (z + 1) k))] := hD
                                  have eL : fwL (cT fw (fun q => (fun q => cc (60 * j + q)) (a + q)) m_ z) (fun q => (fun q => cc (60 * j + q)) (a + q)) (z + 1) (k + 1) = (fwL (cT fw (fun q => (fun q => cc (60 * j + q)) (a + q)) m_ z) (fun q => (fun q => cc (60 * j + q)) (a + q)) (z + 1) k) := if_neg (fun h => h.1 c_14)
                                  rw [show upd (upd (cT fw (fun q => (fun q => cc (60 * j + q)) (a + q)) m_ z) (z + 1) (fwL (cT fw (fun q => (fun q => cc (60 * j + q)) (a + q)) m_ z) (fun q => (fun q => cc (60 * j + q)) (a + q)) (z + 1) k)) (z + 1) (fwL (cT fw (fun q => (fun q => cc (60 * j + q)) (a + q)) m_ z) (fun q => (fun q => cc (60 * j + q)) (a + q)) (z + 1) k) = upd (cT fw (fun q => (fun q => cc (60 * j + q)) (a + q)) m_ z) (z + 1) (fwL (cT fw (fun q => (fun q => cc (60 * j + q)) (a + q)) m_ z) (fun q => (fun q => cc (60 * j + q)) (a + q)) (z + 1) (k + 1)) from (upd_twice _ _ _ _).trans (congrArg _ eL.symm)] at hP hD
                                  refine lv_iinc (v := nI (k + 1)) (lv' := [(9, .int (nI (k + 1))), (11, .int 0), (10, .int (cc (60 * j + (a + k)))), (8, .int (nI (z + 1))), (7, .int (nI ((60 * j) + a))), (0, .ref m0), (4, .int (nI m_)), (5, .int (nI y))]) hx hb dX7_fewest_267 hl (k := 2) rfl (nI_inc k) (by decide) rfl (fun ls hl => ?_)
                                  refine lv_goto (tgt := 146) hx hb dX7_fewest_270 (by decide) ?_
                                  exact ih146 (k + 1) (by omega) (by omega) _ _ hP hD hS ls (lv_sub hl [0, 3, 4, 5, 6, 7] rfl)
                                ·
                                  exact absurd c_15 (by decide)
                              ·
                                have c_14b := Int32.not_le.mp c_14
                                refine lv_iload hx hb dX7_fewest_170 (lv_at hl 0 rfl) ?_
                                refine lv_iload hx hb dX7_fewest_172 (lv_at hl 2 rfl) ?_
                                refine lv_icmp_gt (tgt := 196) hx hb dX7_fewest_174 (by decide) (fun c_16 => ?_) (fun c_16 => ?_)
                                ·
                                  have c_16b := Int32.not_le.mpr c_16
                                  refine lv_iconst (v := 0) hx hb dX7_fewest_196 (by decide) ?_
                                  refine lv_istore (lv' := [(11, .int 0), (10, .int (cc (60 * j + (a + k)))), (9, .int (nI k)), (8, .int (nI (z + 1))), (7, .int (nI ((60 * j) + a))), (0, .ref m0), (4, .int (nI m_)), (5, .int (nI y))]) hx hb dX7_fewest_197 hl (by decide) rfl (fun ls hl => ?_)
                                  refine lv_aload_n hx hb dX7_fewest_199 rfl (lv_at hl 5 rfl) ?_
                                  refine va_get (D := E.1) (ci := 7) (v := .ref y6) (C := RX7) (T := TX7) (N := 23) hx hb hts hinX7 hown hK.1 hP 0 rfl rfl 17 (by decide) fl_37 (fun _ h9 => h9) rfl dX7_fewest_200 ?_
                                  refine lv_iload hx hb dX7_fewest_203 (lv_at hl 3 rfl) ?_
                                  refine lv_iload hx hb dX7_fewest_205 (lv_at hl 0 rfl) ?_
                                  refine ifN_eq (tgt := 259) (a := 0) hx hb rfl (by omega) dX7_fewest_207 (by decide) (fun c_17 => ?_) (fun c_17 => ?_)
                                  ·
                                    refine lv_aload_n hx hb dX7_fewest_259 rfl (lv_at hl 5 rfl) ?_
                                    refine va_get (D := E.1) (ci := 7) (v := .ref y6) (C := RX7) (T := TX7) (N := 23) hx hb hts hinX7 hown hK.1 hP 0 rfl rfl 17 (by decide) fl_37 (fun _ h9 => h9) rfl dX7_fewest_260 ?_
                                    refine lv_iload hx hb dX7_fewest_263 (lv_at hl 3 rfl) ?_
                                    refine ild hx hb hK hP 4 rfl (j := z + 1) rfl (by omega) (by decide) dX7_fewest_265 ?_
                                    rw [pk_us]
                                    refine ist hx hb hK hP hD hS 4 rfl (j := z + 1) rfl (by omega) (by decide) dX7_fewest_266 (fun H locs hP hD hS => ?_)
                                    have hP : va_P E.1 vwCl [ob m0 7 [.int 0, .int tr, .ref z0, .ref z1, .ref z2, .int (nI n), .ref y0, .ref y1, .ref y2, .int at_, .int rwi, .ref y3, .ref y4, .int sl, .int cr, .int gr, .ref y5, .ref y6, .int (nI rc), .ref x0, .ref x1, .ref x2, .ref x3], ar E z0 4 so, ar E z1 4 sg, ar E z2 240 cc, ar E y6 1000 (upd (upd (cT fw (fun q => (fun q => cc (60 * j + q)) (a + q)) m_ z) (z + 1) (fwL (cT fw (fun q => (fun q => cc (60 * j + q)) (a + q)) m_ z) (fun q => (fun q => cc (60 * j + q)) (a + q)) (z + 1) k)) (z + 1) (fwL (cT fw (fun q => (fun q => cc (60 * j + q)) (a + q)) m_ z) (fun q => (fun q => cc (60 * j + q)) (a + q)) (z + 1) k))] H := hP
                                    have hD : va_D A [ob m0 7 [.int 0, .int tr, .ref z0, .ref z1, .ref z2, .int (nI n), .ref y0, .ref y1, .ref y2, .int at_, .int rwi, .ref y3, .ref y4, .int sl, .int cr, .int gr, .ref y5, .ref y6, .int (nI rc), .ref x0, .ref x1, .ref x2, .ref x3], ar E z0 4 so, ar E z1 4 sg, ar E z2 240 cc, ar E y6 1000 (upd (upd (cT fw (fun q => (fun q => cc (60 * j + q)) (a + q)) m_ z) (z + 1) (fwL (cT fw (fun q => (fun q => cc (60 * j + q)) (a + q)) m_ z) (fun q => (fun q => cc (60 * j + q)) (a + q)) (z + 1) k)) (z + 1) (fwL (cT fw (fun q => (fun q => cc (60 * j + q)) (a + q)) m_ z) (fun q => (fun q => cc (60 * j + q)) (a + q)) (z + 1) k))] := hD
                                    have eL : fwL (cT fw (fun q => (fun q => cc (60 * j + q)) (a + q)) m_ z) (fun q => (fun q => cc (60 * j + q)) (a + q)) (z + 1) (k + 1) = (fwL (cT fw (fun q => (fun q => cc (60 * j + q)) (a + q)) m_ z) (fun q => (fun q => cc (60 * j + q)) (a + q)) (z + 1) k) := if_neg (fun h => absurd h.2.1 c_16b)
                                    rw [show upd (upd (cT fw (fun q => (fun q => cc (60 * j + q)) (a + q)) m_ z) (z + 1) (fwL (cT fw (fun q => (fun q => cc (60 * j + q)) (a + q)) m_ z) (fun q => (fun q => cc (60 * j + q)) (a + q)) (z + 1) k)) (z + 1) (fwL (cT fw (fun q => (fun q => cc (60 * j + q)) (a + q)) m_ z) (fun q => (fun q => cc (60 * j + q)) (a + q)) (z + 1) k) = upd (cT fw (fun q => (fun q => cc (60 * j + q)) (a + q)) m_ z) (z + 1) (fwL (cT fw (fun q => (fun q => cc (60 * j + q)) (a + q)) m_ z) (fun q => (fun q => cc (60 * j + q)) (a + q)) (z + 1) (k + 1)) from (upd_twice _ _ _ _).trans (congrArg _ eL.symm)] at hP hD
                                    refine lv_iinc (v := nI (k + 1)) (lv' := [(9, .int (nI (k + 1))), (11, .int 0), (10, .int (cc (60 * j + (a + k)))), (8, .int (nI (z + 1))), (7, .int (nI ((60 * j) + a))), (0, .ref m0), (4, .int (nI m_)), (5, .int (nI y))]) hx hb dX7_fewest_267 hl (k := 2) rfl (nI_inc k) (by decide) rfl (fun ls hl => ?_)
                                    refine lv_goto (tgt := 146) hx hb dX7_fewest_270 (by decide) ?_
                                    exact ih146 (k + 1) (by omega) (by omega) _ _ hP hD hS ls (lv_sub hl [0, 3, 4, 5, 6, 7] rfl)
                                  ·
                                    exact absurd c_17 (by decide)
                                ·
                                  have c_16b := Int32.not_lt.mp c_16
                                  obtain ⟨y_, hy_, ey⟩ := le_nat (n := z + 1) (M := nI (z + 1)) (nI_toInt (by omega)) (Int32.not_lt.mpr (Int32.le_of_lt c_14b)) c_16b
                                  have hiy : ix (cc (60 * j + (a + k))) = y_ := by rw [ey]; exact ix_nI (by omega)
                                  have hy0 : 0 < y_ := Nat.pos_of_ne_zero (fun h => c_14 (by rw [ey, h]; exact Int32.le_refl _))
                                  refine lv_aload_n hx hb dX7_fewest_177 rfl (lv_at hl 4 rfl) ?_
                                  refine va_get (D := E.1) (ci := 7) (v := .ref y6) (C := RX7) (T := TX7) (N := 23) hx hb hts hinX7 hown hK.1 hP 0 rfl rfl 17 (by decide) fl_37 (fun _ h9 => h9) rfl dX7_fewest_178 ?_
                                  refine lv_iload hx hb dX7_fewest_181 (lv_at hl 2 rfl) ?_
                                  refine lv_iload hx hb dX7_fewest_183 (lv_at hl 0 rfl) ?_
                                  rw [ey]
                                  refine N_isub (a := z + 1) (b := y_) hx hb rfl rfl (by omega) dX7_fewest_185 ?_
                                  refine ild hx hb hK hP 4 rfl (j := (z + 1) - y_) rfl (by omega) (by decide) dX7_fewest_186 ?_
                                  rw [pk_un (show z + 1 - y_ ≠ z + 1 by omega)]
                                  refine lv_bipush (v := (-9)) hx hb dX7_fewest_187 (by decide) ?_
                                  refine lv_icmp_eq (tgt := 196) hx hb dX7_fewest_189 (by decide) (fun c_18 => ?_) (fun c_18 => ?_)
                                  ·
                                    refine lv_iconst (v := 0) hx hb dX7_fewest_196 (by decide) ?_
                                    refine lv_istore (lv' := [(11, .int 0), (10, .int (cc (60 * j + (a + k)))), (9, .int (nI k)), (8, .int (nI (z + 1))), (7, .int (nI ((60 * j) + a))), (0, .ref m0), (4, .int (nI m_)), (5, .int (nI y))]) hx hb dX7_fewest_197 hl (by decide) rfl (fun ls hl => ?_)
                                    refine lv_aload_n hx hb dX7_fewest_199 rfl (lv_at hl 5 rfl) ?_
                                    refine va_get (D := E.1) (ci := 7) (v := .ref y6) (C := RX7) (T := TX7) (N := 23) hx hb hts hinX7 hown hK.1 hP 0 rfl rfl 17 (by decide) fl_37 (fun _ h9 => h9) rfl dX7_fewest_200 ?_
                                    refine lv_iload hx hb dX7_fewest_203 (lv_at hl 3 rfl) ?_
                                    refine lv_iload hx hb dX7_fewest_205 (lv_at hl 0 rfl) ?_
                                    refine ifN_eq (tgt := 259) (a := 0) hx hb rfl (by omega) dX7_fewest_207 (by decide) (fun c_19 => ?_) (fun c_19 => ?_)
                                    ·
                                      refine lv_aload_n hx hb dX7_fewest_259 rfl (lv_at hl 5 rfl) ?_
                                      refine va_get (D := E.1) (ci := 7) (v := .ref y6) (C := RX7) (T := TX7) (N := 23) hx hb hts hinX7 hown hK.1 hP 0 rfl rfl 17 (by decide) fl_37 (fun _ h9 => h9) rfl dX7_fewest_260 ?_
                                      refine lv_iload hx hb dX7_fewest_263 (lv_at hl 3 rfl) ?_
                                      refine ild hx hb hK hP 4 rfl (j := z + 1) rfl (by omega) (by decide) dX7_fewest_265 ?_
                                      rw [pk_us]
                                      refine ist hx hb hK hP hD hS 4 rfl (j := z + 1) rfl (by omega) (by decide) dX7_fewest_266 (fun H locs hP hD hS => ?_)
                                      have hP : va_P E.1 vwCl [ob m0 7 [.int 0, .int tr, .ref z0, .ref z1, .ref z2, .int (nI n), .ref y0, .ref y1, .ref y2, .int at_, .int rwi, .ref y3, .ref y4, .int sl, .int cr, .int gr, .ref y5, .ref y6, .int (nI rc), .ref x0, .ref x1, .ref x2, .ref x3], ar E z0 4 so, ar E z1 4 sg, ar E z2 240 cc, ar E y6 1000 (upd (upd (cT fw (fun q => (fun q => cc (60 * j + q)) (a + q)) m_ z) (z + 1) (fwL (cT fw (fun q => (fun q => cc (60 * j + q)) (a + q)) m_ z) (fun q => (fun q => cc (60 * j + q)) (a + q)) (z + 1) k)) (z + 1) (fwL (cT fw (fun q => (fun q => cc (60 * j + q)) (a + q)) m_ z) (fun q => (fun q => cc (60 * j + q)) (a + q)) (z + 1) k))] H := hP
                                      have hD : va_D A [ob m0 7 [.int 0, .int tr, .ref z0, .ref z1, .ref z2, .int (nI n), .ref y0, .ref y1, .ref y2, .int at_, .int rwi, .ref y3, .ref y4, .int sl, .int cr, .int gr, .ref y5, .ref y6, .int (nI rc), .ref x0, .ref x1, .ref x2, .ref x3], ar E z0 4 so, ar E z1 4 sg, ar E z2 240 cc, ar E y6 1000 (upd (upd (cT fw (fun q => (fun q => cc (60 * j + q)) (a + q)) m_ z) (z + 1) (fwL (cT fw (fun q => (fun q => cc (60 * j + q)) (a + q)) m_ z) (fun q => (fun q => cc (60 * j + q)) (a + q)) (z + 1) k)) (z + 1) (fwL (cT fw (fun q => (fun q => cc (60 * j + q)) (a + q)) m_ z) (fun q => (fun q => cc (60 * j + q)) (a + q)) (z + 1) k))] := hD
                                      have eL : fwL (cT fw (fun q => (fun q => cc (60 * j + q)) (a + q)) m_ z) (fun q => (fun q => cc (60 * j + q)) (a + q)) (z + 1) (k + 1) = (fwL (cT fw (fun q => (fun q => cc (60 * j + q)) (a + q)) m_ z) (fun q => (fun q => cc (60 * j + q)) (a + q)) (z + 1) k) := if_neg (fun h => h.2.2 (by show (cT fw (fun q => (fun q => cc (60 * j + q)) (a + q)) m_ z) (z + 1 - ix (cc (60 * j + (a + k)))) = -9; rw [hiy]; exact c_18))
                                      rw [show upd (upd (cT fw (fun q => (fun q => cc (60 * j + q)) (a + q)) m_ z) (z + 1) (fwL (cT fw (fun q => (fun q => cc (60 * j + q)) (a + q)) m_ z) (fun q => (fun q => cc (60 * j + q)) (a + q)) (z + 1) k)) (z + 1) (fwL (cT fw (fun q => (fun q => cc (60 * j + q)) (a + q)) m_ z) (fun q => (fun q => cc (60 * j + q)) (a + q)) (z + 1) k) = upd (cT fw (fun q => (fun q => cc (60 * j + q)) (a + q)) m_ z) (z + 1) (fwL (cT fw (fun q => (fun q => cc (60 * j + q)) (a + q)) m_ z) (fun q => (fun q => cc (60 * j + q)) (a + q)) (z + 1) (k + 1)) from (upd_twice _ _ _ _).trans (congrArg _ eL.symm)] at hP hD
                                      refine lv_iinc (v := nI (k + 1)) (lv' := [(9, .int (nI (k + 1))), (11, .int 0), (10, .int (cc (60 * j + (a + k)))), (8, .int (nI (z + 1))), (7, .int (nI ((60 * j) + a))), (0, .ref m0), (4, .int (nI m_)), (5, .int (nI y))]) hx hb dX7_fewest_267 hl (k := 2) rfl (nI_inc k) (by decide) rfl (fun ls hl => ?_)
                                      refine lv_goto (tgt := 146) hx hb dX7_fewest_270 (by decide) ?_
                                      exact ih146 (k + 1) (by omega) (by omega) _ _ hP hD hS ls (lv_sub hl [0, 3, 4, 5, 6, 7] rfl)
                                    ·
                                      exact absurd c_19 (by decide)
                                  ·
                                    refine lv_iconst (v := 1) hx hb dX7_fewest_192 (by decide) ?_
                                    refine lv_goto (tgt := 197) hx hb dX7_fewest_193 (by decide) ?_
                                    refine lv_istore (lv' := [(11, .int 1), (10, .int (cc (60 * j + (a + k)))), (9, .int (nI k)), (8, .int (nI (z + 1))), (7, .int (nI ((60 * j) + a))), (0, .ref m0), (4, .int (nI m_)), (5, .int (nI y))]) hx hb dX7_fewest_197 hl (by decide) rfl (fun ls hl => ?_)
                                    refine lv_aload_n hx hb dX7_fewest_199 rfl (lv_at hl 5 rfl) ?_
                                    refine va_get (D := E.1) (ci := 7) (v := .ref y6) (C := RX7) (T := TX7) (N := 23) hx hb hts hinX7 hown hK.1 hP 0 rfl rfl 17 (by decide) fl_37 (fun _ h9 => h9) rfl dX7_fewest_200 ?_
                                    refine lv_iload hx hb dX7_fewest_203 (lv_at hl 3 rfl) ?_
                                    refine lv_iload hx hb dX7_fewest_205 (lv_at hl 0 rfl) ?_
                                    refine ifN_eq (tgt := 259) (a := 1) hx hb rfl (by omega) dX7_fewest_207 (by decide) (fun c_20 => ?_) (fun c_20 => ?_)
                                    ·
                                      exact absurd c_20 (by decide)
                                    ·
                                      refine lv_aload_n hx hb dX7_fewest_210 rfl (lv_at hl 5 rfl) ?_
                                      refine va_get (D := E.1) (ci := 7) (v := .ref y6) (C := RX7) (T := TX7) (N := 23) hx hb hts hinX7 hown hK.1 hP 0 rfl rfl 17 (by decide) fl_37 (fun _ h9 => h9) rfl dX7_fewest_211 ?_
                                      refine lv_iload hx hb dX7_fewest_214 (lv_at hl 3 rfl) ?_
                                      refine ild hx hb hK hP 4 rfl (j := z + 1) rfl (by omega) (by decide) dX7_fewest_216 ?_
                                      rw [pk_us]
                                      refine lv_bipush (v := (-9)) hx hb dX7_fewest_217 (by decide) ?_
                                      refine lv_icmp_eq (tgt := 244) hx hb dX7_fewest_219 (by decide) (fun c_21 => ?_) (fun c_21 => ?_)
                                      ·
                                        refine lv_aload_n hx hb dX7_fewest_244 rfl (lv_at hl 5 rfl) ?_
                                        refine va_get (D := E.1) (ci := 7) (v := .ref y6) (C := RX7) (T := TX7) (N := 23) hx hb hts hinX7 hown hK.1 hP 0 rfl rfl 17 (by decide) fl_37 (fun _ h9 => h9) rfl dX7_fewest_245 ?_
                                        refine lv_iload hx hb dX7_fewest_248 (lv_at hl 3 rfl) ?_
                                        refine lv_iload hx hb dX7_fewest_250 (lv_at hl 1 rfl) ?_
                                        rw [ey]
                                        refine N_isub (a := z + 1) (b := y_) hx hb rfl rfl (by omega) dX7_fewest_252 ?_
                                        refine ild hx hb hK hP 4 rfl (j := (z + 1) - y_) rfl (by omega) (by decide) dX7_fewest_253 ?_
                                        rw [pk_un (show z + 1 - y_ ≠ z + 1 by omega)]
                                        refine lv_iconst (v := 1) hx hb dX7_fewest_254 (by decide) ?_
                                        refine lv_iadd hx hb dX7_fewest_255 ?_
                                        refine lv_goto (tgt := 266) hx hb dX7_fewest_256 (by decide) ?_
                                        refine ist hx hb hK hP hD hS 4 rfl (j := z + 1) rfl (by omega) (by decide) dX7_fewest_266 (fun H locs hP hD hS => ?_)
                                        have hP : va_P E.1 vwCl [ob m0 7 [.int 0, .int tr, .ref z0, .ref z1, .ref z2, .int (nI n), .ref y0, .ref y1, .ref y2, .int at_, .int rwi, .ref y3, .ref y4, .int sl, .int cr, .int gr, .ref y5, .ref y6, .int (nI rc), .ref x0, .ref x1, .ref x2, .ref x3], ar E z0 4 so, ar E z1 4 sg, ar E z2 240 cc, ar E y6 1000 (upd (upd (cT fw (fun q => (fun q => cc (60 * j + q)) (a + q)) m_ z) (z + 1) (fwL (cT fw (fun q => (fun q => cc (60 * j + q)) (a + q)) m_ z) (fun q => (fun q => cc (60 * j + q)) (a + q)) (z + 1) k)) (z + 1) (((cT fw (fun q => (fun q => cc (60 * j + q)) (a + q)) m_ z) (z + 1 - y_)) + 1))] H := hP
                                        have hD : va_D A [ob m0 7 [.int 0, .int tr, .ref z0, .ref z1, .ref z2, .int (nI n), .ref y0, .ref y1, .ref y2, .int at_, .int rwi, .ref y3, .ref y4, .int sl, .int cr, .int gr, .ref y5, .ref y6, .int (nI rc), .ref x0, .ref x1, .ref x2, .ref x3], ar E z0 4 so, ar E z1 4 sg, ar E z2 240 cc, ar E y6 1000 (upd (upd (cT fw (fun q => (fun q => cc (60 * j + q)) (a + q)) m_ z) (z + 1) (fwL (cT fw (fun q => (fun q => cc (60 * j + q)) (a + q)) m_ z) (fun q => (fun q => cc (60 * j + q)) (a + q)) (z + 1) k)) (z + 1) (((cT fw (fun q => (fun q => cc (60 * j + q)) (a + q)) m_ z) (z + 1 - y_)) + 1))] := hD
                                        have hc : ¬ (fun q => (fun q => cc (60 * j + q)) (a + q)) k ≤ 0 ∧ (fun q => (fun q => cc (60 * j + q)) (a + q)) k ≤ nI (z + 1) ∧ ¬ (cT fw (fun q => (fun q => cc (60 * j + q)) (a + q)) m_ z) (z + 1 - ix ((fun q => (fun q => cc (60 * j + q)) (a + q)) k)) = -9 := ⟨c_14, c_16b, fun h => c_18 (by have h2 : (cT fw (fun q => (fun q => cc (60 * j + q)) (a + q)) m_ z) (z + 1 - ix (cc (60 * j + (a + k)))) = -9 := h; rwa [hiy] at h2)⟩
                                        have eL : fwL (cT fw (fun q => (fun q => cc (60 * j + q)) (a + q)) m_ z) (fun q => (fun q => cc (60 * j + q)) (a + q)) (z + 1) (k + 1) = ((cT fw (fun q => (fun q => cc (60 * j + q)) (a + q)) m_ z) (z + 1 - y_) + 1) := by rw [fwL, if_pos hc, if_pos c_21]; show (cT fw (fun q => (fun q => cc (60 * j + q)) (a + q)) m_ z) (z + 1 - ix (cc (60 * j + (a + k)))) + 1 = _; rw [hiy]
                                        rw [show upd (upd (cT fw (fun q => (fun q => cc (60 * j + q)) (a + q)) m_ z) (z + 1) (fwL (cT fw (fun q => (fun q => cc (60 * j + q)) (a + q)) m_ z) (fun q => (fun q => cc (60 * j + q)) (a + q)) (z + 1) k)) (z + 1) (((cT fw (fun q => (fun q => cc (60 * j + q)) (a + q)) m_ z) (z + 1 - y_)) + 1) = upd (cT fw (fun q => (fun q => cc (60 * j + q)) (a + q)) m_ z) (z + 1) (fwL (cT fw (fun q => (fun q => cc (60 * j + q)) (a + q)) m_ z) (fun q => (fun q => cc (60 * j + q)) (a + q)) (z + 1) (k + 1)) from (upd_twice _ _ _ _).trans (congrArg _ eL.symm)] at hP hD
                                        refine lv_iinc (v := nI (k + 1)) (lv' := [(9, .int (nI (k + 1))), (11, .int 1), (10, .int (cc (60 * j + (a + k)))), (8, .int (nI (z + 1))), (7, .int (nI ((60 * j) + a))), (0, .ref m0), (4, .int (nI m_)), (5, .int (nI y))]) hx hb dX7_fewest_267 hl (k := 2) rfl (nI_inc k) (by decide) rfl (fun ls hl => ?_)
                                        refine lv_goto (tgt := 146) hx hb dX7_fewest_270 (by decide) ?_
                                        exact ih146 (k + 1) (by omega) (by omega) _ _ hP hD hS ls (lv_sub hl [0, 3, 4, 5, 6, 7] rfl)
                                      ·
                                        refine lv_aload_n hx hb dX7_fewest_222 rfl (lv_at hl 5 rfl) ?_
                                        refine va_get (D := E.1) (ci := 7) (v := .ref y6) (C := RX7) (T := TX7) (N := 23) hx hb hts hinX7 hown hK.1 hP 0 rfl rfl 17 (by decide) fl_37 (fun _ h9 => h9) rfl dX7_fewest_223 ?_
                                        refine lv_iload hx hb dX7_fewest_226 (lv_at hl 3 rfl) ?_
                                        refine lv_iload hx hb dX7_fewest_228 (lv_at hl 1 rfl) ?_
                                        rw [ey]
                                        refine N_isub (a := z + 1) (b := y_) hx hb rfl rfl (by omega) dX7_fewest_230 ?_
                                        refine ild hx hb hK hP 4 rfl (j := (z + 1) - y_) rfl (by omega) (by decide) dX7_fewest_231 ?_
                                        rw [pk_un (show z + 1 - y_ ≠ z + 1 by omega)]
                                        refine lv_iconst (v := 1) hx hb dX7_fewest_232 (by decide) ?_
                                        refine lv_iadd hx hb dX7_fewest_233 ?_
                                        refine lv_aload_n hx hb dX7_fewest_234 rfl (lv_at hl 5 rfl) ?_
                                        refine va_get (D := E.1) (ci := 7) (v := .ref y6) (C := RX7) (T := TX7) (N := 23) hx hb hts hinX7 hown hK.1 hP 0 rfl rfl 17 (by decide) fl_37 (fun _ h9 => h9) rfl dX7_fewest_235 ?_
                                        refine lv_iload hx hb dX7_fewest_238 (lv_at hl 3 rfl) ?_
                                        refine ild hx hb hK hP 4 rfl (j := z + 1) rfl (by omega) (by decide) dX7_fewest_240 ?_
                                        rw [pk_us]
                                        refine lv_icmp_ge (tgt := 259) hx hb dX7_fewest_241 (by decide) (fun c_22 => ?_) (fun c_22 => ?_)
                                        ·
                                          have c_22b := Int32.not_lt.mpr c_22
                                          refine lv_aload_n hx hb dX7_fewest_259 rfl (lv_at hl 5 rfl) ?_
                                          refine va_get (D := E.1) (ci := 7) (v := .ref y6) (C := RX7) (T := TX7) (N := 23) hx hb hts hinX7 hown hK.1 hP 0 rfl rfl 17 (by decide) fl_37 (fun _ h9 => h9) rfl dX7_fewest_260 ?_
                                          refine lv_iload hx hb dX7_fewest_263 (lv_at hl 3 rfl) ?_
                                          refine ild hx hb hK hP 4 rfl (j := z + 1) rfl (by omega) (by decide) dX7_fewest_265 ?_
                                          rw [pk_us]
                                          refine ist hx hb hK hP hD hS 4 rfl (j := z + 1) rfl (by omega) (by decide) dX7_fewest_266 (fun H locs hP hD hS => ?_)
                                          have hP : va_P E.1 vwCl [ob m0 7 [.int 0, .int tr, .ref z0, .ref z1, .ref z2, .int (nI n), .ref y0, .ref y1, .ref y2, .int at_, .int rwi, .ref y3, .ref y4, .int sl, .int cr, .int gr, .ref y5, .ref y6, .int (nI rc), .ref x0, .ref x1, .ref x2, .ref x3], ar E z0 4 so, ar E z1 4 sg, ar E z2 240 cc, ar E y6 1000 (upd (upd (cT fw (fun q => (fun q => cc (60 * j + q)) (a + q)) m_ z) (z + 1) (fwL (cT fw (fun q => (fun q => cc (60 * j + q)) (a + q)) m_ z) (fun q => (fun q => cc (60 * j + q)) (a + q)) (z + 1) k)) (z + 1) (fwL (cT fw (fun q => (fun q => cc (60 * j + q)) (a + q)) m_ z) (fun q => (fun q => cc (60 * j + q)) (a + q)) (z + 1) k))] H := hP
                                          have hD : va_D A [ob m0 7 [.int 0, .int tr, .ref z0, .ref z1, .ref z2, .int (nI n), .ref y0, .ref y1, .ref y2, .int at_, .int rwi, .ref y3, .ref y4, .int sl, .int cr, .int gr, .ref y5, .ref y6, .int (nI rc), .ref x0, .ref x1, .ref x2, .ref x3], ar E z0 4 so, ar E z1 4 sg, ar E z2 240 cc, ar E y6 1000 (upd (upd (cT fw (fun q => (fun q => cc (60 * j + q)) (a + q)) m_ z) (z + 1) (fwL (cT fw (fun q => (fun q => cc (60 * j + q)) (a + q)) m_ z) (fun q => (fun q => cc (60 * j + q)) (a + q)) (z + 1) k)) (z + 1) (fwL (cT fw (fun q => (fun q => cc (60 * j + q)) (a + q)) m_ z) (fun q => (fun q => cc (60 * j + q)) (a + q)) (z + 1) k))] := hD
                                          have hc : ¬ (fun q => (fun q => cc (60 * j + q)) (a + q)) k ≤ 0 ∧ (fun q => (fun q => cc (60 * j + q)) (a + q)) k ≤ nI (z + 1) ∧ ¬ (cT fw (fun q => (fun q => cc (60 * j + q)) (a + q)) m_ z) (z + 1 - ix ((fun q => (fun q => cc (60 * j + q)) (a + q)) k)) = -9 := ⟨c_14, c_16b, fun h => c_18 (by have h2 : (cT fw (fun q => (fun q => cc (60 * j + q)) (a + q)) m_ z) (z + 1 - ix (cc (60 * j + (a + k)))) = -9 := h; rwa [hiy] at h2)⟩
                                          have eL : fwL (cT fw (fun q => (fun q => cc (60 * j + q)) (a + q)) m_ z) (fun q => (fun q => cc (60 * j + q)) (a + q)) (z + 1) (k + 1) = (fwL (cT fw (fun q => (fun q => cc (60 * j + q)) (a + q)) m_ z) (fun q => (fun q => cc (60 * j + q)) (a + q)) (z + 1) k) := by rw [fwL, if_pos hc, if_neg c_21]; show (if (cT fw (fun q => (fun q => cc (60 * j + q)) (a + q)) m_ z) (z + 1 - ix (cc (60 * j + (a + k)))) + 1 < fwL (cT fw (fun q => (fun q => cc (60 * j + q)) (a + q)) m_ z) (fun q => (fun q => cc (60 * j + q)) (a + q)) (z + 1) k then (cT fw (fun q => (fun q => cc (60 * j + q)) (a + q)) m_ z) (z + 1 - ix (cc (60 * j + (a + k)))) + 1 else _) = _; rw [hiy]; exact if_neg c_22b
                                          rw [show upd (upd (cT fw (fun q => (fun q => cc (60 * j + q)) (a + q)) m_ z) (z + 1) (fwL (cT fw (fun q => (fun q => cc (60 * j + q)) (a + q)) m_ z) (fun q => (fun q => cc (60 * j + q)) (a + q)) (z + 1) k)) (z + 1) (fwL (cT fw (fun q => (fun q => cc (60 * j + q)) (a + q)) m_ z) (fun q => (fun q => cc (60 * j + q)) (a + q)) (z + 1) k) = upd (cT fw (fun q => (fun q => cc (60 * j + q)) (a + q)) m_ z) (z + 1) (fwL (cT fw (fun q => (fun q => cc (60 * j + q)) (a + q)) m_ z) (fun q => (fun q => cc (60 * j + q)) (a + q)) (z + 1) (k + 1)) from (upd_twice _ _ _ _).trans (congrArg _ eL.symm)] at hP hD
                                          refine lv_iinc (v := nI (k + 1)) (lv' := [(9, .int (nI (k + 1))), (11, .int 1), (10, .int (cc (60 * j + (a + k)))), (8, .int (nI (z + 1))), (7, .int (nI ((60 * j) + a))), (0, .ref m0), (4, .int (nI m_)), (5, .int (nI y))]) hx hb dX7_fewest_267 hl (k := 2) rfl (nI_inc k) (by decide) rfl (fun ls hl => ?_)
                                          refine lv_goto (tgt := 146) hx hb dX7_fewest_270 (by decide) ?_
                                          exact ih146 (k + 1) (by omega) (by omega) _ _ hP hD hS ls (lv_sub hl [0, 3, 4, 5, 6, 7] rfl)
                                        ·
                                          have c_22b := Int32.not_le.mp c_22
                                          refine lv_aload_n hx hb dX7_fewest_244 rfl (lv_at hl 5 rfl) ?_
                                          refine va_get (D := E.1) (ci := 7) (v := .ref y6) (C := RX7) (T := TX7) (N := 23) hx hb hts hinX7 hown hK.1 hP 0 rfl rfl 17 (by decide) fl_37 (fun _ h9 => h9) rfl dX7_fewest_245 ?_
                                          refine lv_iload hx hb dX7_fewest_248 (lv_at hl 3 rfl) ?_
                                          refine lv_iload hx hb dX7_fewest_250 (lv_at hl 1 rfl) ?_
                                          rw [ey]
                                          refine N_isub (a := z + 1) (b := y_) hx hb rfl rfl (by omega) dX7_fewest_252 ?_
                                          refine ild hx hb hK hP 4 rfl (j := (z + 1) - y_) rfl (by omega) (by decide) dX7_fewest_253 ?_
                                          rw [pk_un (show z + 1 - y_ ≠ z + 1 by omega)]
                                          refine lv_iconst (v := 1) hx hb dX7_fewest_254 (by decide) ?_
                                          refine lv_iadd hx hb dX7_fewest_255 ?_
                                          refine lv_goto (tgt := 266) hx hb dX7_fewest_256 (by decide) ?_
                                          refine ist hx hb hK hP hD hS 4 rfl (j := z + 1) rfl (by omega) (by decide) dX7_fewest_266 (fun H locs hP hD hS => ?_)
                                          have hP : va_P E.1 vwCl [ob m0 7 [.int 0, .int tr, .ref z0, .ref z1, .ref z2, .int (nI n), .ref y0, .ref y1, .ref y2, .int at_, .int rwi, .ref y3, .ref y4, .int sl, .int cr, .int gr, .ref y5, .ref y6, .int (nI rc), .ref x0, .ref x1, .ref x2, .ref x3], ar E z0 4 so, ar E z1 4 sg, ar E z2 240 cc, ar E y6 1000 (upd (upd (cT fw (fun q => (fun q => cc (60 * j + q)) (a + q)) m_ z) (z + 1) (fwL (cT fw (fun q => (fun q => cc (60 * j + q)) (a + q)) m_ z) (fun q => (fun q => cc (60 * j + q)) (a + q)) (z + 1) k)) (z + 1) (((cT fw (fun q => (fun q => cc (60 * j + q)) (a + q)) m_ z) (z + 1 - y_)) + 1))] H := hP
                                          have hD : va_D A [ob m0 7 [.int 0, .int tr, .ref z0, .ref z1, .ref z2, .int (nI n), .ref y0, .ref y1, .ref y2, .int at_, .int rwi, .ref y3, .ref y4, .int sl, .int cr, .int gr, .ref y5, .ref y6, .int (nI rc), .ref x0, .ref x1, .ref x2, .ref x3], ar E z0 4 so, ar E z1 4 sg, ar E z2 240 cc, ar E y6 1000 (upd (upd (cT fw (fun q => (fun q => cc (60 * j + q)) (a + q)) m_ z) (z + 1) (fwL (cT fw (fun q => (fun q => cc (60 * j + q)) (a + q)) m_ z) (fun q => (fun q => cc (60 * j + q)) (a + q)) (z + 1) k)) (z + 1) (((cT fw (fun q => (fun q => cc (60 * j + q)) (a + q)) m_ z) (z + 1 - y_)) + 1))] := hD
                                          have hc : ¬ (fun q => (fun q => cc (60 * j + q)) (a + q)) k ≤ 0 ∧ (fun q => (fun q => cc (60 * j + q)) (a + q)) k ≤ nI (z + 1) ∧ ¬ (cT fw (fun q => (fun q => cc (60 * j + q)) (a + q)) m_ z) (z + 1 - ix ((fun q => (fun q => cc (60 * j + q)) (a + q)) k)) = -9 := ⟨c_14, c_16b, fun h => c_18 (by have h2 : (cT fw (fun q => (fun q => cc (60 * j + q)) (a + q)) m_ z) (z + 1 - ix (cc (60 * j + (a + k)))) = -9 := h; rwa [hiy] at h2)⟩
                                          have eL : fwL (cT fw (fun q => (fun q => cc (60 * j + q)) (a + q)) m_ z) (fun q => (fun q => cc (60 * j + q)) (a + q)) (z + 1) (k + 1) = ((cT fw (fun q => (fun q => cc (60 * j + q)) (a + q)) m_ z) (z + 1 - y_) + 1) := by rw [fwL, if_pos hc, if_neg c_21]; show (if (cT fw (fun q => (fun q => cc (60 * j + q)) (a + q)) m_ z) (z + 1 - ix (cc (60 * j + (a + k)))) + 1 < fwL (cT fw (fun q => (fun q => cc (60 * j + q)) (a + q)) m_ z) (fun q => (fun q => cc (60 * j + q)) (a + q)) (z + 1) k then (cT fw (fun q => (fun q => cc (60 * j + q)) (a + q)) m_ z) (z + 1 - ix (cc (60 * j + (a + k)))) + 1 else _) = _; rw [hiy]; exact if_pos c_22b
                                          rw [show upd (upd (cT fw (fun q => (fun q => cc (60 * j + q)) (a + q)) m_ z) (z + 1) (fwL (cT fw (fun q => (fun q => cc (60 * j + q)) (a + q)) m_ z) (fun q => (fun q => cc (60 * j + q)) (a + q)) (z + 1) k)) (z + 1) (((cT fw (fun q => (fun q => cc (60 * j + q)) (a + q)) m_ z) (z + 1 - y_)) + 1) = upd (cT fw (fun q => (fun q => cc (60 * j + q)) (a + q)) m_ z) (z + 1) (fwL (cT fw (fun q => (fun q => cc (60 * j + q)) (a + q)) m_ z) (fun q => (fun q => cc (60 * j + q)) (a + q)) (z + 1) (k + 1)) from (upd_twice _ _ _ _).trans (congrArg _ eL.symm)] at hP hD
                                          refine lv_iinc (v := nI (k + 1)) (lv' := [(9, .int (nI (k + 1))), (11, .int 1), (10, .int (cc (60 * j + (a + k)))), (8, .int (nI (z + 1))), (7, .int (nI ((60 * j) + a))), (0, .ref m0), (4, .int (nI m_)), (5, .int (nI y))]) hx hb dX7_fewest_267 hl (k := 2) rfl (nI_inc k) (by decide) rfl (fun ls hl => ?_)
                                          refine lv_goto (tgt := 146) hx hb dX7_fewest_270 (by decide) ?_
                                          exact ih146 (k + 1) (by omega) (by omega) _ _ hP hD hS ls (lv_sub hl [0, 3, 4, 5, 6, 7] rfl)
                        exact L146 _ 0 (by omega) (Nat.lt_succ_self _) _ _ hP hD hS ls (lv_sub hl [0, 1, 2, 3, 4, 5] rfl)
                  exact L127 _ 0 (by omega) (Nat.lt_succ_self _) _ _ hP hD hS ls (lv_sub hl [0, 1, 3, 7, 8] rfl)
                ·
                  refine lv_aload_n hx hb dX7_fewest_88 rfl (lv_at hl 3 rfl) ?_
                  refine va_get (D := E.1) (ci := 7) (v := .ref z2) (C := RX7) (T := TX7) (N := 23) hx hb hts hinX7 hown hK.1 hP 0 rfl rfl 4 (by decide) fl_16 (fun _ h9 => h9) rfl dX7_fewest_89 ?_
                  refine lv_iload hx hb dX7_fewest_92 (lv_at hl 1 rfl) ?_
                  refine lv_iload hx hb dX7_fewest_94 (lv_at hl 0 rfl) ?_
                  refine N_iadd (a := (60 * j) + a) (b := z_) hx hb rfl rfl dX7_fewest_96 ?_
                  refine ild hx hb hK hP 3 rfl (j := ((60 * j) + a) + z_) rfl (by omega) (by decide) dX7_fewest_97 ?_
                  rw [Nat.add_assoc (60 * j) a z_]
                  refine lv_iconst (v := 0) hx hb dX7_fewest_98 (by decide) ?_
                  refine lv_sipush (v := 999) hx hb dX7_fewest_99 (by decide) ?_
                  refine crS (As := [.int (cc (60 * j + (a + z_))), .int 0, .int 999]) (rest := []) ⟨hx, hb, hml, hown, hts⟩ (c_X7_within l E (cc (60 * j + (a + z_))) 0 999) (va_cwS 3 hts gX7_fewest_X7_within rfl rfl rfl (by decide +kernel) ⟨Nat.le_of_ble_eq_true rfl, Nat.le_of_ble_eq_true rfl⟩) hK hP [] rfl rfl hl.1 rfl (catLe (Nat.le_of_ble_eq_true rfl)) dX7_fewest_102 ⟨Nat.zero_le _, Nat.zero_le _⟩ (fun r_23 hr_23 => ?_)
                  subst hr_23
                  refine ifB_ne (P := wiP (cc (60 * j + (a + z_))) 0 999) (tgt := 111) hx hb dX7_fewest_105 (by decide) (fun c_24 => ?_) (fun c_24 => ?_)
                  ·
                    refine lv_iinc (v := nI (z_ + 1)) (lv' := [(8, .int (nI (z_ + 1))), (7, .int (nI ((60 * j) + a))), (6, .int (agF (so j) lane (nI a) (nI m_) ln)), (0, .ref m0), (1, .int (nI j)), (2, .int lane), (3, .int (nI a)), (4, .int (nI m_)), (5, .int (nI y))]) hx hb dX7_fewest_111 hl (k := 0) rfl (nI_inc z_) (by decide) rfl (fun ls hl => ?_)
                    refine lv_goto (tgt := 81) hx hb dX7_fewest_114 (by decide) ?_
                    exact ih81 (z_ + 1) (by omega) (lt_s hq ⟨c_24.1, Int32.not_lt.mp c_24.2⟩) (by omega) _ _ hP hD hS ls (lv_sub hl [0, 1, 2, 3, 4, 5, 6, 7, 8] rfl)
                  ·
                    refine lv_bipush (v := (-2)) hx hb dX7_fewest_108 (by decide) ?_
                    exact hret _ _ _ _ _ fw dX7_fewest_110 hS (by rw [ha, eR]; exact hP) (by rw [spFewest, ha, eR, if_neg (not_not_intro rfl), hixa, hixm, if_pos (fun h => c_24 ⟨(h z_ (by omega)).1, Int32.not_lt.mpr (h z_ (by omega)).2⟩)])
            exact L81 _ 0 (by omega) (fun w h => absurd h (Nat.not_lt_zero w)) (Nat.lt_succ_self _) _ _ hP hD hS ls (lv_sub hl [0, 1, 2, 3, 4, 5, 6, 7, 8] rfl)
          ·
            refine lv_aload_n hx hb dX7_fewest_63 rfl (lv_at hl 1 rfl) ?_
            refine lv_iload hx hb dX7_fewest_64 (lv_at hl 0 rfl) ?_
            refine cwVi (As := [.int (agF (so j) lane i x ln)]) (rest := []) ⟨hx, hb, hml, hown, hts⟩ (c_X7_fails l E _ m0 0 tr z0 z1 z2 n y0 y1 y2 at_ rwi y3 y4 sl cr gr y5 y6 rc x0 x1 x2 x3 (agF (so j) lane i x ln)) (cwV 1 hts gX7_fewest_X7_fails rfl rfl rfl (by decide +kernel) ⟨Nat.le_of_ble_eq_true rfl, Nat.le_of_ble_eq_true rfl⟩) hK hP hD hS hA [0] (by decide) rfl [m0] (fun _ => rfl) rfl 0 rfl rfl rfl rfl hl.1 rfl (catLe (Nat.le_of_ble_eq_true rfl)) dX7_fewest_66 ⟨Nat.zero_le _, Nat.zero_le _⟩ (fun r_25 u_26 H locs hwr_25 hP hD hS => ?_)
            have hP : va_P E.1 vwCl [ob m0 7 [.int (agF (so j) lane i x ln), .int tr, .ref z0, .ref z1, .ref z2, .int (nI n), .ref y0, .ref y1, .ref y2, .int at_, .int rwi, .ref y3, .ref y4, .int sl, .int cr, .int gr, .ref y5, .ref y6, .int (nI rc), .ref x0, .ref x1, .ref x2, .ref x3], ar E z0 4 so, ar E z1 4 sg, ar E z2 240 cc, ar E y6 1000 fw] H := hP
            have hD : va_D A [ob m0 7 [.int (agF (so j) lane i x ln), .int tr, .ref z0, .ref z1, .ref z2, .int (nI n), .ref y0, .ref y1, .ref y2, .int at_, .int rwi, .ref y3, .ref y4, .int sl, .int cr, .int gr, .ref y5, .ref y6, .int (nI rc), .ref x0, .ref x1, .ref x2, .ref x3], ar E z0 4 so, ar E z1 4 sg, ar E z2 240 cc, ar E y6 1000 fw] := hD
            subst hwr_25
            exact hret _ _ _ _ _ fw dX7_fewest_69 hS (by rw [ha, eR, if_neg c_10, flt_ag c_10]; exact hP) (by rw [spFewest, ha, eR, if_neg c_10, if_pos (agF_ne c_10)])
        ·
          refine lv_bipush (v := (-2)) hx hb dX7_fewest_44 (by decide) ?_
          have eR : rtK (nI j) lane i x (if feT x d then 1 else 0) (thM (so j)) (so j) ln = -2 := by rw [rtK, if_neg (not_not_intro c_2), if_pos (Or.inr (if_neg (fun h => c_8 ⟨h.2.2.1, Int32.not_lt.mpr h.2.2.2⟩)))]
          exact hret _ _ _ _ _ fw dX7_fewest_46 hS (by rw [eR]; exact hP) (by rw [spFewest, eR, if_pos (by decide)])
  ·
    refine lv_iconst (v := (-1)) hx hb dX7_fewest_12 (by decide) ?_
    have eR : rtK sheet lane i x (if feT x d then 1 else 0) (thM (so j)) (so j) ln = -1 := by rw [rtK, if_pos c_2]
    exact hret _ _ _ _ _ fw dX7_fewest_13 hS (by rw [eR]; exact hP) (by rw [spFewest, eR, if_pos (by decide)])
set_option maxHeartbeats 4000000 in
set_option maxRecDepth 100000 in
theorem c_X7_standsSo (l : Launch) (E : gE) (m0 : Nat) (lf : Int32) (tr : Int32) (z0 : Nat) (z1 : Nat) (z2 : Nat) (n : Nat) (y0 : Nat) (y1 : Nat) (y2 : Nat) (at_ : Int32) (rwi : Int32) (y3 : Nat) (y4 : Nat) (sl : Int32) (cr : Int32) (gr : Int32) (y5 : Nat) (y6 : Nat) (rc : Nat) (x0 : Nat) (x1 : Nat) (x2 : Nat) (x3 : Nat) (kd : Nat → Int32) (mn : Nat → Int32) (cc : Nat → Int32) (b : Nat) (i : Nat) (nn : Nat) (v : Int32) (hFR : FR n kd mn) (hin : b + i + 2 * nn ≤ 240) (hvw : vwP (fun q => cc (b + q)) i n nn) : Met l yX7_standsSo wsX7_standsSo ({ frames := 4, cells := 0, slots := 0, locals := 87 }) (PR E [.ref m0, .int (nI (b + i)), .int (nI nn), .int v] [ob m0 7 [.int lf, .int tr, .ref z0, .ref z1, .ref z2, .int (nI n), .ref y0, .ref y1, .ref y2, .int at_, .int rwi, .ref y3, .ref y4, .int sl, .int cr, .int gr, .ref y5, .ref y6, .int (nI rc), .ref x0, .ref x1, .ref x2, .ref x3], ar E y0 6 kd, ar E y1 6 mn, ar E z2 240 cc]) (vp_Si (fun r => r = if stP (fun q => cc (b + q)) i nn (rmF kd mn) (woF kd mn) v then 1 else 0)) 0 0 (fun _ => False) := by
  refine mkRz (cc := cX7_standsSo) (maxL := 5) (by decide) rfl (Nat.le_of_ble_eq_true rfl) ?_
  intro p e s m args below meth c QQ hx hb hml hown hmn hts hK hP hret ls hl
  have hown : s.vm.findClass RX7 = some m.cls := hown
  have hl : lv_has ls 5 [(0, .ref m0), (1, .int (nI (b + i))), (2, .int (nI nn)), (3, .int v)] := hl
  have hinX7 : ∀ w ∈ wsX70, w ∈ wsX7_standsSo := by decide +kernel
  have fl_16 := hts (.fieldLink RX7 16 "GuardAbacusModel" "cells" "[I") (by decide +kernel)
  have hn := hFR.1
  refine lv_iconst (v := 0) hx hb dX7_standsSo_0 (by decide) ?_
  refine lv_istore (lv' := [(4, .int 0), (0, .ref m0), (1, .int (nI (b + i))), (2, .int (nI nn)), (3, .int v)]) hx hb dX7_standsSo_1 hl (by decide) rfl (fun ls hl => ?_)
  have L3 : ∀ (fuel : Nat) (k : Nat), (k ≤ nn) → (∀ q, q < k → figF (woF kd mn (ix (cc (b + (i + 2 * q))))) (rmF kd mn (ix (cc (b + (i + 2 * q))))) v = cc (b + (i + 2 * q + 1))) → (nn - k) < fuel → ∀ ls : Array Slot, lv_has ls 5 [(4, .int (nI k)), (0, .ref m0), (1, .int (nI (b + i))), (2, .int (nI nn)), (3, .int v)] → W p l e ({ frames := 4, cells := 0, slots := 0, locals := 87 }) s m args below meth c s.heap [] 0 0 QQ (F0 m 3 ls []) := by
    intro fuel
    induction fuel with
    | zero => intro k hk hq hf; exact absurd hf (Nat.not_lt_zero _)
    | succ fuel ih3 =>
      intro k hk hq hf3 ls hl
      refine lv_iload hx hb dX7_standsSo_3 (lv_at hl 0 rfl) ?_
      refine lv_iload_n hx hb dX7_standsSo_5 rfl (lv_at hl 3 rfl) ?_
      refine icmpN_ge (tgt := 49) (a := k) (b := nn) hx hb rfl rfl (by omega) (by omega) dX7_standsSo_6 (by decide) (fun c_1 => ?_) (fun c_1 => ?_)
      ·
        obtain rfl : nn = k := by omega
        refine lv_iconst (v := 1) hx hb dX7_standsSo_49 (by decide) ?_
        exact hret _ _ _ dX7_standsSo_50 rfl (if_pos hq).symm
      ·
        refine lv_aload_n hx hb dX7_standsSo_9 rfl (lv_at hl 1 rfl) ?_
        refine lv_aload_n hx hb dX7_standsSo_10 rfl (lv_at hl 1 rfl) ?_
        refine va_get (D := E.1) (ci := 7) (v := .ref z2) (C := RX7) (T := TX7) (N := 23) hx hb hts hinX7 hown hK.1 hP 0 rfl rfl 4 (by decide) fl_16 (fun _ h9 => h9) rfl dX7_standsSo_11 ?_
        refine lv_iload_n hx hb dX7_standsSo_14 rfl (lv_at hl 2 rfl) ?_
        refine lv_iconst (v := 2) hx hb dX7_standsSo_15 (by decide) ?_
        refine lv_iload hx hb dX7_standsSo_16 (lv_at hl 0 rfl) ?_
        refine N_imul (a := 2) (b := k) hx hb rfl rfl dX7_standsSo_18 ?_
        refine N_iadd (a := b + i) (b := 2 * k) hx hb rfl rfl dX7_standsSo_19 ?_
        refine ild hx hb hK hP 3 rfl (j := (b + i) + (2 * k)) rfl (by omega) (by decide) dX7_standsSo_20 ?_
        rw [Nat.add_assoc b i (2 * k)]
        obtain ⟨y_, hy, ey⟩ := hasP_of (hvw k (by omega)) hFR.1
        have ey : cc (b + (i + 2 * k)) = nI y_ := ey
        have hiy : ix (cc (b + (i + 2 * k))) = y_ := by rw [ey]; exact ix_nI (by omega)
        refine lv_iload_n hx hb dX7_standsSo_21 rfl (lv_at hl 4 rfl) ?_
        refine crV (As := [.int (cc (b + (i + 2 * k))), .int v]) (rest := []) ⟨hx, hb, hml, hown, hts⟩ (c_X7_figureOf l E m0 lf tr z0 z1 z2 n y0 y1 y2 at_ rwi y3 y4 sl cr gr y5 y6 rc x0 x1 x2 x3 kd mn (cc (b + (i + 2 * k))) y_ v (by first | assumption | omega) hy ey) (cwV 2 hts gX7_standsSo_X7_figureOf rfl rfl rfl (by decide +kernel) ⟨Nat.le_of_ble_eq_true rfl, Nat.le_of_ble_eq_true rfl⟩) hK hP [0, 1, 2] rfl 0 rfl rfl rfl rfl hl.1 rfl (catLe (Nat.le_of_ble_eq_true rfl)) dX7_standsSo_22 ⟨Nat.zero_le _, Nat.zero_le _⟩ (fun r_2 hr_2 => ?_)
        subst hr_2
        refine lv_aload_n hx hb dX7_standsSo_25 rfl (lv_at hl 1 rfl) ?_
        refine va_get (D := E.1) (ci := 7) (v := .ref z2) (C := RX7) (T := TX7) (N := 23) hx hb hts hinX7 hown hK.1 hP 0 rfl rfl 4 (by decide) fl_16 (fun _ h9 => h9) rfl dX7_standsSo_26 ?_
        refine lv_iload_n hx hb dX7_standsSo_29 rfl (lv_at hl 2 rfl) ?_
        refine lv_iconst (v := 2) hx hb dX7_standsSo_30 (by decide) ?_
        refine lv_iload hx hb dX7_standsSo_31 (lv_at hl 0 rfl) ?_
        refine N_imul (a := 2) (b := k) hx hb rfl rfl dX7_standsSo_33 ?_
        refine N_iadd (a := b + i) (b := 2 * k) hx hb rfl rfl dX7_standsSo_34 ?_
        refine lv_iconst (v := 1) hx hb dX7_standsSo_35 (by decide) ?_
        refine N_iadd (a := (b + i) + (2 * k)) (b := 1) hx hb rfl rfl dX7_standsSo_36 ?_
        refine ild hx hb hK hP 3 rfl (j := ((b + i) + (2 * k)) + 1) rfl (by omega) (by decide) dX7_standsSo_37 ?_
        rw [show b + i + 2 * k + 1 = b + (i + 2 * k + 1) by omega]
        refine lv_icmp_eq (tgt := 43) hx hb dX7_standsSo_38 (by decide) (fun c_3 => ?_) (fun c_3 => ?_)
        ·
          refine lv_iinc (v := nI (k + 1)) (lv' := [(4, .int (nI (k + 1))), (0, .ref m0), (1, .int (nI (b + i))), (2, .int (nI nn)), (3, .int v)]) hx hb dX7_standsSo_43 hl (k := 0) rfl (nI_inc k) (by decide) rfl (fun ls hl => ?_)
          refine lv_goto (tgt := 3) hx hb dX7_standsSo_46 (by decide) ?_
          exact ih3 (k + 1) (by omega) (lt_s hq (by rw [hiy]; exact c_3)) (by omega) ls (lv_sub hl [0, 1, 2, 3, 4] rfl)
        ·
          refine lv_iconst (v := 0) hx hb dX7_standsSo_41 (by decide) ?_
          exact hret _ _ _ dX7_standsSo_42 rfl (if_neg (fun h => c_3 (by have h2 : figF (woF kd mn (ix (cc (b + (i + 2 * k))))) (rmF kd mn (ix (cc (b + (i + 2 * k))))) v = cc (b + (i + 2 * k + 1)) := h k (by omega); rw [hiy] at h2; exact h2))).symm
  exact L3 _ 0 (by omega) (fun w h => absurd h (Nat.not_lt_zero w)) (Nat.lt_succ_self _) ls (lv_sub hl [0, 1, 2, 3, 4] rfl)
set_option maxHeartbeats 4000000 in
set_option maxRecDepth 100000 in
theorem c_X7_added (l : Launch) (E : gE) (sz : Nat) (m0 : Nat) (lf : Int32) (tr : Int32) (z0 : Nat) (z1 : Nat) (z2 : Nat) (n : Nat) (y0 : Nat) (y1 : Nat) (y2 : Nat) (at_ : Int32) (rwi : Int32) (y3 : Nat) (y4 : Nat) (sl : Int32) (cr : Int32) (gr : Int32) (y5 : Nat) (y6 : Nat) (rc : Nat) (x0 : Nat) (x1 : Nat) (x2 : Nat) (x3 : Nat) (so : Nat → Int32) (sg : Nat → Int32) (cc : Nat → Int32) (kd : Nat → Int32) (mn : Nat → Int32) (pu : Nat → Int32) (ln : Nat) (j : Nat) (sheet : Int32) (lane : Int32) (i : Int32) (x : Int32) (what : Int32) (hj4 : j < 4) (hjs : shP sheet → sheet = nI j) (hsg : sg j = nI ln) (h60 : ln ≤ 60) (hFR : FR n kd mn) : Met l yX7_added wsX7_added ({ frames := 5, cells := 0, slots := 0, locals := 111 }) (PW E [.ref m0, .int sheet, .int lane, .int i, .int x, .int what] [ob m0 7 [.int lf, .int tr, .ref z0, .ref z1, .ref z2, .int (nI n), .ref y0, .ref y1, .ref y2, .int at_, .int rwi, .ref y3, .ref y4, .int sl, .int cr, .int gr, .ref y5, .ref y6, .int (nI rc), .ref x0, .ref x1, .ref x2, .ref x3], ar E z0 4 so, ar E z1 4 sg, ar E z2 240 cc, ar E y0 6 kd, ar E y1 6 mn, ar E y2 6 pu] sz) (QWi E (fun r _ => r = spAdded sheet lane i x what (thM (so j)) (so j) ln (fun q => cc (60 * j + q)) n (woF kd mn n - 1) pu (rmF kd mn) (woF kd mn)) (fun (_ : Unit) => [ob m0 7 [.int (fltF (rtK sheet lane i (2 * x) (if adT x what then 1 else 0) (thM (so j)) (so j) ln)), .int tr, .ref z0, .ref z1, .ref z2, .int (nI n), .ref y0, .ref y1, .ref y2, .int at_, .int rwi, .ref y3, .ref y4, .int sl, .int cr, .int gr, .ref y5, .ref y6, .int (nI rc), .ref x0, .ref x1, .ref x2, .ref x3], ar E z0 4 so, ar E z1 4 sg, ar E z2 240 cc, ar E y0 6 kd, ar E y1 6 mn, ar E y2 6 pu]) (va_A [ob m0 7 [.int lf, .int tr, .ref z0, .ref z1, .ref z2, .int (nI n), .ref y0, .ref y1, .ref y2, .int at_, .int rwi, .ref y3, .ref y4, .int sl, .int cr, .int gr, .ref y5, .ref y6, .int (nI rc), .ref x0, .ref x1, .ref x2, .ref x3], ar E z0 4 so, ar E z1 4 sg, ar E z2 240 cc, ar E y0 6 kd, ar E y1 6 mn, ar E y2 6 pu] sz)) 0 0 (va_A [ob m0 7 [.int lf, .int tr, .ref z0, .ref z1, .ref z2, .int (nI n), .ref y0, .ref y1, .ref y2, .int at_, .int rwi, .ref y3, .ref y4, .int sl, .int cr, .int gr, .ref y5, .ref y6, .int (nI rc), .ref x0, .ref x1, .ref x2, .ref x3], ar E z0 4 so, ar E z1 4 sg, ar E z2 240 cc, ar E y0 6 kd, ar E y1 6 mn, ar E y2 6 pu] sz) := by
  refine mkWi (cc := cX7_added) (maxL := 12) (by decide) rfl (Nat.le_of_ble_eq_true rfl) ?_
  intro p e s m args below meth c QQ A hx hb hml hown hmn hts hK hA hP hD hS hret ls hl
  have hown : s.vm.findClass RX7 = some m.cls := hown
  have hl : lv_has ls 12 [(0, .ref m0), (1, .int sheet), (2, .int lane), (3, .int i), (4, .int x), (5, .int what)] := hl
  have hinX7 : ∀ w ∈ wsX70, w ∈ wsX7_added := by decide +kernel
  have fl_16 := hts (.fieldLink RX7 16 "GuardAbacusModel" "cells" "[I") (by decide +kernel)
  have fl_52 := hts (.fieldLink RX7 52 "GuardAbacusModel" "fault" "I") (by decide +kernel)
  have fl_62 := hts (.fieldLink RX7 62 "GuardAbacusModel" "wires" "I") (by decide +kernel)
  have hn := hFR.1
  refine lv_aload_n hx hb dX7_added_0 rfl (lv_at hl 0 rfl) ?_
  refine lv_iconst (v := 0) hx hb dX7_added_1 (by decide) ?_
  refine va_put (D := E.1) (ci := 7) (v := .int 0) (ty := .int) (C := RX7) (T := TX7) (N := 23) hx hb hts hinX7 tyX7 tyX7_ok nmX7 hown hK.1 hP hD hS 0 rfl rfl 0 (by decide) fl_52 (fun _ h9 => h9) rfl (by decide +kernel) rfl rfl (Nat.le_of_ble_eq_true rfl) dX7_added_2 (fun H locs hP hD hS => ?_)
  have hP : va_P E.1 vwCl [ob m0 7 [.int 0, .int tr, .ref z0, .ref z1, .ref z2, .int (nI n), .ref y0, .ref y1, .ref y2, .int at_, .int rwi, .ref y3, .ref y4, .int sl, .int cr, .int gr, .ref y5, .ref y6, .int (nI rc), .ref x0, .ref x1, .ref x2, .ref x3], ar E z0 4 so, ar E z1 4 sg, ar E z2 240 cc, ar E y0 6 kd, ar E y1 6 mn, ar E y2 6 pu] H := hP
  have hD : va_D A [ob m0 7 [.int 0, .int tr, .ref z0, .ref z1, .ref z2, .int (nI n), .ref y0, .ref y1, .ref y2, .int at_, .int rwi, .ref y3, .ref y4, .int sl, .int cr, .int gr, .ref y5, .ref y6, .int (nI rc), .ref x0, .ref x1, .ref x2, .ref x3], ar E z0 4 so, ar E z1 4 sg, ar E z2 240 cc, ar E y0 6 kd, ar E y1 6 mn, ar E y2 6 pu] := hD
  refine lv_iload_n hx hb dX7_added_5 rfl (lv_at hl 1 rfl) ?_
  refine crS (As := [.int sheet]) (rest := []) ⟨hx, hb, hml, hown, hts⟩ (c_X7_isSheet l E sheet) (va_cwS 1 hts gX7_added_X7_isSheet rfl rfl rfl (by decide +kernel) ⟨Nat.le_of_ble_eq_true rfl, Nat.le_of_ble_eq_true rfl⟩) hK hP [] rfl rfl hl.1 rfl (catLe (Nat.le_of_ble_eq_true rfl)) dX7_added_6 ⟨Nat.zero_le _, Nat.zero_le _⟩ (fun r_1 hr_1 => ?_)
  subst hr_1
  refine ifB_ne (P := shP sheet) (tgt := 14) hx hb dX7_added_9 (by decide) (fun c_2 => ?_) (fun c_2 => ?_)
  ·
    have hsh := hjs c_2
    subst hsh
    refine lv_iload_n hx hb dX7_added_14 rfl (lv_at hl 2 rfl) ?_
    refine crS (As := [.int lane]) (rest := []) ⟨hx, hb, hml, hown, hts⟩ (c_X7_isSort l E lane) (va_cwS 1 hts gX7_added_X7_isSort rfl rfl rfl (by decide +kernel) ⟨Nat.le_of_ble_eq_true rfl, Nat.le_of_ble_eq_true rfl⟩) hK hP [] rfl rfl hl.1 rfl (catLe (Nat.le_of_ble_eq_true rfl)) dX7_added_15 ⟨Nat.zero_le _, Nat.zero_le _⟩ (fun r_3 hr_3 => ?_)
    subst hr_3
    refine ifB_eq (P := laP lane) (tgt := 42) hx hb dX7_added_18 (by decide) (fun c_4 => ?_) (fun c_4 => ?_)
    ·
      refine lv_bipush (v := (-2)) hx hb dX7_added_42 (by decide) ?_
      have eR : rtK (nI j) lane i (2 * x) (if adT x what then 1 else 0) (thM (so j)) (so j) ln = -2 := by rw [rtK, if_neg (not_not_intro c_2), if_pos (Or.inl c_4)]
      exact hret _ _ _ _ _ () dX7_added_44 hS (by rw [eR]; exact hP) (by rw [spAdded, eR, if_pos (by decide)])
    ·
      refine lv_iload hx hb dX7_added_21 (lv_at hl 4 rfl) ?_
      refine lv_iconst (v := 0) hx hb dX7_added_23 (by decide) ?_
      refine lv_bipush (v := 10) hx hb dX7_added_24 (by decide) ?_
      refine crS (As := [.int x, .int 0, .int 10]) (rest := []) ⟨hx, hb, hml, hown, hts⟩ (c_X7_within l E x 0 10) (va_cwS 3 hts gX7_added_X7_within rfl rfl rfl (by decide +kernel) ⟨Nat.le_of_ble_eq_true rfl, Nat.le_of_ble_eq_true rfl⟩) hK hP [] rfl rfl hl.1 rfl (catLe (Nat.le_of_ble_eq_true rfl)) dX7_added_26 ⟨Nat.zero_le _, Nat.zero_le _⟩ (fun r_5 hr_5 => ?_)
      subst hr_5
      refine ifB_eq (P := wiP x 0 10) (tgt := 42) hx hb dX7_added_29 (by decide) (fun c_6 => ?_) (fun c_6 => ?_)
      ·
        refine lv_bipush (v := (-2)) hx hb dX7_added_42 (by decide) ?_
        have eR : rtK (nI j) lane i (2 * x) (if adT x what then 1 else 0) (thM (so j)) (so j) ln = -2 := by rw [rtK, if_neg (not_not_intro c_2), if_pos (Or.inr (if_neg (fun h => c_6 ⟨h.1, Int32.not_lt.mpr h.2.1⟩)))]
        exact hret _ _ _ _ _ () dX7_added_44 hS (by rw [eR]; exact hP) (by rw [spAdded, eR, if_pos (by decide)])
      ·
        refine lv_iload hx hb dX7_added_32 (lv_at hl 5 rfl) ?_
        refine lv_iconst (v := 0) hx hb dX7_added_34 (by decide) ?_
        refine lv_iconst (v := 2) hx hb dX7_added_35 (by decide) ?_
        refine crS (As := [.int what, .int 0, .int 2]) (rest := []) ⟨hx, hb, hml, hown, hts⟩ (c_X7_within l E what 0 2) (va_cwS 3 hts gX7_added_X7_within rfl rfl rfl (by decide +kernel) ⟨Nat.le_of_ble_eq_true rfl, Nat.le_of_ble_eq_true rfl⟩) hK hP [] rfl rfl hl.1 rfl (catLe (Nat.le_of_ble_eq_true rfl)) dX7_added_36 ⟨Nat.zero_le _, Nat.zero_le _⟩ (fun r_7 hr_7 => ?_)
        subst hr_7
        refine ifB_ne (P := wiP what 0 2) (tgt := 45) hx hb dX7_added_39 (by decide) (fun c_8 => ?_) (fun c_8 => ?_)
        ·
          have ha : (if adT x what then (1 : Int32) else 0) = 1 := if_pos ⟨c_6.1, Int32.not_lt.mp c_6.2, c_8.1, Int32.not_lt.mp c_8.2⟩
          have eR := ag_rt (sheet := nI j) (i := i) (cells := 2 * x) (so := so j) (ln := ln) c_2 c_4
          refine lv_aload_n hx hb dX7_added_45 rfl (lv_at hl 0 rfl) ?_
          refine lv_iload_n hx hb dX7_added_46 rfl (lv_at hl 1 rfl) ?_
          refine lv_iload_n hx hb dX7_added_47 rfl (lv_at hl 2 rfl) ?_
          refine lv_iload_n hx hb dX7_added_48 rfl (lv_at hl 3 rfl) ?_
          refine lv_iconst (v := 2) hx hb dX7_added_49 (by decide) ?_
          refine lv_iload hx hb dX7_added_50 (lv_at hl 4 rfl) ?_
          refine lv_imul hx hb dX7_added_52 ?_
          refine crV (As := [.int (nI j), .int lane, .int i, .int (2 * x)]) (rest := []) ⟨hx, hb, hml, hown, hts⟩ (c_X7_against l E m0 0 tr z0 z1 z2 n y0 y1 y2 at_ rwi y3 y4 sl cr gr y5 y6 rc x0 x1 x2 x3 so sg j ln lane i (2 * x) (by first | assumption | omega) (by first | assumption | omega)) (cwV 4 hts gX7_added_X7_against rfl rfl rfl (by decide +kernel) ⟨Nat.le_of_ble_eq_true rfl, Nat.le_of_ble_eq_true rfl⟩) hK hP [0, 1, 2] rfl 0 rfl rfl rfl rfl hl.1 rfl (catLe (Nat.le_of_ble_eq_true rfl)) dX7_added_53 ⟨Nat.zero_le _, Nat.zero_le _⟩ (fun r_9 hr_9 => ?_)
          subst hr_9
          refine lv_istore (lv' := [(6, .int (agF (so j) lane i (2 * x) ln)), (0, .ref m0), (1, .int (nI j)), (2, .int lane), (3, .int i), (4, .int x), (5, .int what)]) hx hb dX7_added_56 hl (by decide) rfl (fun ls hl => ?_)
          refine lv_iload hx hb dX7_added_58 (lv_at hl 0 rfl) ?_
          refine lv_if_eq (tgt := 70) hx hb dX7_added_60 (by decide) (fun c_10 => ?_) (fun c_10 => ?_)
          ·
            rw [if_pos c_10] at eR
            have hz := rtK_0 eR
            obtain ⟨m_, hm, rfl⟩ := le_nat (n := 10) (M := 10) rfl c_6.1 (Int32.not_lt.mp c_6.2)
            obtain ⟨a, rfl, hab⟩ := reach2 (b := 2 * m_) (by have h := hz.2.2.2.2.2; rwa [show (2 : Int32) * nI m_ = nI (2 * m_) from pk_mul 2 m_] at h) h60 (by omega)
            have hixa : ix (nI a) = a := ix_nI (by omega)
            have hixm : ix (nI m_) = m_ := ix_nI (by omega)
            refine lv_aload_n hx hb dX7_added_70 rfl (lv_at hl 1 rfl) ?_
            refine va_get (D := E.1) (ci := 7) (v := .int (nI n)) (C := RX7) (T := TX7) (N := 23) hx hb hts hinX7 hown hK.1 hP 0 rfl rfl 5 (by decide) fl_62 (fun _ h9 => h9) rfl dX7_added_71 ?_
            refine ifN_ne (tgt := 80) (a := n) hx hb rfl (by omega) dX7_added_74 (by decide) (fun c_11 => ?_) (fun c_11 => ?_)
            ·
              refine lv_bipush (v := 60) hx hb dX7_added_80 (by decide) ?_
              refine lv_iload_n hx hb dX7_added_82 rfl (lv_at hl 2 rfl) ?_
              refine N_imul (a := 60) (b := j) hx hb rfl rfl dX7_added_83 ?_
              refine lv_iload_n hx hb dX7_added_84 rfl (lv_at hl 4 rfl) ?_
              refine N_iadd (a := 60 * j) (b := a) hx hb rfl rfl dX7_added_85 ?_
              refine lv_istore (lv' := [(7, .int (nI ((60 * j) + a))), (6, .int (agF (so j) lane (nI a) (2 * (nI m_)) ln)), (0, .ref m0), (1, .int (nI j)), (2, .int lane), (3, .int (nI a)), (4, .int (nI m_)), (5, .int what)]) hx hb dX7_added_86 hl (by decide) rfl (fun ls hl => ?_)
              refine lv_iconst (v := 0) hx hb dX7_added_88 (by decide) ?_
              refine lv_istore (lv' := [(8, .int 0), (7, .int (nI ((60 * j) + a))), (6, .int (agF (so j) lane (nI a) (2 * (nI m_)) ln)), (0, .ref m0), (1, .int (nI j)), (2, .int lane), (3, .int (nI a)), (4, .int (nI m_)), (5, .int what)]) hx hb dX7_added_89 hl (by decide) rfl (fun ls hl => ?_)
              have L91 : ∀ (fuel : Nat) (z_ : Nat), (z_ ≤ m_) → (∀ q, q < z_ → hasP n (cc (60 * j + (a + 2 * q)))) → (m_ - z_) < fuel → ∀ (H : Heap) (locs : List Loc), va_P E.1 vwCl [ob m0 7 [.int 0, .int tr, .ref z0, .ref z1, .ref z2, .int (nI n), .ref y0, .ref y1, .ref y2, .int at_, .int rwi, .ref y3, .ref y4, .int sl, .int cr, .int gr, .ref y5, .ref y6, .int (nI rc), .ref x0, .ref x1, .ref x2, .ref x3], ar E z0 4 so, ar E z1 4 sg, ar E z2 240 cc, ar E y0 6 kd, ar E y1 6 mn, ar E y2 6 pu] H → va_D A [ob m0 7 [.int 0, .int tr, .ref z0, .ref z1, .ref z2, .int (nI n), .ref y0, .ref y1, .ref y2, .int at_, .int rwi, .ref y3, .ref y4, .int sl, .int cr, .int gr, .ref y5, .ref y6, .int (nI rc), .ref x0, .ref x1, .ref x2, .ref x3], ar E z0 4 so, ar E z1 4 sg, ar E z2 240 cc, ar E y0 6 kd, ar E y1 6 mn, ar E y2 6 pu] → va_S A s.heap H locs → ∀ ls : Array Slot, lv_has ls 12 [(8, .int (nI z_)), (7, .int (nI ((60 * j) + a))), (6, .int (agF (so j) lane (nI a) (2 * (nI m_)) ln)), (0, .ref m0), (1, .int (nI j)), (2, .int lane), (3, .int (nI a)), (4, .int (nI m_)), (5, .int what)] → W p l e ({ frames := 5, cells := 0, slots := 0, locals := 111 }) s m args below meth c H locs 0 0 QQ (F0 m 91 ls []) := by
                intro fuel
                induction fuel with
                | zero => intro z_ hzm hvw hf; exact absurd hf (Nat.not_lt_zero _)
                | succ fuel ih91 =>
                  intro z_ hzm hvw hf91 H locs hP hD hS ls hl
                  refine lv_iload hx hb dX7_added_91 (lv_at hl 0 rfl) ?_
                  refine lv_iload hx hb dX7_added_93 (lv_at hl 7 rfl) ?_
                  refine icmpN_ge (tgt := 125) (a := z_) (b := m_) hx hb rfl rfl (by omega) (by omega) dX7_added_95 (by decide) (fun c_12 => ?_) (fun c_12 => ?_)
                  ·
                    obtain rfl : m_ = z_ := by omega
                    refine lv_iconst (v := 0) hx hb dX7_added_125 (by decide) ?_
                    refine lv_istore (lv' := [(8, .int 0), (7, .int (nI ((60 * j) + a))), (6, .int (agF (so j) lane (nI a) (2 * (nI m_)) ln)), (0, .ref m0), (1, .int (nI j)), (2, .int lane), (3, .int (nI a)), (4, .int (nI m_)), (5, .int what)]) hx hb dX7_added_126 hl (by decide) rfl (fun ls hl => ?_)
                    refine lv_bipush (v := (-9)) hx hb dX7_added_128 (by decide) ?_
                    refine lv_istore (lv' := [(9, .int (-9)), (8, .int 0), (7, .int (nI ((60 * j) + a))), (6, .int (agF (so j) lane (nI a) (2 * (nI m_)) ln)), (0, .ref m0), (1, .int (nI j)), (2, .int lane), (3, .int (nI a)), (4, .int (nI m_)), (5, .int what)]) hx hb dX7_added_130 hl (by decide) rfl (fun ls hl => ?_)
                    refine lv_bipush (v := (-9)) hx hb dX7_added_132 (by decide) ?_
                    refine lv_istore (lv' := [(10, .int (-9)), (9, .int (-9)), (8, .int 0), (7, .int (nI ((60 * j) + a))), (6, .int (agF (so j) lane (nI a) (2 * (nI m_)) ln)), (0, .ref m0), (1, .int (nI j)), (2, .int lane), (3, .int (nI a)), (4, .int (nI m_)), (5, .int what)]) hx hb dX7_added_134 hl (by decide) rfl (fun ls hl => ?_)
                    refine lv_iconst (v := 0) hx hb dX7_added_136 (by decide) ?_
                    refine lv_istore (lv' := [(11, .int 0), (10, .int (-9)), (9, .int (-9)), (8, .int 0), (7, .int (nI ((60 * j) + a))), (6, .int (agF (so j) lane (nI a) (2 * (nI m_)) ln)), (0, .ref m0), (1, .int (nI j)), (2, .int lane), (3, .int (nI a)), (4, .int (nI m_)), (5, .int what)]) hx hb dX7_added_137 hl (by decide) rfl (fun ls hl => ?_)
                    have L139 : ∀ (fuel : Nat) (k : Nat), (k ≤ 1000) → (k ≤ (adK (woF kd mn n - 1) (numF pu (woF kd mn) n))) → (1000 - k) < fuel → ∀ (H : Heap) (locs : List Loc), va_P E.1 vwCl [ob m0 7 [.int 0, .int tr, .ref z0, .ref z1, .ref z2, .int (nI n), .ref y0, .ref y1, .ref y2, .int at_, .int rwi, .ref y3, .ref y4, .int sl, .int cr, .int gr, .ref y5, .ref y6, .int (nI rc), .ref x0, .ref x1, .ref x2, .ref x3], ar E z0 4 so, ar E z1 4 sg, ar E z2 240 cc, ar E y0 6 kd, ar E y1 6 mn, ar E y2 6 pu] H → va_D A [ob m0 7 [.int 0, .int tr, .ref z0, .ref z1, .ref z2, .int (nI n), .ref y0, .ref y1, .ref y2, .int at_, .int rwi, .ref y3, .ref y4, .int sl, .int cr, .int gr, .ref y5, .ref y6, .int (nI rc), .ref x0, .ref x1, .ref x2, .ref x3], ar E z0 4 so, ar E z1 4 sg, ar E z2 240 cc, ar E y0 6 kd, ar E y1 6 mn, ar E y2 6 pu] → va_S A s.heap H locs → ∀ ls : Array Slot, lv_has ls 12 [(11, .int (nI k)), (10, .int ((adF (fun q => cc (60 * j + q)) a m_ (rmF kd mn) (woF kd mn) (numF pu (woF kd mn) n) k).2.2)), (9, .int ((adF (fun q => cc (60 * j + q)) a m_ (rmF kd mn) (woF kd mn) (numF pu (woF kd mn) n) k).2.1)), (8, .int ((adF (fun q => cc (60 * j + q)) a m_ (rmF kd mn) (woF kd mn) (numF pu (woF kd mn) n) k).1)), (7, .int (nI ((60 * j) + a))), (6, .int (agF (so j) lane (nI a) (2 * (nI m_)) ln)), (0, .ref m0), (1, .int (nI j)), (2, .int lane), (3, .int (nI a)), (4, .int (nI m_)), (5, .int what)] → W p l e ({ frames := 5, cells := 0, slots := 0, locals := 111 }) s m args below meth c H locs 0 0 QQ (F0 m 139 ls []) := by
                      intro fuel
                      induction fuel with
                      | zero => intro k hk hKa hf; exact absurd hf (Nat.not_lt_zero _)
                      | succ fuel ih139 =>
                        intro k hk hKa hf139 H locs hP hD hS ls hl
                        refine lv_iload hx hb dX7_added_139 (lv_at hl 0 rfl) ?_
                        refine lv_sipush (v := 999) hx hb dX7_added_141 (by decide) ?_
                        refine icmpN_gt (tgt := 203) (a := k) (b := 999) hx hb rfl rfl (by omega) (by omega) dX7_added_144 (by decide) (fun c_13 => ?_) (fun c_13 => ?_)
                        ·
                          obtain rfl := adL_ge hk hKa (adL_n1 c_13 hk)
                          refine lv_iload hx hb dX7_added_203 (lv_at hl 11 rfl) ?_
                          refine lv_if_ne (tgt := 213) hx hb dX7_added_205 (by decide) (fun c_14 => ?_) (fun c_14 => ?_)
                          ·
                            refine lv_iload hx hb dX7_added_213 (lv_at hl 11 rfl) ?_
                            refine lv_iconst (v := 1) hx hb dX7_added_215 (by decide) ?_
                            refine lv_icmp_ne (tgt := 224) hx hb dX7_added_216 (by decide) (fun c_15 => ?_) (fun c_15 => ?_)
                            ·
                              refine lv_iload hx hb dX7_added_224 (lv_at hl 1 rfl) ?_
                              exact hret _ _ _ _ _ () dX7_added_226 hS (by rw [ha, eR]; exact hP) (by rw [spAdded, ha, eR, if_neg (not_not_intro rfl), if_neg (by omega), hixa, hixm, if_neg (not_not_intro hvw), adO, if_neg c_14, if_neg c_15])
                            ·
                              refine lv_iload hx hb dX7_added_219 (lv_at hl 2 rfl) ?_
                              refine lv_goto (tgt := 226) hx hb dX7_added_221 (by decide) ?_
                              exact hret _ _ _ _ _ () dX7_added_226 hS (by rw [ha, eR]; exact hP) (by rw [spAdded, ha, eR, if_neg (not_not_intro rfl), if_neg (by omega), hixa, hixm, if_neg (not_not_intro hvw), adO, if_neg c_14, if_pos c_15])
                          ·
                            refine lv_iload hx hb dX7_added_208 (lv_at hl 3 rfl) ?_
                            refine lv_goto (tgt := 226) hx hb dX7_added_210 (by decide) ?_
                            exact hret _ _ _ _ _ () dX7_added_226 hS (by rw [ha, eR]; exact hP) (by rw [spAdded, ha, eR, if_neg (not_not_intro rfl), if_neg (by omega), hixa, hixm, if_neg (not_not_intro hvw), adO, if_pos c_14])
                        ·
                          refine lv_aload_n hx hb dX7_added_147 rfl (lv_at hl 6 rfl) ?_
                          refine lv_iload hx hb dX7_added_148 (lv_at hl 0 rfl) ?_
                          refine crV (As := [.int (nI k)]) (rest := []) ⟨hx, hb, hml, hown, hts⟩ (c_X7_canAdd l E m0 0 tr z0 z1 z2 n y0 y1 y2 at_ rwi y3 y4 sl cr gr y5 y6 rc x0 x1 x2 x3 kd mn pu (nI k) (by first | assumption | omega)) (cwV 1 hts gX7_added_X7_canAdd rfl rfl rfl (by decide +kernel) ⟨Nat.le_of_ble_eq_true rfl, Nat.le_of_ble_eq_true rfl⟩) hK hP [0, 4, 5, 6] rfl 0 rfl rfl rfl rfl hl.1 rfl (catLe (Nat.le_of_ble_eq_true rfl)) dX7_added_150 ⟨Nat.zero_le _, Nat.zero_le _⟩ (fun r_16 hr_16 => ?_)
                          subst hr_16
                          refine ifB_eq (P := ¬ woF kd mn n - 1 - (numF pu (woF kd mn) n) < (nI k)) (tgt := 203) hx hb dX7_added_153 (by decide) (fun c_17 => ?_) (fun c_17 => ?_)
                          ·
                            obtain rfl := adL_ge hk hKa (adL_n2 (by omega) c_17)
                            refine lv_iload hx hb dX7_added_203 (lv_at hl 11 rfl) ?_
                            refine lv_if_ne (tgt := 213) hx hb dX7_added_205 (by decide) (fun c_18 => ?_) (fun c_18 => ?_)
                            ·
                              refine lv_iload hx hb dX7_added_213 (lv_at hl 11 rfl) ?_
                              refine lv_iconst (v := 1) hx hb dX7_added_215 (by decide) ?_
                              refine lv_icmp_ne (tgt := 224) hx hb dX7_added_216 (by decide) (fun c_19 => ?_) (fun c_19 => ?_)
                              ·
                                refine lv_iload hx hb dX7_added_224 (lv_at hl 1 rfl) ?_
                                exact hret _ _ _ _ _ () dX7_added_226 hS (by rw [ha, eR]; exact hP) (by rw [spAdded, ha, eR, if_neg (not_not_intro rfl), if_neg (by omega), hixa, hixm, if_neg (not_not_intro hvw), adO, if_neg c_18, if_neg c_19])
                              ·
                                refine lv_iload hx hb dX7_added_219 (lv_at hl 2 rfl) ?_
                                refine lv_goto (tgt := 226) hx hb dX7_added_221 (by decide) ?_
                                exact hret _ _ _ _ _ () dX7_added_226 hS (by rw [ha, eR]; exact hP) (by rw [spAdded, ha, eR, if_neg (not_not_intro rfl), if_neg (by omega), hixa, hixm, if_neg (not_not_intro hvw), adO, if_neg c_18, if_pos c_19])
                            ·
                              refine lv_iload hx hb dX7_added_208 (lv_at hl 3 rfl) ?_
                              refine lv_goto (tgt := 226) hx hb dX7_added_210 (by decide) ?_
                              exact hret _ _ _ _ _ () dX7_added_226 hS (by rw [ha, eR]; exact hP) (by rw [spAdded, ha, eR, if_neg (not_not_intro rfl), if_neg (by omega), hixa, hixm, if_neg (not_not_intro hvw), adO, if_pos c_18])
                          ·
                            have hlt := adL_lt hk (adL_can (by omega) c_17)
                            refine lv_aload_n hx hb dX7_added_156 rfl (lv_at hl 6 rfl) ?_
                            refine lv_iload hx hb dX7_added_157 (lv_at hl 4 rfl) ?_
                            refine lv_iload hx hb dX7_added_159 (lv_at hl 10 rfl) ?_
                            refine lv_aload_n hx hb dX7_added_161 rfl (lv_at hl 6 rfl) ?_
                            refine crV (As := []) (rest := [.int (nI m_), .int (nI ((60 * j) + a)), .ref m0]) ⟨hx, hb, hml, hown, hts⟩ (c_X7_numberNow l E m0 0 tr z0 z1 z2 n y0 y1 y2 at_ rwi y3 y4 sl cr gr y5 y6 rc x0 x1 x2 x3 kd mn pu (by first | assumption | omega)) (cwV 0 hts gX7_added_X7_numberNow rfl rfl rfl (by decide +kernel) ⟨Nat.le_of_ble_eq_true rfl, Nat.le_of_ble_eq_true rfl⟩) hK hP [0, 4, 5, 6] rfl 0 rfl rfl rfl rfl hl.1 rfl (catLe (Nat.le_of_ble_eq_true rfl)) dX7_added_162 ⟨Nat.zero_le _, Nat.zero_le _⟩ (fun r_20 hr_20 => ?_)
                            subst hr_20
                            refine lv_iload hx hb dX7_added_165 (lv_at hl 0 rfl) ?_
                            refine lv_iadd hx hb dX7_added_167 ?_
                            refine crV (As := [.int (nI ((60 * j) + a)), .int (nI m_), .int ((numF pu (woF kd mn) n) + (nI k))]) (rest := []) ⟨hx, hb, hml, hown, hts⟩ (c_X7_standsSo l E m0 0 tr z0 z1 z2 n y0 y1 y2 at_ rwi y3 y4 sl cr gr y5 y6 rc x0 x1 x2 x3 kd mn cc (60 * j) a m_ ((numF pu (woF kd mn) n) + (nI k)) (by first | assumption | omega) (by omega) hvw) (cwV 3 hts gX7_added_X7_standsSo rfl rfl rfl (by decide +kernel) ⟨Nat.le_of_ble_eq_true rfl, Nat.le_of_ble_eq_true rfl⟩) hK hP [0, 4, 5, 3] rfl 0 rfl rfl rfl rfl hl.1 rfl (catLe (Nat.le_of_ble_eq_true rfl)) dX7_added_168 ⟨Nat.zero_le _, Nat.zero_le _⟩ (fun r_21 hr_21 => ?_)
                            subst hr_21
                            refine ifB_eq (P := stP (fun q => cc ((60 * j) + q)) a m_ (rmF kd mn) (woF kd mn) ((numF pu (woF kd mn) n) + (nI k))) (tgt := 197) hx hb dX7_added_171 (by decide) (fun c_22 => ?_) (fun c_22 => ?_)
                            ·
                              refine lv_iinc (v := nI (k + 1)) (lv' := [(11, .int (nI (k + 1))), (10, .int ((adF (fun q => cc (60 * j + q)) a m_ (rmF kd mn) (woF kd mn) (numF pu (woF kd mn) n) k).2.2)), (9, .int ((adF (fun q => cc (60 * j + q)) a m_ (rmF kd mn) (woF kd mn) (numF pu (woF kd mn) n) k).2.1)), (8, .int ((adF (fun q => cc (60 * j + q)) a m_ (rmF kd mn) (woF kd mn) (numF pu (woF kd mn) n) k).1)), (7, .int (nI ((60 * j) + a))), (6, .int (agF (so j) lane (nI a) (2 * (nI m_)) ln)), (0, .ref m0), (1, .int (nI j)), (2, .int lane), (3, .int (nI a)), (4, .int (nI m_)), (5, .int what)]) hx hb dX7_added_197 hl (k := 0) rfl (nI_inc k) (by decide) rfl (fun ls hl => ?_)
                              refine lv_goto (tgt := 139) hx hb dX7_added_200 (by decide) ?_
                              have eA : adF (fun q => cc (60 * j + q)) a m_ (rmF kd mn) (woF kd mn) (numF pu (woF kd mn) n) (k + 1) = adF (fun q => cc (60 * j + q)) a m_ (rmF kd mn) (woF kd mn) (numF pu (woF kd mn) n) k := if_neg c_22
                              have hl : lv_has ls 12 [(11, .int (nI (k + 1))), (10, .int ((adF (fun q => cc (60 * j + q)) a m_ (rmF kd mn) (woF kd mn) (numF pu (woF kd mn) n) (k + 1)).2.2)), (9, .int ((adF (fun q => cc (60 * j + q)) a m_ (rmF kd mn) (woF kd mn) (numF pu (woF kd mn) n) (k + 1)).2.1)), (8, .int ((adF (fun q => cc (60 * j + q)) a m_ (rmF kd mn) (woF kd mn) (numF pu (woF kd mn) n) (k + 1)).1)), (7, .int (nI ((60 * j) + a))), (6, .int (agF (so j) lane (nI a) (2 * (nI m_)) ln)), (0, .ref m0), (1, .int (nI j)), (2, .int lane), (3, .int (nI a)), (4, .int (nI m_)), (5, .int what)] := by rw [eA]; exact lv_sub hl [0, 1, 2, 3, 4, 5, 6, 7, 8, 9, 10, 11] rfl
                              exact ih139 (k + 1) (by omega) hlt.2 (by omega) _ _ hP hD hS ls (lv_sub hl [0, 1, 2, 3, 4, 5, 6, 7, 8, 9, 10, 11] rfl)
                            ·
                              refine lv_iinc (v := (adF (fun q => cc (60 * j + q)) a m_ (rmF kd mn) (woF kd mn) (numF pu (woF kd mn) n) k).1 + 1) (lv' := [(8, .int ((adF (fun q => cc (60 * j + q)) a m_ (rmF kd mn) (woF kd mn) (numF pu (woF kd mn) n) k).1 + 1)), (11, .int (nI k)), (10, .int ((adF (fun q => cc (60 * j + q)) a m_ (rmF kd mn) (woF kd mn) (numF pu (woF kd mn) n) k).2.2)), (9, .int ((adF (fun q => cc (60 * j + q)) a m_ (rmF kd mn) (woF kd mn) (numF pu (woF kd mn) n) k).2.1)), (7, .int (nI ((60 * j) + a))), (6, .int (agF (so j) lane (nI a) (2 * (nI m_)) ln)), (0, .ref m0), (1, .int (nI j)), (2, .int lane), (3, .int (nI a)), (4, .int (nI m_)), (5, .int what)]) hx hb dX7_added_174 hl (k := 3) rfl rfl (by decide) rfl (fun ls hl => ?_)
                              refine lv_iload hx hb dX7_added_177 (lv_at hl 3 rfl) ?_
                              refine lv_bipush (v := (-9)) hx hb dX7_added_179 (by decide) ?_
                              refine lv_icmp_ne (tgt := 189) hx hb dX7_added_181 (by decide) (fun c_23 => ?_) (fun c_23 => ?_)
                              ·
                                refine lv_iload hx hb dX7_added_189 (lv_at hl 3 rfl) ?_
                                refine lv_istore (lv' := [(9, .int ((adF (fun q => cc (60 * j + q)) a m_ (rmF kd mn) (woF kd mn) (numF pu (woF kd mn) n) k).2.1)), (8, .int ((adF (fun q => cc (60 * j + q)) a m_ (rmF kd mn) (woF kd mn) (numF pu (woF kd mn) n) k).1 + 1)), (11, .int (nI k)), (10, .int ((adF (fun q => cc (60 * j + q)) a m_ (rmF kd mn) (woF kd mn) (numF pu (woF kd mn) n) k).2.2)), (7, .int (nI ((60 * j) + a))), (6, .int (agF (so j) lane (nI a) (2 * (nI m_)) ln)), (0, .ref m0), (1, .int (nI j)), (2, .int lane), (3, .int (nI a)), (4, .int (nI m_)), (5, .int what)]) hx hb dX7_added_191 hl (by decide) rfl (fun ls hl => ?_)
                                refine lv_iload hx hb dX7_added_193 (lv_at hl 2 rfl) ?_
                                refine lv_istore (lv' := [(10, .int (nI k)), (9, .int ((adF (fun q => cc (60 * j + q)) a m_ (rmF kd mn) (woF kd mn) (numF pu (woF kd mn) n) k).2.1)), (8, .int ((adF (fun q => cc (60 * j + q)) a m_ (rmF kd mn) (woF kd mn) (numF pu (woF kd mn) n) k).1 + 1)), (11, .int (nI k)), (7, .int (nI ((60 * j) + a))), (6, .int (agF (so j) lane (nI a) (2 * (nI m_)) ln)), (0, .ref m0), (1, .int (nI j)), (2, .int lane), (3, .int (nI a)), (4, .int (nI m_)), (5, .int what)]) hx hb dX7_added_195 hl (by decide) rfl (fun ls hl => ?_)
                                refine lv_iinc (v := nI (k + 1)) (lv' := [(11, .int (nI (k + 1))), (10, .int (nI k)), (9, .int ((adF (fun q => cc (60 * j + q)) a m_ (rmF kd mn) (woF kd mn) (numF pu (woF kd mn) n) k).2.1)), (8, .int ((adF (fun q => cc (60 * j + q)) a m_ (rmF kd mn) (woF kd mn) (numF pu (woF kd mn) n) k).1 + 1)), (7, .int (nI ((60 * j) + a))), (6, .int (agF (so j) lane (nI a) (2 * (nI m_)) ln)), (0, .ref m0), (1, .int (nI j)), (2, .int lane), (3, .int (nI a)), (4, .int (nI m_)), (5, .int what)]) hx hb dX7_added_197 hl (k := 3) rfl (nI_inc k) (by decide) rfl (fun ls hl => ?_)
                                refine lv_goto (tgt := 139) hx hb dX7_added_200 (by decide) ?_
                                have eA : adF (fun q => cc (60 * j + q)) a m_ (rmF kd mn) (woF kd mn) (numF pu (woF kd mn) n) (k + 1) = ((adF (fun q => cc (60 * j + q)) a m_ (rmF kd mn) (woF kd mn) (numF pu (woF kd mn) n) k).1 + 1, (adF (fun q => cc (60 * j + q)) a m_ (rmF kd mn) (woF kd mn) (numF pu (woF kd mn) n) k).2.1, nI k) := by rw [adF, if_pos c_22, if_neg c_23]
                                have hl : lv_has ls 12 [(11, .int (nI (k + 1))), (10, .int ((adF (fun q => cc (60 * j + q)) a m_ (rmF kd mn) (woF kd mn) (numF pu (woF kd mn) n) (k + 1)).2.2)), (9, .int ((adF (fun q => cc (60 * j + q)) a m_ (rmF kd mn) (woF kd mn) (numF pu (woF kd mn) n) (k + 1)).2.1)), (8, .int ((adF (fun q => cc (60 * j + q)) a m_ (rmF kd mn) (woF kd mn) (numF pu (woF kd mn) n) (k + 1)).1)), (7, .int (nI ((60 * j) + a))), (6, .int (agF (so j) lane (nI a) (2 * (nI m_)) ln)), (0, .ref m0), (1, .int (nI j)), (2, .int lane), (3, .int (nI a)), (4, .int (nI m_)), (5, .int what)] := by rw [eA]; exact lv_sub hl [0, 1, 2, 3, 4, 5, 6, 7, 8, 9, 10, 11] rfl
                                exact ih139 (k + 1) (by omega) hlt.2 (by omega) _ _ hP hD hS ls (lv_sub hl [0, 1, 2, 3, 4, 5, 6, 7, 8, 9, 10, 11] rfl)
                              ·
                                refine lv_iload hx hb dX7_added_184 (lv_at hl 1 rfl) ?_
                                refine lv_goto (tgt := 191) hx hb dX7_added_186 (by decide) ?_
                                refine lv_istore (lv' := [(9, .int (nI k)), (8, .int ((adF (fun q => cc (60 * j + q)) a m_ (rmF kd mn) (woF kd mn) (numF pu (woF kd mn) n) k).1 + 1)), (11, .int (nI k)), (10, .int ((adF (fun q => cc (60 * j + q)) a m_ (rmF kd mn) (woF kd mn) (numF pu (woF kd mn) n) k).2.2)), (7, .int (nI ((60 * j) + a))), (6, .int (agF (so j) lane (nI a) (2 * (nI m_)) ln)), (0, .ref m0), (1, .int (nI j)), (2, .int lane), (3, .int (nI a)), (4, .int (nI m_)), (5, .int what)]) hx hb dX7_added_191 hl (by decide) rfl (fun ls hl => ?_)
                                refine lv_iload hx hb dX7_added_193 (lv_at hl 2 rfl) ?_
                                refine lv_istore (lv' := [(10, .int (nI k)), (9, .int (nI k)), (8, .int ((adF (fun q => cc (60 * j + q)) a m_ (rmF kd mn) (woF kd mn) (numF pu (woF kd mn) n) k).1 + 1)), (11, .int (nI k)), (7, .int (nI ((60 * j) + a))), (6, .int (agF (so j) lane (nI a) (2 * (nI m_)) ln)), (0, .ref m0), (1, .int (nI j)), (2, .int lane), (3, .int (nI a)), (4, .int (nI m_)), (5, .int what)]) hx hb dX7_added_195 hl (by decide) rfl (fun ls hl => ?_)
                                refine lv_iinc (v := nI (k + 1)) (lv' := [(11, .int (nI (k + 1))), (10, .int (nI k)), (9, .int (nI k)), (8, .int ((adF (fun q => cc (60 * j + q)) a m_ (rmF kd mn) (woF kd mn) (numF pu (woF kd mn) n) k).1 + 1)), (7, .int (nI ((60 * j) + a))), (6, .int (agF (so j) lane (nI a) (2 * (nI m_)) ln)), (0, .ref m0), (1, .int (nI j)), (2, .int lane), (3, .int (nI a)), (4, .int (nI m_)), (5, .int what)]) hx hb dX7_added_197 hl (k := 3) rfl (nI_inc k) (by decide) rfl (fun ls hl => ?_)
                                refine lv_goto (tgt := 139) hx hb dX7_added_200 (by decide) ?_
                                have eA : adF (fun q => cc (60 * j + q)) a m_ (rmF kd mn) (woF kd mn) (numF pu (woF kd mn) n) (k + 1) = ((adF (fun q => cc (60 * j + q)) a m_ (rmF kd mn) (woF kd mn) (numF pu (woF kd mn) n) k).1 + 1, nI k, nI k) := by rw [adF, if_pos c_22, if_pos c_23]
                                have hl : lv_has ls 12 [(11, .int (nI (k + 1))), (10, .int ((adF (fun q => cc (60 * j + q)) a m_ (rmF kd mn) (woF kd mn) (numF pu (woF kd mn) n) (k + 1)).2.2)), (9, .int ((adF (fun q => cc (60 * j + q)) a m_ (rmF kd mn) (woF kd mn) (numF pu (woF kd mn) n) (k + 1)).2.1)), (8, .int ((adF (fun q => cc (60 * j + q)) a m_ (rmF kd mn) (woF kd mn) (numF pu (woF kd mn) n) (k + 1)).1)), (7, .int (nI ((60 * j) + a))), (6, .int (agF (so j) lane (nI a) (2 * (nI m_)) ln)), (0, .ref m0), (1, .int (nI j)), (2, .int lane), (3, .int (nI a)), (4, .int (nI m_)), (5, .int what)] := by rw [eA]; exact lv_sub hl [0, 1, 2, 3, 4, 5, 6, 7, 8, 9, 10, 11] rfl
                                exact ih139 (k + 1) (by omega) hlt.2 (by omega) _ _ hP hD hS ls (lv_sub hl [0, 1, 2, 3, 4, 5, 6, 7, 8, 9, 10, 11] rfl)
                    exact L139 _ 0 (by omega) (Nat.zero_le _) (Nat.lt_succ_self _) _ _ hP hD hS ls (lv_sub hl [0, 1, 2, 3, 4, 5, 6, 7, 8, 9, 10, 11] rfl)
                  ·
                    refine lv_aload_n hx hb dX7_added_98 rfl (lv_at hl 3 rfl) ?_
                    refine lv_aload_n hx hb dX7_added_99 rfl (lv_at hl 3 rfl) ?_
                    refine va_get (D := E.1) (ci := 7) (v := .ref z2) (C := RX7) (T := TX7) (N := 23) hx hb hts hinX7 hown hK.1 hP 0 rfl rfl 4 (by decide) fl_16 (fun _ h9 => h9) rfl dX7_added_100 ?_
                    refine lv_iload hx hb dX7_added_103 (lv_at hl 1 rfl) ?_
                    refine lv_iconst (v := 2) hx hb dX7_added_105 (by decide) ?_
                    refine lv_iload hx hb dX7_added_106 (lv_at hl 0 rfl) ?_
                    refine N_imul (a := 2) (b := z_) hx hb rfl rfl dX7_added_108 ?_
                    refine N_iadd (a := (60 * j) + a) (b := 2 * z_) hx hb rfl rfl dX7_added_109 ?_
                    refine ild hx hb hK hP 3 rfl (j := ((60 * j) + a) + (2 * z_)) rfl (by omega) (by decide) dX7_added_110 ?_
                    rw [Nat.add_assoc (60 * j) a (2 * z_)]
                    refine crV (As := [.int (cc (60 * j + (a + 2 * z_)))]) (rest := []) ⟨hx, hb, hml, hown, hts⟩ (c_X7_isWire l E m0 0 tr z0 z1 z2 n y0 y1 y2 at_ rwi y3 y4 sl cr gr y5 y6 rc x0 x1 x2 x3 (cc (60 * j + (a + 2 * z_)))) (cwV 1 hts gX7_added_X7_isWire rfl rfl rfl (by decide +kernel) ⟨Nat.le_of_ble_eq_true rfl, Nat.le_of_ble_eq_true rfl⟩) hK hP [0] rfl 0 rfl rfl rfl rfl hl.1 rfl (catLe (Nat.le_of_ble_eq_true rfl)) dX7_added_111 ⟨Nat.zero_le _, Nat.zero_le _⟩ (fun r_24 hr_24 => ?_)
                    subst hr_24
                    refine ifB_ne (P := hasP n (cc (60 * j + (a + 2 * z_)))) (tgt := 119) hx hb dX7_added_114 (by decide) (fun c_25 => ?_) (fun c_25 => ?_)
                    ·
                      refine lv_iinc (v := nI (z_ + 1)) (lv' := [(8, .int (nI (z_ + 1))), (7, .int (nI ((60 * j) + a))), (6, .int (agF (so j) lane (nI a) (2 * (nI m_)) ln)), (0, .ref m0), (1, .int (nI j)), (2, .int lane), (3, .int (nI a)), (4, .int (nI m_)), (5, .int what)]) hx hb dX7_added_119 hl (k := 0) rfl (nI_inc z_) (by decide) rfl (fun ls hl => ?_)
                      refine lv_goto (tgt := 91) hx hb dX7_added_122 (by decide) ?_
                      exact ih91 (z_ + 1) (by omega) (lt_s hvw c_25) (by omega) _ _ hP hD hS ls (lv_sub hl [0, 1, 2, 3, 4, 5, 6, 7, 8] rfl)
                    ·
                      refine lv_iconst (v := (-1)) hx hb dX7_added_117 (by decide) ?_
                      exact hret _ _ _ _ _ () dX7_added_118 hS (by rw [ha, eR]; exact hP) (by rw [spAdded, ha, eR, if_neg (not_not_intro rfl), if_neg (by omega), hixa, hixm, if_pos (fun h => c_25 (h z_ (by omega)))])
              exact L91 _ 0 (by omega) (fun w h => absurd h (Nat.not_lt_zero w)) (Nat.lt_succ_self _) _ _ hP hD hS ls (lv_sub hl [0, 1, 2, 3, 4, 5, 6, 7, 8] rfl)
            ·
              refine lv_bipush (v := (-3)) hx hb dX7_added_77 (by decide) ?_
              exact hret _ _ _ _ _ () dX7_added_79 hS (by rw [ha, eR]; exact hP) (by rw [spAdded, ha, eR, if_neg (not_not_intro rfl), if_pos (by omega)])
          ·
            refine lv_aload_n hx hb dX7_added_63 rfl (lv_at hl 1 rfl) ?_
            refine lv_iload hx hb dX7_added_64 (lv_at hl 0 rfl) ?_
            refine cwVi (As := [.int (agF (so j) lane i (2 * x) ln)]) (rest := []) ⟨hx, hb, hml, hown, hts⟩ (c_X7_fails l E _ m0 0 tr z0 z1 z2 n y0 y1 y2 at_ rwi y3 y4 sl cr gr y5 y6 rc x0 x1 x2 x3 (agF (so j) lane i (2 * x) ln)) (cwV 1 hts gX7_added_X7_fails rfl rfl rfl (by decide +kernel) ⟨Nat.le_of_ble_eq_true rfl, Nat.le_of_ble_eq_true rfl⟩) hK hP hD hS hA [0] (by decide) rfl [m0] (fun _ => rfl) rfl 0 rfl rfl rfl rfl hl.1 rfl (catLe (Nat.le_of_ble_eq_true rfl)) dX7_added_66 ⟨Nat.zero_le _, Nat.zero_le _⟩ (fun r_26 u_27 H locs hwr_26 hP hD hS => ?_)
            have hP : va_P E.1 vwCl [ob m0 7 [.int (agF (so j) lane i (2 * x) ln), .int tr, .ref z0, .ref z1, .ref z2, .int (nI n), .ref y0, .ref y1, .ref y2, .int at_, .int rwi, .ref y3, .ref y4, .int sl, .int cr, .int gr, .ref y5, .ref y6, .int (nI rc), .ref x0, .ref x1, .ref x2, .ref x3], ar E z0 4 so, ar E z1 4 sg, ar E z2 240 cc, ar E y0 6 kd, ar E y1 6 mn, ar E y2 6 pu] H := hP
            have hD : va_D A [ob m0 7 [.int (agF (so j) lane i (2 * x) ln), .int tr, .ref z0, .ref z1, .ref z2, .int (nI n), .ref y0, .ref y1, .ref y2, .int at_, .int rwi, .ref y3, .ref y4, .int sl, .int cr, .int gr, .ref y5, .ref y6, .int (nI rc), .ref x0, .ref x1, .ref x2, .ref x3], ar E z0 4 so, ar E z1 4 sg, ar E z2 240 cc, ar E y0 6 kd, ar E y1 6 mn, ar E y2 6 pu] := hD
            subst hwr_26
            exact hret _ _ _ _ _ () dX7_added_69 hS (by rw [ha, eR, if_neg c_10, flt_ag c_10]; exact hP) (by rw [spAdded, ha, eR, if_neg c_10, if_pos (agF_ne c_10)])
        ·
          refine lv_bipush (v := (-2)) hx hb dX7_added_42 (by decide) ?_
          have eR : rtK (nI j) lane i (2 * x) (if adT x what then 1 else 0) (thM (so j)) (so j) ln = -2 := by rw [rtK, if_neg (not_not_intro c_2), if_pos (Or.inr (if_neg (fun h => c_8 ⟨h.2.2.1, Int32.not_lt.mpr h.2.2.2⟩)))]
          exact hret _ _ _ _ _ () dX7_added_44 hS (by rw [eR]; exact hP) (by rw [spAdded, eR, if_pos (by decide)])
  ·
    refine lv_iconst (v := (-1)) hx hb dX7_added_12 (by decide) ?_
    have eR : rtK sheet lane i (2 * x) (if adT x what then 1 else 0) (thM (so j)) (so j) ln = -1 := by rw [rtK, if_pos c_2]
    exact hret _ _ _ _ _ () dX7_added_13 hS (by rw [eR]; exact hP) (by rw [spAdded, eR, if_pos (by decide)])
