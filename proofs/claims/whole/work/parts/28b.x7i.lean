set_option maxHeartbeats 4000000 in
set_option maxRecDepth 100000 in
theorem c_X7_orderOf (l : Launch) (E : gE) (sz : Nat) (m0 : Nat) (lf : Int32) (tr : Int32) (z0 : Nat) (z1 : Nat) (z2 : Nat) (n : Nat) (y0 : Nat) (y1 : Nat) (y2 : Nat) (at_ : Int32) (rwi : Int32) (y3 : Nat) (y4 : Nat) (sl : Int32) (cr : Int32) (gr : Int32) (y5 : Nat) (y6 : Nat) (rc : Nat) (x0 : Nat) (x1 : Nat) (x2 : Nat) (x3 : Nat) (kd : Nat → Int32) (mn : Nat → Int32) (pu : Nat → Int32) (cc : Nat → Int32) (rw_ : Nat → Int32) (b : Nat) (i : Nat) (nn : Nat) (k : Int32) (hFR : FR n kd mn) (hin : b + i + nn ≤ 240) (hn6 : nn ≤ 6) (hk1 : ¬ k < -1) : Met l yX7_orderOf wsX7_orderOf ({ frames := 6, cells := 0, slots := 0, locals := 137 }) (PW E [.ref m0, .int (nI (b + i)), .int (nI nn), .int k] [ob m0 7 [.int lf, .int tr, .ref z0, .ref z1, .ref z2, .int (nI n), .ref y0, .ref y1, .ref y2, .int at_, .int rwi, .ref y3, .ref y4, .int sl, .int cr, .int gr, .ref y5, .ref y6, .int (nI rc), .ref x0, .ref x1, .ref x2, .ref x3], ar E y0 6 kd, ar E y1 6 mn, ar E y2 6 pu, ar E z2 240 cc, ar E y5 6 rw_] sz) (QWi E (fun r _ => r = orO nn (orC n kd mn pu (fun q => cc (b + (i + q))) nn) k) (fun (u : Nat → Int32) => [ob m0 7 [.int lf, .int tr, .ref z0, .ref z1, .ref z2, .int (nI n), .ref y0, .ref y1, .ref y2, .int at_, .int rwi, .ref y3, .ref y4, .int sl, .int cr, .int gr, .ref y5, .ref y6, .int (nI rc), .ref x0, .ref x1, .ref x2, .ref x3], ar E y0 6 kd, ar E y1 6 mn, ar E y2 6 pu, ar E z2 240 cc, ar E y5 6 u]) (va_A [ob m0 7 [.int lf, .int tr, .ref z0, .ref z1, .ref z2, .int (nI n), .ref y0, .ref y1, .ref y2, .int at_, .int rwi, .ref y3, .ref y4, .int sl, .int cr, .int gr, .ref y5, .ref y6, .int (nI rc), .ref x0, .ref x1, .ref x2, .ref x3], ar E y0 6 kd, ar E y1 6 mn, ar E y2 6 pu, ar E z2 240 cc, ar E y5 6 rw_] sz)) 0 0 (va_A [ob m0 7 [.int lf, .int tr, .ref z0, .ref z1, .ref z2, .int (nI n), .ref y0, .ref y1, .ref y2, .int at_, .int rwi, .ref y3, .ref y4, .int sl, .int cr, .int gr, .ref y5, .ref y6, .int (nI rc), .ref x0, .ref x1, .ref x2, .ref x3], ar E y0 6 kd, ar E y1 6 mn, ar E y2 6 pu, ar E z2 240 cc, ar E y5 6 rw_] sz) := by
  refine mkWi (cc := cX7_orderOf) (maxL := 8) (by decide) rfl (Nat.le_of_ble_eq_true rfl) ?_
  intro p e s m args below meth c QQ A hx hb hml hown hmn hts hK hA hP hD hS hret ls hl
  have hown : s.vm.findClass RX7 = some m.cls := hown
  have hl : lv_has ls 8 [(0, .ref m0), (1, .int (nI (b + i))), (2, .int (nI nn)), (3, .int k)] := hl
  have hinX7 : ∀ w ∈ wsX70, w ∈ wsX7_orderOf := by decide +kernel
  have fl_34 := hts (.fieldLink RX7 34 "GuardAbacusModel" "row" "[I") (by decide +kernel)
  have hn := hFR.1
  have hf := facN_le nn (by omega)
  refine lv_bipush (v := (-9)) hx hb dX7_orderOf_0 (by decide) ?_
  refine lv_istore (lv' := [(4, .int (-9)), (0, .ref m0), (1, .int (nI (b + i))), (2, .int (nI nn)), (3, .int k)]) hx hb dX7_orderOf_2 hl (by decide) rfl (fun ls hl => ?_)
  refine lv_iconst (v := 0) hx hb dX7_orderOf_4 (by decide) ?_
  refine lv_istore (lv' := [(5, .int 0), (4, .int (-9)), (0, .ref m0), (1, .int (nI (b + i))), (2, .int (nI nn)), (3, .int k)]) hx hb dX7_orderOf_5 hl (by decide) rfl (fun ls hl => ?_)
  refine lv_iconst (v := 0) hx hb dX7_orderOf_7 (by decide) ?_
  refine lv_istore (lv' := [(6, .int 0), (5, .int 0), (4, .int (-9)), (0, .ref m0), (1, .int (nI (b + i))), (2, .int (nI nn)), (3, .int k)]) hx hb dX7_orderOf_8 hl (by decide) rfl (fun ls hl => ?_)
  have L10 : ∀ (fuel : Nat) (m_ : Nat) (r_ : Nat → Int32), (m_ ≤ facN nn) → (facN nn - m_) < fuel → ∀ (H : Heap) (locs : List Loc), va_P E.1 vwCl [ob m0 7 [.int lf, .int tr, .ref z0, .ref z1, .ref z2, .int (nI n), .ref y0, .ref y1, .ref y2, .int at_, .int rwi, .ref y3, .ref y4, .int sl, .int cr, .int gr, .ref y5, .ref y6, .int (nI rc), .ref x0, .ref x1, .ref x2, .ref x3], ar E y0 6 kd, ar E y1 6 mn, ar E y2 6 pu, ar E z2 240 cc, ar E y5 6 r_] H → va_D A [ob m0 7 [.int lf, .int tr, .ref z0, .ref z1, .ref z2, .int (nI n), .ref y0, .ref y1, .ref y2, .int at_, .int rwi, .ref y3, .ref y4, .int sl, .int cr, .int gr, .ref y5, .ref y6, .int (nI rc), .ref x0, .ref x1, .ref x2, .ref x3], ar E y0 6 kd, ar E y1 6 mn, ar E y2 6 pu, ar E z2 240 cc, ar E y5 6 r_] → va_S A s.heap H locs → ∀ ls : Array Slot, lv_has ls 8 [(6, .int (nI m_)), (5, .int ((oI (orC n kd mn pu (fun q => cc (b + (i + q))) nn) m_).2)), (4, .int ((oI (orC n kd mn pu (fun q => cc (b + (i + q))) nn) m_).1)), (0, .ref m0), (1, .int (nI (b + i))), (2, .int (nI nn)), (3, .int k)] → W p l e ({ frames := 6, cells := 0, slots := 0, locals := 137 }) s m args below meth c H locs 0 0 QQ (F0 m 10 ls []) := by
    intro fuel
    induction fuel with
    | zero => intro m_ r_ hm hf; exact absurd hf (Nat.not_lt_zero _)
    | succ fuel ih10 =>
      intro m_ r_ hm hf10 H locs hP hD hS ls hl
      refine lv_iload hx hb dX7_orderOf_10 (lv_at hl 0 rfl) ?_
      refine lv_iload_n hx hb dX7_orderOf_12 rfl (lv_at hl 5 rfl) ?_
      refine crS (As := [.int (nI nn)]) (rest := [.int (nI m_)]) ⟨hx, hb, hml, hown, hts⟩ (c_X7_ordersOf l E nn (by first | assumption | omega)) (va_cwS 1 hts gX7_orderOf_X7_ordersOf rfl rfl rfl (by decide +kernel) ⟨Nat.le_of_ble_eq_true rfl, Nat.le_of_ble_eq_true rfl⟩) hK hP [] rfl rfl hl.1 rfl (catLe (Nat.le_of_ble_eq_true rfl)) dX7_orderOf_13 ⟨Nat.zero_le _, Nat.zero_le _⟩ (fun r_1 hr_1 => ?_)
      subst hr_1
      refine icmpN_ge (tgt := 62) (a := m_) (b := facN nn) hx hb rfl rfl (by omega) (by omega) dX7_orderOf_16 (by decide) (fun c_2 => ?_) (fun c_2 => ?_)
      ·
        obtain rfl : facN nn = m_ := by omega
        refine lv_iload_n hx hb dX7_orderOf_62 rfl (lv_at hl 6 rfl) ?_
        refine lv_iconst (v := (-1)) hx hb dX7_orderOf_63 (by decide) ?_
        refine lv_icmp_ne (tgt := 70) hx hb dX7_orderOf_64 (by decide) (fun c_3 => ?_) (fun c_3 => ?_)
        ·
          obtain ⟨b_, hb_, eb⟩ := oI_b (orC n kd mn pu (fun q => cc (b + (i + q))) nn) (facN nn) (by omega)
          rw [eb] at hl
          have hl : lv_has ls 8 [(6, .int (nI (facN nn))), (5, .int ((oI (orC n kd mn pu (fun q => cc (b + (i + q))) nn) (facN nn)).2)), (4, .int (nI b_)), (0, .ref m0), (1, .int (nI (b + i))), (2, .int (nI nn)), (3, .int k)] := hl
          refine lv_aload_n hx hb dX7_orderOf_70 rfl (lv_at hl 3 rfl) ?_
          refine lv_iload hx hb dX7_orderOf_71 (lv_at hl 2 rfl) ?_
          refine lv_iload_n hx hb dX7_orderOf_73 rfl (lv_at hl 5 rfl) ?_
          refine cwVv (As := [.int (nI b_), .int (nI nn)]) (rest := []) ⟨hx, hb, hml, hown, hts⟩ (c_X7_findRow l E _ m0 lf tr z0 z1 z2 n y0 y1 y2 at_ rwi y3 y4 sl cr gr y5 y6 rc x0 x1 x2 x3 r_ b_ nn (by first | assumption | omega) (by first | assumption | omega)) (cwV 2 hts gX7_orderOf_X7_findRow rfl rfl rfl (by decide +kernel) ⟨Nat.le_of_ble_eq_true rfl, Nat.le_of_ble_eq_true rfl⟩) hK hP hD hS hA [0, 5] (by decide) rfl [m0, y5] (fun _ => rfl) rfl 0 rfl rfl rfl rfl hl.1 rfl (catLe (Nat.le_of_ble_eq_true rfl)) dX7_orderOf_74 ⟨Nat.zero_le _, Nat.zero_le _⟩ (fun u_5 H locs hwr_4 hP hD hS => ?_)
          have hP : va_P E.1 vwCl [ob m0 7 [.int lf, .int tr, .ref z0, .ref z1, .ref z2, .int (nI n), .ref y0, .ref y1, .ref y2, .int at_, .int rwi, .ref y3, .ref y4, .int sl, .int cr, .int gr, .ref y5, .ref y6, .int (nI rc), .ref x0, .ref x1, .ref x2, .ref x3], ar E y0 6 kd, ar E y1 6 mn, ar E y2 6 pu, ar E z2 240 cc, ar E y5 6 (fil (unA nn b_) r_ nn)] H := hP
          have hD : va_D A [ob m0 7 [.int lf, .int tr, .ref z0, .ref z1, .ref z2, .int (nI n), .ref y0, .ref y1, .ref y2, .int at_, .int rwi, .ref y3, .ref y4, .int sl, .int cr, .int gr, .ref y5, .ref y6, .int (nI rc), .ref x0, .ref x1, .ref x2, .ref x3], ar E y0 6 kd, ar E y1 6 mn, ar E y2 6 pu, ar E z2 240 cc, ar E y5 6 (fil (unA nn b_) r_ nn)] := hD
          refine lv_iload_n hx hb dX7_orderOf_77 rfl (lv_at hl 6 rfl) ?_
          refine lv_iload_n hx hb dX7_orderOf_78 rfl (lv_at hl 5 rfl) ?_
          refine lv_icmp_ge (tgt := 91) hx hb dX7_orderOf_79 (by decide) (fun c_6 => ?_) (fun c_6 => ?_)
          ·
            have c_6b := Int32.not_lt.mpr c_6
            refine lv_bipush (v := (-9)) hx hb dX7_orderOf_91 (by decide) ?_
            exact hret _ _ _ _ _ (fil (unA nn b_) r_ nn) dX7_orderOf_93 hS hP (by rw [orO, if_neg c_3, if_neg (Int32.not_lt.mpr c_6)])
          ·
            have c_6b := Int32.not_le.mp c_6
            obtain ⟨y, hy, rfl⟩ := k_nat hn6 hk1 c_3 c_6
            refine lv_aload_n hx hb dX7_orderOf_82 rfl (lv_at hl 3 rfl) ?_
            refine va_get (D := E.1) (ci := 7) (v := .ref y5) (C := RX7) (T := TX7) (N := 23) hx hb hts hinX7 hown hK.1 hP 0 rfl rfl 16 (by decide) fl_34 (fun _ h9 => h9) rfl dX7_orderOf_83 ?_
            refine lv_iload_n hx hb dX7_orderOf_86 rfl (lv_at hl 6 rfl) ?_
            refine ild hx hb hK hP 5 rfl (j := y) rfl (by omega) (by decide) dX7_orderOf_87 ?_
            refine lv_goto (tgt := 93) hx hb dX7_orderOf_88 (by decide) ?_
            exact hret _ _ _ _ _ (fil (unA nn b_) r_ nn) dX7_orderOf_93 hS hP (by rw [orO_k hn6 (by omega) eb hy]; exact fil_in hy)
        ·
          refine lv_iload hx hb dX7_orderOf_67 (lv_at hl 1 rfl) ?_
          exact hret _ _ _ _ _ r_ dX7_orderOf_69 hS hP (by rw [orO, if_pos c_3])
      ·
        refine lv_aload_n hx hb dX7_orderOf_19 rfl (lv_at hl 3 rfl) ?_
        refine lv_iload hx hb dX7_orderOf_20 (lv_at hl 0 rfl) ?_
        refine lv_iload_n hx hb dX7_orderOf_22 rfl (lv_at hl 5 rfl) ?_
        refine cwVv (As := [.int (nI m_), .int (nI nn)]) (rest := []) ⟨hx, hb, hml, hown, hts⟩ (c_X7_findRow l E _ m0 lf tr z0 z1 z2 n y0 y1 y2 at_ rwi y3 y4 sl cr gr y5 y6 rc x0 x1 x2 x3 r_ m_ nn (by first | assumption | omega) (by first | assumption | omega)) (cwV 2 hts gX7_orderOf_X7_findRow rfl rfl rfl (by decide +kernel) ⟨Nat.le_of_ble_eq_true rfl, Nat.le_of_ble_eq_true rfl⟩) hK hP hD hS hA [0, 5] (by decide) rfl [m0, y5] (fun _ => rfl) rfl 0 rfl rfl rfl rfl hl.1 rfl (catLe (Nat.le_of_ble_eq_true rfl)) dX7_orderOf_23 ⟨Nat.zero_le _, Nat.zero_le _⟩ (fun u_8 H locs hwr_7 hP hD hS => ?_)
        have hP : va_P E.1 vwCl [ob m0 7 [.int lf, .int tr, .ref z0, .ref z1, .ref z2, .int (nI n), .ref y0, .ref y1, .ref y2, .int at_, .int rwi, .ref y3, .ref y4, .int sl, .int cr, .int gr, .ref y5, .ref y6, .int (nI rc), .ref x0, .ref x1, .ref x2, .ref x3], ar E y0 6 kd, ar E y1 6 mn, ar E y2 6 pu, ar E z2 240 cc, ar E y5 6 (fil (unA nn m_) r_ nn)] H := hP
        have hD : va_D A [ob m0 7 [.int lf, .int tr, .ref z0, .ref z1, .ref z2, .int (nI n), .ref y0, .ref y1, .ref y2, .int at_, .int rwi, .ref y3, .ref y4, .int sl, .int cr, .int gr, .ref y5, .ref y6, .int (nI rc), .ref x0, .ref x1, .ref x2, .ref x3], ar E y0 6 kd, ar E y1 6 mn, ar E y2 6 pu, ar E z2 240 cc, ar E y5 6 (fil (unA nn m_) r_ nn)] := hD
        refine lv_aload_n hx hb dX7_orderOf_26 rfl (lv_at hl 3 rfl) ?_
        refine lv_iload_n hx hb dX7_orderOf_27 rfl (lv_at hl 4 rfl) ?_
        refine lv_iload_n hx hb dX7_orderOf_28 rfl (lv_at hl 5 rfl) ?_
        refine crV (As := [.int (nI (b + i)), .int (nI nn)]) (rest := []) ⟨hx, hb, hml, hown, hts⟩ (c_X7_slidByRow l E m0 lf tr z0 z1 z2 n y0 y1 y2 at_ rwi y3 y4 sl cr gr y5 y6 rc x0 x1 x2 x3 kd mn pu cc (fil (unA nn m_) r_ nn) b i nn (by first | assumption | omega) (by first | assumption | omega) (by first | assumption | omega) (fun q hq => ⟨unR nn m_ q, (un_ok hn6 (by omega) hq).2.2.2.2.2, (fil_in hq).trans rfl⟩)) (cwV 2 hts gX7_orderOf_X7_slidByRow rfl rfl rfl (by decide +kernel) ⟨Nat.le_of_ble_eq_true rfl, Nat.le_of_ble_eq_true rfl⟩) hK hP [0, 1, 2, 3, 4, 5] rfl 0 rfl rfl rfl rfl hl.1 rfl (catLe (Nat.le_of_ble_eq_true rfl)) dX7_orderOf_29 ⟨Nat.zero_le _, Nat.zero_le _⟩ (fun r_9 hr_9 => ?_)
        subst hr_9
        rw [show (slR (rmF kd mn) (woF kd mn) n (fun q => cc (b + (i + q))) (fil (unA nn m_) r_ nn) (numF pu (woF kd mn) n) nn).2 = (orC n kd mn pu (fun q => cc (b + (i + q))) nn) m_ from congrArg Prod.snd (slR_congr (fun q hq => fil_in hq))]
        refine lv_istore (lv' := [(7, .int ((orC n kd mn pu (fun q => cc (b + (i + q))) nn) m_)), (6, .int (nI m_)), (5, .int ((oI (orC n kd mn pu (fun q => cc (b + (i + q))) nn) m_).2)), (4, .int ((oI (orC n kd mn pu (fun q => cc (b + (i + q))) nn) m_).1)), (0, .ref m0), (1, .int (nI (b + i))), (2, .int (nI nn)), (3, .int k)]) hx hb dX7_orderOf_32 hl (by decide) rfl (fun ls hl => ?_)
        refine lv_iload hx hb dX7_orderOf_34 (lv_at hl 3 rfl) ?_
        refine lv_bipush (v := (-9)) hx hb dX7_orderOf_36 (by decide) ?_
        refine lv_icmp_eq (tgt := 48) hx hb dX7_orderOf_38 (by decide) (fun c_10 => ?_) (fun c_10 => ?_)
        ·
          refine lv_iload hx hb dX7_orderOf_48 (lv_at hl 1 rfl) ?_
          refine lv_istore (lv' := [(4, .int (nI m_)), (7, .int ((orC n kd mn pu (fun q => cc (b + (i + q))) nn) m_)), (6, .int (nI m_)), (5, .int ((oI (orC n kd mn pu (fun q => cc (b + (i + q))) nn) m_).2)), (0, .ref m0), (1, .int (nI (b + i))), (2, .int (nI nn)), (3, .int k)]) hx hb dX7_orderOf_50 hl (by decide) rfl (fun ls hl => ?_)
          refine lv_iload hx hb dX7_orderOf_52 (lv_at hl 1 rfl) ?_
          refine lv_istore (lv' := [(5, .int ((orC n kd mn pu (fun q => cc (b + (i + q))) nn) m_)), (4, .int (nI m_)), (7, .int ((orC n kd mn pu (fun q => cc (b + (i + q))) nn) m_)), (6, .int (nI m_)), (0, .ref m0), (1, .int (nI (b + i))), (2, .int (nI nn)), (3, .int k)]) hx hb dX7_orderOf_54 hl (by decide) rfl (fun ls hl => ?_)
          refine lv_iinc (v := nI (m_ + 1)) (lv' := [(6, .int (nI (m_ + 1))), (5, .int ((orC n kd mn pu (fun q => cc (b + (i + q))) nn) m_)), (4, .int (nI m_)), (7, .int ((orC n kd mn pu (fun q => cc (b + (i + q))) nn) m_)), (0, .ref m0), (1, .int (nI (b + i))), (2, .int (nI nn)), (3, .int k)]) hx hb dX7_orderOf_56 hl (k := 3) rfl (nI_inc m_) (by decide) rfl (fun ls hl => ?_)
          refine lv_goto (tgt := 10) hx hb dX7_orderOf_59 (by decide) ?_
          have eO : oI (orC n kd mn pu (fun q => cc (b + (i + q))) nn) (m_ + 1) = (nI m_, (orC n kd mn pu (fun q => cc (b + (i + q))) nn) m_) := if_pos (Or.inl c_10)
          have hl : lv_has ls 8 [(6, .int (nI (m_ + 1))), (5, .int ((oI (orC n kd mn pu (fun q => cc (b + (i + q))) nn) (m_ + 1)).2)), (4, .int ((oI (orC n kd mn pu (fun q => cc (b + (i + q))) nn) (m_ + 1)).1)), (0, .ref m0), (1, .int (nI (b + i))), (2, .int (nI nn)), (3, .int k)] := by rw [eO]; exact lv_sub hl [0, 1, 2, 4, 5, 6, 7] rfl
          exact ih10 (m_ + 1) (fil (unA nn m_) r_ nn) (by omega) (by omega) _ _ hP hD hS ls (lv_sub hl [0, 1, 2, 3, 4, 5, 6] rfl)
        ·
          refine lv_iload hx hb dX7_orderOf_41 (lv_at hl 0 rfl) ?_
          refine lv_iload hx hb dX7_orderOf_43 (lv_at hl 2 rfl) ?_
          refine lv_icmp_ge (tgt := 56) hx hb dX7_orderOf_45 (by decide) (fun c_11 => ?_) (fun c_11 => ?_)
          ·
            have c_11b := Int32.not_lt.mpr c_11
            refine lv_iinc (v := nI (m_ + 1)) (lv' := [(6, .int (nI (m_ + 1))), (7, .int ((orC n kd mn pu (fun q => cc (b + (i + q))) nn) m_)), (5, .int ((oI (orC n kd mn pu (fun q => cc (b + (i + q))) nn) m_).2)), (4, .int ((oI (orC n kd mn pu (fun q => cc (b + (i + q))) nn) m_).1)), (0, .ref m0), (1, .int (nI (b + i))), (2, .int (nI nn)), (3, .int k)]) hx hb dX7_orderOf_56 hl (k := 1) rfl (nI_inc m_) (by decide) rfl (fun ls hl => ?_)
            refine lv_goto (tgt := 10) hx hb dX7_orderOf_59 (by decide) ?_
            have eO : oI (orC n kd mn pu (fun q => cc (b + (i + q))) nn) (m_ + 1) = oI (orC n kd mn pu (fun q => cc (b + (i + q))) nn) m_ := if_neg (fun h => h.elim c_10 (fun z => c_11b z))
            have hl : lv_has ls 8 [(6, .int (nI (m_ + 1))), (5, .int ((oI (orC n kd mn pu (fun q => cc (b + (i + q))) nn) (m_ + 1)).2)), (4, .int ((oI (orC n kd mn pu (fun q => cc (b + (i + q))) nn) (m_ + 1)).1)), (0, .ref m0), (1, .int (nI (b + i))), (2, .int (nI nn)), (3, .int k)] := by rw [eO]; exact lv_sub hl [0, 2, 3, 4, 5, 6, 7] rfl
            exact ih10 (m_ + 1) (fil (unA nn m_) r_ nn) (by omega) (by omega) _ _ hP hD hS ls (lv_sub hl [0, 1, 2, 3, 4, 5, 6] rfl)
          ·
            have c_11b := Int32.not_le.mp c_11
            refine lv_iload hx hb dX7_orderOf_48 (lv_at hl 1 rfl) ?_
            refine lv_istore (lv' := [(4, .int (nI m_)), (7, .int ((orC n kd mn pu (fun q => cc (b + (i + q))) nn) m_)), (6, .int (nI m_)), (5, .int ((oI (orC n kd mn pu (fun q => cc (b + (i + q))) nn) m_).2)), (0, .ref m0), (1, .int (nI (b + i))), (2, .int (nI nn)), (3, .int k)]) hx hb dX7_orderOf_50 hl (by decide) rfl (fun ls hl => ?_)
            refine lv_iload hx hb dX7_orderOf_52 (lv_at hl 1 rfl) ?_
            refine lv_istore (lv' := [(5, .int ((orC n kd mn pu (fun q => cc (b + (i + q))) nn) m_)), (4, .int (nI m_)), (7, .int ((orC n kd mn pu (fun q => cc (b + (i + q))) nn) m_)), (6, .int (nI m_)), (0, .ref m0), (1, .int (nI (b + i))), (2, .int (nI nn)), (3, .int k)]) hx hb dX7_orderOf_54 hl (by decide) rfl (fun ls hl => ?_)
            refine lv_iinc (v := nI (m_ + 1)) (lv' := [(6, .int (nI (m_ + 1))), (5, .int ((orC n kd mn pu (fun q => cc (b + (i + q))) nn) m_)), (4, .int (nI m_)), (7, .int ((orC n kd mn pu (fun q => cc (b + (i + q))) nn) m_)), (0, .ref m0), (1, .int (nI (b + i))), (2, .int (nI nn)), (3, .int k)]) hx hb dX7_orderOf_56 hl (k := 3) rfl (nI_inc m_) (by decide) rfl (fun ls hl => ?_)
            refine lv_goto (tgt := 10) hx hb dX7_orderOf_59 (by decide) ?_
            have eO : oI (orC n kd mn pu (fun q => cc (b + (i + q))) nn) (m_ + 1) = (nI m_, (orC n kd mn pu (fun q => cc (b + (i + q))) nn) m_) := if_pos (Or.inr c_11b)
            have hl : lv_has ls 8 [(6, .int (nI (m_ + 1))), (5, .int ((oI (orC n kd mn pu (fun q => cc (b + (i + q))) nn) (m_ + 1)).2)), (4, .int ((oI (orC n kd mn pu (fun q => cc (b + (i + q))) nn) (m_ + 1)).1)), (0, .ref m0), (1, .int (nI (b + i))), (2, .int (nI nn)), (3, .int k)] := by rw [eO]; exact lv_sub hl [0, 1, 2, 4, 5, 6, 7] rfl
            exact ih10 (m_ + 1) (fil (unA nn m_) r_ nn) (by omega) (by omega) _ _ hP hD hS ls (lv_sub hl [0, 1, 2, 3, 4, 5, 6] rfl)
  exact L10 _ 0 rw_ (by omega) (Nat.lt_succ_self _) _ _ hP hD hS ls (lv_sub hl [0, 1, 2, 3, 4, 5, 6] rfl)
set_option maxHeartbeats 4000000 in
set_option maxRecDepth 100000 in
theorem c_X7_order (l : Launch) (E : gE) (sz : Nat) (m0 : Nat) (lf : Int32) (tr : Int32) (z0 : Nat) (z1 : Nat) (z2 : Nat) (n : Nat) (y0 : Nat) (y1 : Nat) (y2 : Nat) (at_ : Int32) (rwi : Int32) (y3 : Nat) (y4 : Nat) (sl : Int32) (cr : Int32) (gr : Int32) (y5 : Nat) (y6 : Nat) (rc : Nat) (x0 : Nat) (x1 : Nat) (x2 : Nat) (x3 : Nat) (so : Nat → Int32) (sg : Nat → Int32) (cc : Nat → Int32) (kd : Nat → Int32) (mn : Nat → Int32) (pu : Nat → Int32) (rw_ : Nat → Int32) (ln : Nat) (j : Nat) (sheet : Int32) (lane : Int32) (i : Int32) (x : Int32) (k : Int32) (hj4 : j < 4) (hjs : shP sheet → sheet = nI j) (hsg : sg j = nI ln) (h60 : ln ≤ 60) (hFR : FR n kd mn) : Met l yX7_order wsX7_order ({ frames := 7, cells := 0, slots := 0, locals := 164 }) (PW E [.ref m0, .int sheet, .int lane, .int i, .int x, .int k] [ob m0 7 [.int lf, .int tr, .ref z0, .ref z1, .ref z2, .int (nI n), .ref y0, .ref y1, .ref y2, .int at_, .int rwi, .ref y3, .ref y4, .int sl, .int cr, .int gr, .ref y5, .ref y6, .int (nI rc), .ref x0, .ref x1, .ref x2, .ref x3], ar E z0 4 so, ar E z1 4 sg, ar E z2 240 cc, ar E y0 6 kd, ar E y1 6 mn, ar E y2 6 pu, ar E y5 6 rw_] sz) (QWi E (fun r _ => r = orM sheet lane i x k (thM (so j)) (so j) ln (fun q => cc (60 * j + q)) n kd mn pu) (fun (u : Nat → Int32) => [ob m0 7 [.int (fltF (rtK sheet lane i x (if orT x k then 1 else 0) (thM (so j)) (so j) ln)), .int tr, .ref z0, .ref z1, .ref z2, .int (nI n), .ref y0, .ref y1, .ref y2, .int at_, .int rwi, .ref y3, .ref y4, .int sl, .int cr, .int gr, .ref y5, .ref y6, .int (nI rc), .ref x0, .ref x1, .ref x2, .ref x3], ar E z0 4 so, ar E z1 4 sg, ar E z2 240 cc, ar E y0 6 kd, ar E y1 6 mn, ar E y2 6 pu, ar E y5 6 u]) (va_A [ob m0 7 [.int lf, .int tr, .ref z0, .ref z1, .ref z2, .int (nI n), .ref y0, .ref y1, .ref y2, .int at_, .int rwi, .ref y3, .ref y4, .int sl, .int cr, .int gr, .ref y5, .ref y6, .int (nI rc), .ref x0, .ref x1, .ref x2, .ref x3], ar E z0 4 so, ar E z1 4 sg, ar E z2 240 cc, ar E y0 6 kd, ar E y1 6 mn, ar E y2 6 pu, ar E y5 6 rw_] sz)) 0 0 (va_A [ob m0 7 [.int lf, .int tr, .ref z0, .ref z1, .ref z2, .int (nI n), .ref y0, .ref y1, .ref y2, .int at_, .int rwi, .ref y3, .ref y4, .int sl, .int cr, .int gr, .ref y5, .ref y6, .int (nI rc), .ref x0, .ref x1, .ref x2, .ref x3], ar E z0 4 so, ar E z1 4 sg, ar E z2 240 cc, ar E y0 6 kd, ar E y1 6 mn, ar E y2 6 pu, ar E y5 6 rw_] sz) := by
  refine mkWi (cc := cX7_order) (maxL := 10) (by decide) rfl (Nat.le_of_ble_eq_true rfl) ?_
  intro p e s m args below meth c QQ A hx hb hml hown hmn hts hK hA hP hD hS hret ls hl
  have hown : s.vm.findClass RX7 = some m.cls := hown
  have hl : lv_has ls 10 [(0, .ref m0), (1, .int sheet), (2, .int lane), (3, .int i), (4, .int x), (5, .int k)] := hl
  have hinX7 : ∀ w ∈ wsX70, w ∈ wsX7_order := by decide +kernel
  have fl_16 := hts (.fieldLink RX7 16 "GuardAbacusModel" "cells" "[I") (by decide +kernel)
  have fl_52 := hts (.fieldLink RX7 52 "GuardAbacusModel" "fault" "I") (by decide +kernel)
  have fl_62 := hts (.fieldLink RX7 62 "GuardAbacusModel" "wires" "I") (by decide +kernel)
  have hn := hFR.1
  refine lv_aload_n hx hb dX7_order_0 rfl (lv_at hl 0 rfl) ?_
  refine lv_iconst (v := 0) hx hb dX7_order_1 (by decide) ?_
  refine va_put (D := E.1) (ci := 7) (v := .int 0) (ty := .int) (C := RX7) (T := TX7) (N := 23) hx hb hts hinX7 tyX7 tyX7_ok nmX7 hown hK.1 hP hD hS 0 rfl rfl 0 (by decide) fl_52 (fun _ h9 => h9) rfl (by decide +kernel) rfl rfl (Nat.le_of_ble_eq_true rfl) dX7_order_2 (fun H locs hP hD hS => ?_)
  have hP : va_P E.1 vwCl [ob m0 7 [.int 0, .int tr, .ref z0, .ref z1, .ref z2, .int (nI n), .ref y0, .ref y1, .ref y2, .int at_, .int rwi, .ref y3, .ref y4, .int sl, .int cr, .int gr, .ref y5, .ref y6, .int (nI rc), .ref x0, .ref x1, .ref x2, .ref x3], ar E z0 4 so, ar E z1 4 sg, ar E z2 240 cc, ar E y0 6 kd, ar E y1 6 mn, ar E y2 6 pu, ar E y5 6 rw_] H := hP
  have hD : va_D A [ob m0 7 [.int 0, .int tr, .ref z0, .ref z1, .ref z2, .int (nI n), .ref y0, .ref y1, .ref y2, .int at_, .int rwi, .ref y3, .ref y4, .int sl, .int cr, .int gr, .ref y5, .ref y6, .int (nI rc), .ref x0, .ref x1, .ref x2, .ref x3], ar E z0 4 so, ar E z1 4 sg, ar E z2 240 cc, ar E y0 6 kd, ar E y1 6 mn, ar E y2 6 pu, ar E y5 6 rw_] := hD
  refine lv_iload_n hx hb dX7_order_5 rfl (lv_at hl 1 rfl) ?_
  refine crS (As := [.int sheet]) (rest := []) ⟨hx, hb, hml, hown, hts⟩ (c_X7_isSheet l E sheet) (va_cwS 1 hts gX7_order_X7_isSheet rfl rfl rfl (by decide +kernel) ⟨Nat.le_of_ble_eq_true rfl, Nat.le_of_ble_eq_true rfl⟩) hK hP [] rfl rfl hl.1 rfl (catLe (Nat.le_of_ble_eq_true rfl)) dX7_order_6 ⟨Nat.zero_le _, Nat.zero_le _⟩ (fun r_1 hr_1 => ?_)
  subst hr_1
  refine ifB_ne (P := shP sheet) (tgt := 14) hx hb dX7_order_9 (by decide) (fun c_2 => ?_) (fun c_2 => ?_)
  ·
    have hsh := hjs c_2
    subst hsh
    refine lv_iload_n hx hb dX7_order_14 rfl (lv_at hl 2 rfl) ?_
    refine crS (As := [.int lane]) (rest := []) ⟨hx, hb, hml, hown, hts⟩ (c_X7_isSort l E lane) (va_cwS 1 hts gX7_order_X7_isSort rfl rfl rfl (by decide +kernel) ⟨Nat.le_of_ble_eq_true rfl, Nat.le_of_ble_eq_true rfl⟩) hK hP [] rfl rfl hl.1 rfl (catLe (Nat.le_of_ble_eq_true rfl)) dX7_order_15 ⟨Nat.zero_le _, Nat.zero_le _⟩ (fun r_3 hr_3 => ?_)
    subst hr_3
    refine ifB_eq (P := laP lane) (tgt := 42) hx hb dX7_order_18 (by decide) (fun c_4 => ?_) (fun c_4 => ?_)
    ·
      refine lv_bipush (v := (-2)) hx hb dX7_order_42 (by decide) ?_
      have eR : rtK (nI j) lane i x (if orT x k then 1 else 0) (thM (so j)) (so j) ln = -2 := by rw [rtK, if_neg (not_not_intro c_2), if_pos (Or.inl c_4)]
      exact hret _ _ _ _ _ rw_ dX7_order_44 hS (by rw [eR]; exact hP) (by rw [orM, eR, if_pos (by decide)])
    ·
      refine lv_iload hx hb dX7_order_21 (lv_at hl 4 rfl) ?_
      refine lv_iconst (v := 0) hx hb dX7_order_23 (by decide) ?_
      refine lv_bipush (v := 6) hx hb dX7_order_24 (by decide) ?_
      refine crS (As := [.int x, .int 0, .int 6]) (rest := []) ⟨hx, hb, hml, hown, hts⟩ (c_X7_within l E x 0 6) (va_cwS 3 hts gX7_order_X7_within rfl rfl rfl (by decide +kernel) ⟨Nat.le_of_ble_eq_true rfl, Nat.le_of_ble_eq_true rfl⟩) hK hP [] rfl rfl hl.1 rfl (catLe (Nat.le_of_ble_eq_true rfl)) dX7_order_26 ⟨Nat.zero_le _, Nat.zero_le _⟩ (fun r_5 hr_5 => ?_)
      subst hr_5
      refine ifB_eq (P := wiP x 0 6) (tgt := 42) hx hb dX7_order_29 (by decide) (fun c_6 => ?_) (fun c_6 => ?_)
      ·
        refine lv_bipush (v := (-2)) hx hb dX7_order_42 (by decide) ?_
        have eR : rtK (nI j) lane i x (if orT x k then 1 else 0) (thM (so j)) (so j) ln = -2 := by rw [rtK, if_neg (not_not_intro c_2), if_pos (Or.inr (if_neg (fun h => c_6 ⟨h.1, Int32.not_lt.mpr h.2.1⟩)))]
        exact hret _ _ _ _ _ rw_ dX7_order_44 hS (by rw [eR]; exact hP) (by rw [orM, eR, if_pos (by decide)])
      ·
        refine lv_iload hx hb dX7_order_32 (lv_at hl 5 rfl) ?_
        refine lv_iconst (v := (-1)) hx hb dX7_order_34 (by decide) ?_
        refine lv_iconst (v := 5) hx hb dX7_order_35 (by decide) ?_
        refine crS (As := [.int k, .int (-1), .int 5]) (rest := []) ⟨hx, hb, hml, hown, hts⟩ (c_X7_within l E k (-1) 5) (va_cwS 3 hts gX7_order_X7_within rfl rfl rfl (by decide +kernel) ⟨Nat.le_of_ble_eq_true rfl, Nat.le_of_ble_eq_true rfl⟩) hK hP [] rfl rfl hl.1 rfl (catLe (Nat.le_of_ble_eq_true rfl)) dX7_order_36 ⟨Nat.zero_le _, Nat.zero_le _⟩ (fun r_7 hr_7 => ?_)
        subst hr_7
        refine ifB_ne (P := wiP k (-1) 5) (tgt := 45) hx hb dX7_order_39 (by decide) (fun c_8 => ?_) (fun c_8 => ?_)
        ·
          have ha : (if orT x k then (1 : Int32) else 0) = 1 := if_pos ⟨c_6.1, Int32.not_lt.mp c_6.2, c_8.1, Int32.not_le.mp (fun z => c_8.2 ((lt_succ_I (k := k) (a := 5) (b := 6) (by decide)).mpr z))⟩
          have eR := ag_rt (sheet := nI j) (i := i) (cells := x) (so := so j) (ln := ln) c_2 c_4
          refine lv_aload_n hx hb dX7_order_45 rfl (lv_at hl 0 rfl) ?_
          refine lv_iload_n hx hb dX7_order_46 rfl (lv_at hl 1 rfl) ?_
          refine lv_iload_n hx hb dX7_order_47 rfl (lv_at hl 2 rfl) ?_
          refine lv_iload_n hx hb dX7_order_48 rfl (lv_at hl 3 rfl) ?_
          refine lv_iload hx hb dX7_order_49 (lv_at hl 4 rfl) ?_
          refine crV (As := [.int (nI j), .int lane, .int i, .int x]) (rest := []) ⟨hx, hb, hml, hown, hts⟩ (c_X7_against l E m0 0 tr z0 z1 z2 n y0 y1 y2 at_ rwi y3 y4 sl cr gr y5 y6 rc x0 x1 x2 x3 so sg j ln lane i x (by first | assumption | omega) (by first | assumption | omega)) (cwV 4 hts gX7_order_X7_against rfl rfl rfl (by decide +kernel) ⟨Nat.le_of_ble_eq_true rfl, Nat.le_of_ble_eq_true rfl⟩) hK hP [0, 1, 2] rfl 0 rfl rfl rfl rfl hl.1 rfl (catLe (Nat.le_of_ble_eq_true rfl)) dX7_order_51 ⟨Nat.zero_le _, Nat.zero_le _⟩ (fun r_9 hr_9 => ?_)
          subst hr_9
          refine lv_istore (lv' := [(6, .int (agF (so j) lane i x ln)), (0, .ref m0), (1, .int (nI j)), (2, .int lane), (3, .int i), (4, .int x), (5, .int k)]) hx hb dX7_order_54 hl (by decide) rfl (fun ls hl => ?_)
          refine lv_iload hx hb dX7_order_56 (lv_at hl 0 rfl) ?_
          refine lv_if_eq (tgt := 68) hx hb dX7_order_58 (by decide) (fun c_10 => ?_) (fun c_10 => ?_)
          ·
            rw [if_pos c_10] at eR
            have hz := rtK_0 eR
            obtain ⟨m_, hm, rfl⟩ := le_nat (n := 6) (M := 6) rfl c_6.1 (Int32.not_lt.mp c_6.2)
            obtain ⟨a, rfl, hab⟩ := reach2 hz.2.2.2.2.2 h60 (by omega)
            have hixa : ix (nI a) = a := ix_nI (by omega)
            have hixm : ix (nI m_) = m_ := ix_nI (by omega)
            refine lv_aload_n hx hb dX7_order_68 rfl (lv_at hl 1 rfl) ?_
            refine va_get (D := E.1) (ci := 7) (v := .int (nI n)) (C := RX7) (T := TX7) (N := 23) hx hb hts hinX7 hown hK.1 hP 0 rfl rfl 5 (by decide) fl_62 (fun _ h9 => h9) rfl dX7_order_69 ?_
            refine ifN_ne (tgt := 78) (a := n) hx hb rfl (by omega) dX7_order_72 (by decide) (fun c_11 => ?_) (fun c_11 => ?_)
            ·
              refine lv_bipush (v := 60) hx hb dX7_order_78 (by decide) ?_
              refine lv_iload_n hx hb dX7_order_80 rfl (lv_at hl 2 rfl) ?_
              refine N_imul (a := 60) (b := j) hx hb rfl rfl dX7_order_81 ?_
              refine lv_iload_n hx hb dX7_order_82 rfl (lv_at hl 4 rfl) ?_
              refine N_iadd (a := 60 * j) (b := a) hx hb rfl rfl dX7_order_83 ?_
              refine lv_istore (lv' := [(7, .int (nI ((60 * j) + a))), (6, .int (agF (so j) lane (nI a) (nI m_) ln)), (0, .ref m0), (1, .int (nI j)), (2, .int lane), (3, .int (nI a)), (4, .int (nI m_)), (5, .int k)]) hx hb dX7_order_84 hl (by decide) rfl (fun ls hl => ?_)
              refine lv_iconst (v := 0) hx hb dX7_order_86 (by decide) ?_
              refine lv_istore (lv' := [(8, .int 0), (7, .int (nI ((60 * j) + a))), (6, .int (agF (so j) lane (nI a) (nI m_) ln)), (0, .ref m0), (1, .int (nI j)), (2, .int lane), (3, .int (nI a)), (4, .int (nI m_)), (5, .int k)]) hx hb dX7_order_87 hl (by decide) rfl (fun ls hl => ?_)
              refine lv_iconst (v := 0) hx hb dX7_order_89 (by decide) ?_
              refine lv_istore (lv' := [(9, .int 0), (8, .int 0), (7, .int (nI ((60 * j) + a))), (6, .int (agF (so j) lane (nI a) (nI m_) ln)), (0, .ref m0), (1, .int (nI j)), (2, .int lane), (3, .int (nI a)), (4, .int (nI m_)), (5, .int k)]) hx hb dX7_order_90 hl (by decide) rfl (fun ls hl => ?_)
              have L92 : ∀ (fuel : Nat) (z_ : Nat), (z_ ≤ m_) → (∀ q, q < z_ → ¬ cc (60 * j + (a + q)) < 0 ∧ cc (60 * j + (a + q)) ≤ 99999) → (m_ - z_) < fuel → ∀ (H : Heap) (locs : List Loc), va_P E.1 vwCl [ob m0 7 [.int 0, .int tr, .ref z0, .ref z1, .ref z2, .int (nI n), .ref y0, .ref y1, .ref y2, .int at_, .int rwi, .ref y3, .ref y4, .int sl, .int cr, .int gr, .ref y5, .ref y6, .int (nI rc), .ref x0, .ref x1, .ref x2, .ref x3], ar E z0 4 so, ar E z1 4 sg, ar E z2 240 cc, ar E y0 6 kd, ar E y1 6 mn, ar E y2 6 pu, ar E y5 6 rw_] H → va_D A [ob m0 7 [.int 0, .int tr, .ref z0, .ref z1, .ref z2, .int (nI n), .ref y0, .ref y1, .ref y2, .int at_, .int rwi, .ref y3, .ref y4, .int sl, .int cr, .int gr, .ref y5, .ref y6, .int (nI rc), .ref x0, .ref x1, .ref x2, .ref x3], ar E z0 4 so, ar E z1 4 sg, ar E z2 240 cc, ar E y0 6 kd, ar E y1 6 mn, ar E y2 6 pu, ar E y5 6 rw_] → va_S A s.heap H locs → ∀ ls : Array Slot, lv_has ls 10 [(9, .int (nI z_)), (8, .int (sumF (fun q => cc (60 * j + (a + q))) z_)), (7, .int (nI ((60 * j) + a))), (6, .int (agF (so j) lane (nI a) (nI m_) ln)), (0, .ref m0), (1, .int (nI j)), (2, .int lane), (3, .int (nI a)), (4, .int (nI m_)), (5, .int k)] → W p l e ({ frames := 7, cells := 0, slots := 0, locals := 164 }) s m args below meth c H locs 0 0 QQ (F0 m 92 ls []) := by
                intro fuel
                induction fuel with
                | zero => intro z_ hz_ hq hf; exact absurd hf (Nat.not_lt_zero _)
                | succ fuel ih92 =>
                  intro z_ hz_ hq hf92 H locs hP hD hS ls hl
                  refine lv_iload hx hb dX7_order_92 (lv_at hl 0 rfl) ?_
                  refine lv_iload hx hb dX7_order_94 (lv_at hl 8 rfl) ?_
                  refine icmpN_ge (tgt := 142) (a := z_) (b := m_) hx hb rfl rfl (by omega) (by omega) dX7_order_96 (by decide) (fun c_12 => ?_) (fun c_12 => ?_)
                  ·
                    obtain rfl : m_ = z_ := by omega
                    refine lv_aload_n hx hb dX7_order_142 rfl (lv_at hl 4 rfl) ?_
                    refine lv_iload hx hb dX7_order_143 (lv_at hl 1 rfl) ?_
                    refine crV (As := [.int (sumF (fun q => cc (60 * j + (a + q))) m_)]) (rest := []) ⟨hx, hb, hml, hown, hts⟩ (c_X7_canAdd l E m0 0 tr z0 z1 z2 n y0 y1 y2 at_ rwi y3 y4 sl cr gr y5 y6 rc x0 x1 x2 x3 kd mn pu (sumF (fun q => cc (60 * j + (a + q))) m_) (by first | assumption | omega)) (cwV 1 hts gX7_order_X7_canAdd rfl rfl rfl (by decide +kernel) ⟨Nat.le_of_ble_eq_true rfl, Nat.le_of_ble_eq_true rfl⟩) hK hP [0, 4, 5, 6] rfl 0 rfl rfl rfl rfl hl.1 rfl (catLe (Nat.le_of_ble_eq_true rfl)) dX7_order_145 ⟨Nat.zero_le _, Nat.zero_le _⟩ (fun r_13 hr_13 => ?_)
                    subst hr_13
                    refine ifB_eq (P := ¬ woF kd mn n - 1 - (numF pu (woF kd mn) n) < (sumF (fun q => cc (60 * j + (a + q))) m_)) (tgt := 164) hx hb dX7_order_148 (by decide) (fun c_14 => ?_) (fun c_14 => ?_)
                    ·
                      refine lv_bipush (v := (-9)) hx hb dX7_order_164 (by decide) ?_
                      exact hret _ _ _ _ _ rw_ dX7_order_166 hS (by rw [ha, eR]; exact hP) (by rw [orM, ha, eR, if_neg (not_not_intro rfl), if_neg (by omega), hixa, hixm, if_neg (not_not_intro hq), if_pos (fun h => c_14 h.2)])
                    ·
                      refine lv_aload_n hx hb dX7_order_151 rfl (lv_at hl 4 rfl) ?_
                      refine lv_iload hx hb dX7_order_152 (lv_at hl 2 rfl) ?_
                      refine lv_iload hx hb dX7_order_154 (lv_at hl 8 rfl) ?_
                      refine lv_iload hx hb dX7_order_156 (lv_at hl 9 rfl) ?_
                      refine cwVi (As := [.int (nI ((60 * j) + a)), .int (nI m_), .int k]) (rest := []) ⟨hx, hb, hml, hown, hts⟩ (c_X7_orderOf l E _ m0 0 tr z0 z1 z2 n y0 y1 y2 at_ rwi y3 y4 sl cr gr y5 y6 rc x0 x1 x2 x3 kd mn pu cc rw_ (60 * j) a m_ k (by first | assumption | omega) (by omega) (by first | assumption | omega) c_8.1) (cwV 3 hts gX7_order_X7_orderOf rfl rfl rfl (by decide +kernel) ⟨Nat.le_of_ble_eq_true rfl, Nat.le_of_ble_eq_true rfl⟩) hK hP hD hS hA [0, 4, 5, 6, 3, 7] (by decide) rfl [m0, y0, y1, y2, z2, y5] (fun _ => rfl) rfl 0 rfl rfl rfl rfl hl.1 rfl (catLe (Nat.le_of_ble_eq_true rfl)) dX7_order_158 ⟨Nat.zero_le _, Nat.zero_le _⟩ (fun r_15 u_16 H locs hwr_15 hP hD hS => ?_)
                      have hP : va_P E.1 vwCl [ob m0 7 [.int 0, .int tr, .ref z0, .ref z1, .ref z2, .int (nI n), .ref y0, .ref y1, .ref y2, .int at_, .int rwi, .ref y3, .ref y4, .int sl, .int cr, .int gr, .ref y5, .ref y6, .int (nI rc), .ref x0, .ref x1, .ref x2, .ref x3], ar E z0 4 so, ar E z1 4 sg, ar E z2 240 cc, ar E y0 6 kd, ar E y1 6 mn, ar E y2 6 pu, ar E y5 6 u_16] H := hP
                      have hD : va_D A [ob m0 7 [.int 0, .int tr, .ref z0, .ref z1, .ref z2, .int (nI n), .ref y0, .ref y1, .ref y2, .int at_, .int rwi, .ref y3, .ref y4, .int sl, .int cr, .int gr, .ref y5, .ref y6, .int (nI rc), .ref x0, .ref x1, .ref x2, .ref x3], ar E z0 4 so, ar E z1 4 sg, ar E z2 240 cc, ar E y0 6 kd, ar E y1 6 mn, ar E y2 6 pu, ar E y5 6 u_16] := hD
                      subst hwr_15
                      refine lv_goto (tgt := 166) hx hb dX7_order_161 (by decide) ?_
                      exact hret _ _ _ _ _ u_16 dX7_order_166 hS (by rw [ha, eR]; exact hP) (by rw [orM, ha, eR, if_neg (not_not_intro rfl), if_neg (by omega), hixa, hixm, if_neg (not_not_intro hq), if_neg (not_not_intro ⟨by omega, c_14⟩)])
                  ·
                    refine lv_aload_n hx hb dX7_order_99 rfl (lv_at hl 4 rfl) ?_
                    refine va_get (D := E.1) (ci := 7) (v := .ref z2) (C := RX7) (T := TX7) (N := 23) hx hb hts hinX7 hown hK.1 hP 0 rfl rfl 4 (by decide) fl_16 (fun _ h9 => h9) rfl dX7_order_100 ?_
                    refine lv_iload hx hb dX7_order_103 (lv_at hl 2 rfl) ?_
                    refine lv_iload hx hb dX7_order_105 (lv_at hl 0 rfl) ?_
                    refine N_iadd (a := (60 * j) + a) (b := z_) hx hb rfl rfl dX7_order_107 ?_
                    refine ild hx hb hK hP 3 rfl (j := ((60 * j) + a) + z_) rfl (by omega) (by decide) dX7_order_108 ?_
                    rw [Nat.add_assoc (60 * j) a z_]
                    refine lv_iconst (v := 0) hx hb dX7_order_109 (by decide) ?_
                    refine lv_ldc hx hb hown (hts (.constant RX7 157 (99999)) (by decide +kernel)) dX7_order_110 ?_
                    refine crS (As := [.int (cc (60 * j + (a + z_))), .int 0, .int 99999]) (rest := []) ⟨hx, hb, hml, hown, hts⟩ (c_X7_within l E (cc (60 * j + (a + z_))) 0 99999) (va_cwS 3 hts gX7_order_X7_within rfl rfl rfl (by decide +kernel) ⟨Nat.le_of_ble_eq_true rfl, Nat.le_of_ble_eq_true rfl⟩) hK hP [] rfl rfl hl.1 rfl (catLe (Nat.le_of_ble_eq_true rfl)) dX7_order_112 ⟨Nat.zero_le _, Nat.zero_le _⟩ (fun r_17 hr_17 => ?_)
                    subst hr_17
                    refine ifB_ne (P := wiP (cc (60 * j + (a + z_))) 0 99999) (tgt := 121) hx hb dX7_order_115 (by decide) (fun c_18 => ?_) (fun c_18 => ?_)
                    ·
                      refine lv_iload hx hb dX7_order_121 (lv_at hl 1 rfl) ?_
                      refine lv_aload_n hx hb dX7_order_123 rfl (lv_at hl 4 rfl) ?_
                      refine va_get (D := E.1) (ci := 7) (v := .ref z2) (C := RX7) (T := TX7) (N := 23) hx hb hts hinX7 hown hK.1 hP 0 rfl rfl 4 (by decide) fl_16 (fun _ h9 => h9) rfl dX7_order_124 ?_
                      refine lv_iload hx hb dX7_order_127 (lv_at hl 2 rfl) ?_
                      refine lv_iload hx hb dX7_order_129 (lv_at hl 0 rfl) ?_
                      refine N_iadd (a := (60 * j) + a) (b := z_) hx hb rfl rfl dX7_order_131 ?_
                      refine ild hx hb hK hP 3 rfl (j := ((60 * j) + a) + z_) rfl (by omega) (by decide) dX7_order_132 ?_
                      rw [Nat.add_assoc (60 * j) a z_]
                      refine lv_iadd hx hb dX7_order_133 ?_
                      refine lv_istore (lv' := [(8, .int ((sumF (fun q => cc (60 * j + (a + q))) z_) + (cc (60 * j + (a + z_))))), (9, .int (nI z_)), (7, .int (nI ((60 * j) + a))), (6, .int (agF (so j) lane (nI a) (nI m_) ln)), (0, .ref m0), (1, .int (nI j)), (2, .int lane), (3, .int (nI a)), (4, .int (nI m_)), (5, .int k)]) hx hb dX7_order_134 hl (by decide) rfl (fun ls hl => ?_)
                      refine lv_iinc (v := nI (z_ + 1)) (lv' := [(9, .int (nI (z_ + 1))), (8, .int ((sumF (fun q => cc (60 * j + (a + q))) z_) + (cc (60 * j + (a + z_))))), (7, .int (nI ((60 * j) + a))), (6, .int (agF (so j) lane (nI a) (nI m_) ln)), (0, .ref m0), (1, .int (nI j)), (2, .int lane), (3, .int (nI a)), (4, .int (nI m_)), (5, .int k)]) hx hb dX7_order_136 hl (k := 1) rfl (nI_inc z_) (by decide) rfl (fun ls hl => ?_)
                      refine lv_goto (tgt := 92) hx hb dX7_order_139 (by decide) ?_
                      exact ih92 (z_ + 1) (by omega) (lt_s hq ⟨c_18.1, Int32.not_lt.mp c_18.2⟩) (by omega) _ _ hP hD hS ls (lv_sub hl [0, 1, 2, 3, 4, 5, 6, 7, 8, 9] rfl)
                    ·
                      refine lv_bipush (v := (-2)) hx hb dX7_order_118 (by decide) ?_
                      exact hret _ _ _ _ _ rw_ dX7_order_120 hS (by rw [ha, eR]; exact hP) (by rw [orM, ha, eR, if_neg (not_not_intro rfl), if_neg (by omega), hixa, hixm, if_pos (fun h => c_18 ⟨(h z_ (by omega)).1, Int32.not_lt.mpr (h z_ (by omega)).2⟩)])
              exact L92 _ 0 (by omega) (fun w h => absurd h (Nat.not_lt_zero w)) (Nat.lt_succ_self _) _ _ hP hD hS ls (lv_sub hl [0, 1, 2, 3, 4, 5, 6, 7, 8, 9] rfl)
            ·
              refine lv_bipush (v := (-3)) hx hb dX7_order_75 (by decide) ?_
              exact hret _ _ _ _ _ rw_ dX7_order_77 hS (by rw [ha, eR]; exact hP) (by rw [orM, ha, eR, if_neg (not_not_intro rfl), if_pos (by omega)])
          ·
            refine lv_aload_n hx hb dX7_order_61 rfl (lv_at hl 1 rfl) ?_
            refine lv_iload hx hb dX7_order_62 (lv_at hl 0 rfl) ?_
            refine cwVi (As := [.int (agF (so j) lane i x ln)]) (rest := []) ⟨hx, hb, hml, hown, hts⟩ (c_X7_fails l E _ m0 0 tr z0 z1 z2 n y0 y1 y2 at_ rwi y3 y4 sl cr gr y5 y6 rc x0 x1 x2 x3 (agF (so j) lane i x ln)) (cwV 1 hts gX7_order_X7_fails rfl rfl rfl (by decide +kernel) ⟨Nat.le_of_ble_eq_true rfl, Nat.le_of_ble_eq_true rfl⟩) hK hP hD hS hA [0] (by decide) rfl [m0] (fun _ => rfl) rfl 0 rfl rfl rfl rfl hl.1 rfl (catLe (Nat.le_of_ble_eq_true rfl)) dX7_order_64 ⟨Nat.zero_le _, Nat.zero_le _⟩ (fun r_19 u_20 H locs hwr_19 hP hD hS => ?_)
            have hP : va_P E.1 vwCl [ob m0 7 [.int (agF (so j) lane i x ln), .int tr, .ref z0, .ref z1, .ref z2, .int (nI n), .ref y0, .ref y1, .ref y2, .int at_, .int rwi, .ref y3, .ref y4, .int sl, .int cr, .int gr, .ref y5, .ref y6, .int (nI rc), .ref x0, .ref x1, .ref x2, .ref x3], ar E z0 4 so, ar E z1 4 sg, ar E z2 240 cc, ar E y0 6 kd, ar E y1 6 mn, ar E y2 6 pu, ar E y5 6 rw_] H := hP
            have hD : va_D A [ob m0 7 [.int (agF (so j) lane i x ln), .int tr, .ref z0, .ref z1, .ref z2, .int (nI n), .ref y0, .ref y1, .ref y2, .int at_, .int rwi, .ref y3, .ref y4, .int sl, .int cr, .int gr, .ref y5, .ref y6, .int (nI rc), .ref x0, .ref x1, .ref x2, .ref x3], ar E z0 4 so, ar E z1 4 sg, ar E z2 240 cc, ar E y0 6 kd, ar E y1 6 mn, ar E y2 6 pu, ar E y5 6 rw_] := hD
            subst hwr_19
            exact hret _ _ _ _ _ rw_ dX7_order_67 hS (by rw [ha, eR, if_neg c_10, flt_ag c_10]; exact hP) (by rw [orM, ha, eR, if_neg c_10, if_pos (agF_ne c_10)])
        ·
          refine lv_bipush (v := (-2)) hx hb dX7_order_42 (by decide) ?_
          have eR : rtK (nI j) lane i x (if orT x k then 1 else 0) (thM (so j)) (so j) ln = -2 := by rw [rtK, if_neg (not_not_intro c_2), if_pos (Or.inr (if_neg (fun h => c_8 ⟨h.2.2.1, fun z => absurd h.2.2.2 (Int32.not_lt.mpr ((lt_succ_I (k := k) (a := 5) (b := 6) (by decide)).mp z))⟩)))]
          exact hret _ _ _ _ _ rw_ dX7_order_44 hS (by rw [eR]; exact hP) (by rw [orM, eR, if_pos (by decide)])
  ·
    refine lv_iconst (v := (-1)) hx hb dX7_order_12 (by decide) ?_
    have eR : rtK sheet lane i x (if orT x k then 1 else 0) (thM (so j)) (so j) ln = -1 := by rw [rtK, if_pos c_2]
    exact hret _ _ _ _ _ rw_ dX7_order_13 hS (by rw [eR]; exact hP) (by rw [orM, eR, if_pos (by decide)])
