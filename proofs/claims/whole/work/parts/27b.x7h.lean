set_option maxHeartbeats 4000000 in
set_option maxRecDepth 100000 in
theorem c_X7_ordersOf_m1 (l : Launch) (E : gE)  : Met l yX7_ordersOf wsX7_ordersOf ({ frames := 0, cells := 0, slots := 0, locals := 0 }) (PR E [.int (-1)] []) (vp_Si (fun r => r = 1)) 0 0 (fun _ => False) := by
  refine mkRi (cc := cX7_ordersOf) (maxL := 3) (by decide) rfl (Nat.le_of_ble_eq_true rfl) ?_
  intro p e s m args below meth c QQ hx hb hml hown hmn hts hK hP hret ls hl
  have hown : s.vm.findClass RX7 = some m.cls := hown
  have hl : lv_has ls 3 [(0, .int (-1))] := hl
  refine lv_iconst (v := 1) hx hb dX7_ordersOf_0 (by decide) ?_
  refine lv_istore_n (lv' := [(1, .int 1), (0, .int (-1))]) hx hb dX7_ordersOf_1 rfl hl (by decide) rfl (fun ls hl => ?_)
  refine lv_iconst (v := 2) hx hb dX7_ordersOf_2 (by decide) ?_
  refine lv_istore_n (lv' := [(2, .int 2), (1, .int 1), (0, .int (-1))]) hx hb dX7_ordersOf_3 rfl hl (by decide) rfl (fun ls hl => ?_)
  refine lv_iload_n hx hb dX7_ordersOf_4 rfl (lv_at hl 0 rfl) ?_
  refine lv_iload_n hx hb dX7_ordersOf_5 rfl (lv_at hl 2 rfl) ?_
  refine lv_icmp_gt (tgt := 19) hx hb dX7_ordersOf_6 (by decide) (fun c_1 => ?_) (fun c_1 => ?_)
  ·
    have c_1b := Int32.not_le.mpr c_1
    refine lv_iload_n hx hb dX7_ordersOf_19 rfl (lv_at hl 1 rfl) ?_
    exact hret _ _ _ dX7_ordersOf_20 rfl
  ·
    exact absurd (by decide) c_1
set_option maxHeartbeats 4000000 in
set_option maxRecDepth 100000 in
theorem c_X7_findRow (l : Launch) (E : gE) (sz : Nat) (m0 : Nat) (lf : Int32) (tr : Int32) (z0 : Nat) (z1 : Nat) (z2 : Nat) (n : Nat) (y0 : Nat) (y1 : Nat) (y2 : Nat) (at_ : Int32) (rwi : Int32) (y3 : Nat) (y4 : Nat) (sl : Int32) (cr : Int32) (gr : Int32) (y5 : Nat) (y6 : Nat) (rc : Nat) (x0 : Nat) (x1 : Nat) (x2 : Nat) (x3 : Nat) (rw_ : Nat → Int32) (num : Nat) (nn : Nat) (hn6 : nn ≤ 6) (hnum : num < facN nn) : Met l yX7_findRow wsX7_findRow ({ frames := 1, cells := 0, slots := 0, locals := 22 }) (PW E [.ref m0, .int (nI num), .int (nI nn)] [ob m0 7 [.int lf, .int tr, .ref z0, .ref z1, .ref z2, .int (nI n), .ref y0, .ref y1, .ref y2, .int at_, .int rwi, .ref y3, .ref y4, .int sl, .int cr, .int gr, .ref y5, .ref y6, .int (nI rc), .ref x0, .ref x1, .ref x2, .ref x3], ar E y5 6 rw_] sz) (QWv E (fun _ => True) (fun (_ : Unit) => [ob m0 7 [.int lf, .int tr, .ref z0, .ref z1, .ref z2, .int (nI n), .ref y0, .ref y1, .ref y2, .int at_, .int rwi, .ref y3, .ref y4, .int sl, .int cr, .int gr, .ref y5, .ref y6, .int (nI rc), .ref x0, .ref x1, .ref x2, .ref x3], ar E y5 6 (fil (unA nn num) rw_ nn)]) (va_A [ob m0 7 [.int lf, .int tr, .ref z0, .ref z1, .ref z2, .int (nI n), .ref y0, .ref y1, .ref y2, .int at_, .int rwi, .ref y3, .ref y4, .int sl, .int cr, .int gr, .ref y5, .ref y6, .int (nI rc), .ref x0, .ref x1, .ref x2, .ref x3], ar E y5 6 rw_] sz)) 0 0 (va_A [ob m0 7 [.int lf, .int tr, .ref z0, .ref z1, .ref z2, .int (nI n), .ref y0, .ref y1, .ref y2, .int at_, .int rwi, .ref y3, .ref y4, .int sl, .int cr, .int gr, .ref y5, .ref y6, .int (nI rc), .ref x0, .ref x1, .ref x2, .ref x3], ar E y5 6 rw_] sz) := by
  refine mkWv (cc := cX7_findRow) (maxL := 9) (by decide) rfl (Nat.le_of_ble_eq_true rfl) ?_
  intro p e s m args below meth c QQ A hx hb hml hown hmn hts hK hA hP hD hS hret ls hl
  have hown : s.vm.findClass RX7 = some m.cls := hown
  have hl : lv_has ls 9 [(0, .ref m0), (1, .int (nI num)), (2, .int (nI nn))] := hl
  have hinX7 : ∀ w ∈ wsX70, w ∈ wsX7_findRow := by decide +kernel
  have fl_34 := hts (.fieldLink RX7 34 "GuardAbacusModel" "row" "[I") (by decide +kernel)
  refine lv_iload_n hx hb dX7_findRow_0 rfl (lv_at hl 1 rfl) ?_
  refine lv_istore_n (lv' := [(3, .int (nI num)), (0, .ref m0), (1, .int (nI num)), (2, .int (nI nn))]) hx hb dX7_findRow_1 rfl hl (by decide) rfl (fun ls hl => ?_)
  have hf := facN_le nn (by omega)
  rcases Nat.eq_zero_or_pos nn with hz | hp
  ·
    subst hz
    refine lv_iload_n hx hb dX7_findRow_2 rfl (lv_at hl 3 rfl) ?_
    refine lv_iconst (v := 1) hx hb dX7_findRow_3 (by decide) ?_
    refine lv_isub hx hb dX7_findRow_4 ?_
    rw [show nI 0 - 1 = (-1 : Int32) from by decide]
    refine crS (As := [.int (-1)]) (rest := []) ⟨hx, hb, hml, hown, hts⟩ (c_X7_ordersOf_m1 l E ) (va_cwS 1 hts gX7_findRow_X7_ordersOf rfl rfl rfl (by decide +kernel) ⟨Nat.le_of_ble_eq_true rfl, Nat.le_of_ble_eq_true rfl⟩) hK hP [] rfl rfl hl.1 rfl (catLe (Nat.le_of_ble_eq_true rfl)) dX7_findRow_5 ⟨Nat.zero_le _, Nat.zero_le _⟩ (fun r_1 hr_1 => ?_)
    subst hr_1
    refine lv_istore (lv' := [(4, .int 1), (3, .int (nI num)), (0, .ref m0), (1, .int (nI num)), (2, .int (nI 0))]) hx hb dX7_findRow_8 hl (by decide) rfl (fun ls hl => ?_)
    refine lv_iconst (v := 0) hx hb dX7_findRow_10 (by decide) ?_
    refine lv_istore (lv' := [(5, .int 0), (4, .int 1), (3, .int (nI num)), (0, .ref m0), (1, .int (nI num)), (2, .int (nI 0))]) hx hb dX7_findRow_11 hl (by decide) rfl (fun ls hl => ?_)
    refine lv_iconst (v := 0) hx hb dX7_findRow_13 (by decide) ?_
    refine lv_istore (lv' := [(6, .int 0), (5, .int 0), (4, .int 1), (3, .int (nI num)), (0, .ref m0), (1, .int (nI num)), (2, .int (nI 0))]) hx hb dX7_findRow_14 hl (by decide) rfl (fun ls hl => ?_)
    refine lv_iload hx hb dX7_findRow_16 (lv_at hl 0 rfl) ?_
    refine lv_iload_n hx hb dX7_findRow_18 rfl (lv_at hl 6 rfl) ?_
    refine icmpN_ge (tgt := 128) (a := 0) (b := 0) hx hb rfl rfl (by omega) (by omega) dX7_findRow_19 (by decide) (fun c_2 => ?_) (fun c_2 => ?_)
    ·
      exact hret _ _ _ _ () dX7_findRow_128 hS (by rw [fil_0]; exact hP) trivial
    ·
      exact absurd c_2 (by decide)
  ·
    refine lv_iload_n hx hb dX7_findRow_2 rfl (lv_at hl 3 rfl) ?_
    refine lv_iconst (v := 1) hx hb dX7_findRow_3 (by decide) ?_
    refine N_isub (a := nn) (b := 1) hx hb rfl rfl (by omega) dX7_findRow_4 ?_
    refine crS (As := [.int (nI (nn - 1))]) (rest := []) ⟨hx, hb, hml, hown, hts⟩ (c_X7_ordersOf l E (nn - 1) (by first | assumption | omega)) (va_cwS 1 hts gX7_findRow_X7_ordersOf rfl rfl rfl (by decide +kernel) ⟨Nat.le_of_ble_eq_true rfl, Nat.le_of_ble_eq_true rfl⟩) hK hP [] rfl rfl hl.1 rfl (catLe (Nat.le_of_ble_eq_true rfl)) dX7_findRow_5 ⟨Nat.zero_le _, Nat.zero_le _⟩ (fun r_3 hr_3 => ?_)
    subst hr_3
    refine lv_istore (lv' := [(4, .int (nI (facN (nn - 1)))), (3, .int (nI num)), (0, .ref m0), (1, .int (nI num)), (2, .int (nI nn))]) hx hb dX7_findRow_8 hl (by decide) rfl (fun ls hl => ?_)
    refine lv_iconst (v := 0) hx hb dX7_findRow_10 (by decide) ?_
    refine lv_istore (lv' := [(5, .int 0), (4, .int (nI (facN (nn - 1)))), (3, .int (nI num)), (0, .ref m0), (1, .int (nI num)), (2, .int (nI nn))]) hx hb dX7_findRow_11 hl (by decide) rfl (fun ls hl => ?_)
    refine lv_iconst (v := 0) hx hb dX7_findRow_13 (by decide) ?_
    refine lv_istore (lv' := [(6, .int 0), (5, .int 0), (4, .int (nI (facN (nn - 1)))), (3, .int (nI num)), (0, .ref m0), (1, .int (nI num)), (2, .int (nI nn))]) hx hb dX7_findRow_14 hl (by decide) rfl (fun ls hl => ?_)
    rw [← fil_0 (unA nn num) rw_] at hP hD
    have L16 : ∀ (fuel : Nat) (k : Nat), (k ≤ nn) → (nn - k) < fuel → ∀ (H : Heap) (locs : List Loc), va_P E.1 vwCl [ob m0 7 [.int lf, .int tr, .ref z0, .ref z1, .ref z2, .int (nI n), .ref y0, .ref y1, .ref y2, .int at_, .int rwi, .ref y3, .ref y4, .int sl, .int cr, .int gr, .ref y5, .ref y6, .int (nI rc), .ref x0, .ref x1, .ref x2, .ref x3], ar E y5 6 (fil (unA nn num) rw_ k)] H → va_D A [ob m0 7 [.int lf, .int tr, .ref z0, .ref z1, .ref z2, .int (nI n), .ref y0, .ref y1, .ref y2, .int at_, .int rwi, .ref y3, .ref y4, .int sl, .int cr, .int gr, .ref y5, .ref y6, .int (nI rc), .ref x0, .ref x1, .ref x2, .ref x3], ar E y5 6 (fil (unA nn num) rw_ k)] → va_S A s.heap H locs → ∀ ls : Array Slot, lv_has ls 9 [(6, .int (nI k)), (5, .int (nI ((unS nn num k).2.2))), (4, .int (nI ((unS nn num k).2.1))), (3, .int (nI ((unS nn num k).1))), (0, .ref m0), (1, .int (nI num)), (2, .int (nI nn))] → W p l e ({ frames := 1, cells := 0, slots := 0, locals := 22 }) s m args below meth c H locs 0 0 QQ (F0 m 16 ls []) := by
      intro fuel
      induction fuel with
      | zero => intro k hk hf; exact absurd hf (Nat.not_lt_zero _)
      | succ fuel ih16 =>
        intro k hk hf16 H locs hP hD hS ls hl
        refine lv_iload hx hb dX7_findRow_16 (lv_at hl 0 rfl) ?_
        refine lv_iload_n hx hb dX7_findRow_18 rfl (lv_at hl 6 rfl) ?_
        refine icmpN_ge (tgt := 128) (a := k) (b := nn) hx hb rfl rfl (by omega) (by omega) dX7_findRow_19 (by decide) (fun c_4 => ?_) (fun c_4 => ?_)
        ·
          obtain rfl : nn = k := by omega
          exact hret _ _ _ _ () dX7_findRow_128 hS hP trivial
        ·
          obtain ⟨g1, g2, g3, g4, g5, g6⟩ := un_ok hn6 hnum (show k < nn by omega)
          refine lv_iload_n hx hb dX7_findRow_22 rfl (lv_at hl 3 rfl) ?_
          refine lv_iload hx hb dX7_findRow_23 (lv_at hl 2 rfl) ?_
          refine lv_idiv hx hb dX7_findRow_25 (nI_ne0 (by omega) (by omega)) ?_
          rw [pk_div (by omega) (by omega) (by omega)]
          refine lv_istore (lv' := [(7, .int (nI ((unS nn num k).1 / (unS nn num k).2.1))), (6, .int (nI k)), (5, .int (nI ((unS nn num k).2.2))), (4, .int (nI ((unS nn num k).2.1))), (3, .int (nI ((unS nn num k).1))), (0, .ref m0), (1, .int (nI num)), (2, .int (nI nn))]) hx hb dX7_findRow_26 hl (by decide) rfl (fun ls hl => ?_)
          refine lv_iload_n hx hb dX7_findRow_28 rfl (lv_at hl 4 rfl) ?_
          refine lv_iload hx hb dX7_findRow_29 (lv_at hl 3 rfl) ?_
          refine lv_irem hx hb dX7_findRow_31 (nI_ne0 (by omega) (by omega)) ?_
          rw [pk_rem (by omega) (by omega) (by omega)]
          refine lv_istore_n (lv' := [(3, .int (nI ((unS nn num k).1 % (unS nn num k).2.1))), (7, .int (nI ((unS nn num k).1 / (unS nn num k).2.1))), (6, .int (nI k)), (5, .int (nI ((unS nn num k).2.2))), (4, .int (nI ((unS nn num k).2.1))), (0, .ref m0), (1, .int (nI num)), (2, .int (nI nn))]) hx hb dX7_findRow_32 rfl hl (by decide) rfl (fun ls hl => ?_)
          refine lv_iconst (v := 0) hx hb dX7_findRow_33 (by decide) ?_
          refine lv_istore (lv' := [(8, .int 0), (3, .int (nI ((unS nn num k).1 % (unS nn num k).2.1))), (7, .int (nI ((unS nn num k).1 / (unS nn num k).2.1))), (6, .int (nI k)), (5, .int (nI ((unS nn num k).2.2))), (4, .int (nI ((unS nn num k).2.1))), (0, .ref m0), (1, .int (nI num)), (2, .int (nI nn))]) hx hb dX7_findRow_34 hl (by decide) rfl (fun ls hl => ?_)
          have L36 : ∀ (fuel : Nat) (p_ : Nat) (q : Nat) (f_ : Nat), (q + f_ = 6) → (p_ ≤ 999) → (skN (unS nn num k).2.2 f_ p_ q = some (unR nn num k)) → f_ < fuel → ∀ (H : Heap) (locs : List Loc), va_P E.1 vwCl [ob m0 7 [.int lf, .int tr, .ref z0, .ref z1, .ref z2, .int (nI n), .ref y0, .ref y1, .ref y2, .int at_, .int rwi, .ref y3, .ref y4, .int sl, .int cr, .int gr, .ref y5, .ref y6, .int (nI rc), .ref x0, .ref x1, .ref x2, .ref x3], ar E y5 6 (fil (unA nn num) rw_ k)] H → va_D A [ob m0 7 [.int lf, .int tr, .ref z0, .ref z1, .ref z2, .int (nI n), .ref y0, .ref y1, .ref y2, .int at_, .int rwi, .ref y3, .ref y4, .int sl, .int cr, .int gr, .ref y5, .ref y6, .int (nI rc), .ref x0, .ref x1, .ref x2, .ref x3], ar E y5 6 (fil (unA nn num) rw_ k)] → va_S A s.heap H locs → ∀ ls : Array Slot, lv_has ls 9 [(8, .int (nI q)), (3, .int (nI ((unS nn num k).1 % (unS nn num k).2.1))), (7, .int (nI p_)), (6, .int (nI k)), (5, .int (nI ((unS nn num k).2.2))), (4, .int (nI ((unS nn num k).2.1))), (0, .ref m0), (1, .int (nI num)), (2, .int (nI nn))] → W p l e ({ frames := 1, cells := 0, slots := 0, locals := 22 }) s m args below meth c H locs 0 0 QQ (F0 m 36 ls []) := by
            intro fuel
            induction fuel with
            | zero => intro p_ q f_ hq hp2 hs hf; exact absurd hf (Nat.not_lt_zero _)
            | succ fuel ih36 =>
              intro p_ q f_ hq hp2 hs hf36 H locs hP hD hS ls hl
              obtain ⟨f1, rfl⟩ : ∃ f1, f_ = f1 + 1 := ⟨f_ - 1, by rcases f_ with _ | f_; (rw [skN] at hs; cases hs); rfl⟩
              have hb1 := bit1 (unS nn num k).2.2 g4 q (by omega)
              rw [skN] at hs
              refine lv_iload hx hb dX7_findRow_36 (lv_at hl 4 rfl) ?_
              refine lv_iload hx hb dX7_findRow_38 (lv_at hl 0 rfl) ?_
              refine lv_ishr hx hb dX7_findRow_40 ?_
              refine lv_iconst (v := 1) hx hb dX7_findRow_41 (by decide) ?_
              refine lv_iand hx hb dX7_findRow_42 ?_
              refine lv_iconst (v := 1) hx hb dX7_findRow_43 (by decide) ?_
              refine lv_icmp_eq (tgt := 52) hx hb dX7_findRow_44 (by decide) (fun c_5 => ?_) (fun c_5 => ?_)
              ·
                rw [if_pos (hb1.mp c_5)] at hs
                refine lv_iload hx hb dX7_findRow_52 (lv_at hl 2 rfl) ?_
                refine lv_iload hx hb dX7_findRow_54 (lv_at hl 4 rfl) ?_
                refine lv_iload hx hb dX7_findRow_56 (lv_at hl 0 rfl) ?_
                refine lv_ishr hx hb dX7_findRow_58 ?_
                refine lv_iconst (v := 1) hx hb dX7_findRow_59 (by decide) ?_
                refine lv_iand hx hb dX7_findRow_60 ?_
                refine lv_iconst (v := 1) hx hb dX7_findRow_61 (by decide) ?_
                refine lv_icmp_ne (tgt := 69) hx hb dX7_findRow_62 (by decide) (fun c_6 => ?_) (fun c_6 => ?_)
                ·
                  exact absurd c_5 c_6
                ·
                  refine lv_iconst (v := 0) hx hb dX7_findRow_65 (by decide) ?_
                  refine lv_goto (tgt := 70) hx hb dX7_findRow_66 (by decide) ?_
                  refine N_isub (a := p_) (b := 0) hx hb rfl rfl (by omega) dX7_findRow_70 ?_
                  refine lv_istore (lv' := [(7, .int (nI (p_ - 0))), (8, .int (nI q)), (3, .int (nI ((unS nn num k).1 % (unS nn num k).2.1))), (6, .int (nI k)), (5, .int (nI ((unS nn num k).2.2))), (4, .int (nI ((unS nn num k).2.1))), (0, .ref m0), (1, .int (nI num)), (2, .int (nI nn))]) hx hb dX7_findRow_71 hl (by decide) rfl (fun ls hl => ?_)
                  refine lv_iinc (v := nI (q + 1)) (lv' := [(8, .int (nI (q + 1))), (7, .int (nI (p_ - 0))), (3, .int (nI ((unS nn num k).1 % (unS nn num k).2.1))), (6, .int (nI k)), (5, .int (nI ((unS nn num k).2.2))), (4, .int (nI ((unS nn num k).2.1))), (0, .ref m0), (1, .int (nI num)), (2, .int (nI nn))]) hx hb dX7_findRow_73 hl (k := 1) rfl (nI_inc q) (by decide) rfl (fun ls hl => ?_)
                  refine lv_goto (tgt := 36) hx hb dX7_findRow_76 (by decide) ?_
                  exact ih36 (p_ - 0) (q + 1) f1 (by omega) (by omega) hs (by omega) _ _ hP hD hS ls (lv_sub hl [0, 2, 1, 3, 4, 5, 6, 7, 8] rfl)
              ·
                rw [if_neg (fun h => c_5 (hb1.mpr h))] at hs
                refine lv_iload hx hb dX7_findRow_47 (lv_at hl 2 rfl) ?_
                refine ifN_le (tgt := 79) (a := p_) hx hb rfl (by omega) dX7_findRow_49 (by decide) (fun c_7 => ?_) (fun c_7 => ?_)
                ·
                  rw [if_pos c_7] at hs
                  have hqe : q = unR nn num k := Option.some.inj hs
                  subst hqe
                  refine lv_aload_n hx hb dX7_findRow_79 rfl (lv_at hl 6 rfl) ?_
                  refine va_get (D := E.1) (ci := 7) (v := .ref y5) (C := RX7) (T := TX7) (N := 23) hx hb hts hinX7 hown hK.1 hP 0 rfl rfl 16 (by decide) fl_34 (fun _ h9 => h9) rfl dX7_findRow_80 ?_
                  refine lv_iload hx hb dX7_findRow_83 (lv_at hl 3 rfl) ?_
                  refine lv_iload hx hb dX7_findRow_85 (lv_at hl 0 rfl) ?_
                  refine ist hx hb hK hP hD hS 1 rfl (j := k) rfl (by omega) (by decide) dX7_findRow_87 (fun H locs hP hD hS => ?_)
                  have hP : va_P E.1 vwCl [ob m0 7 [.int lf, .int tr, .ref z0, .ref z1, .ref z2, .int (nI n), .ref y0, .ref y1, .ref y2, .int at_, .int rwi, .ref y3, .ref y4, .int sl, .int cr, .int gr, .ref y5, .ref y6, .int (nI rc), .ref x0, .ref x1, .ref x2, .ref x3], ar E y5 6 (upd (fil (unA nn num) rw_ k) k (nI (unR nn num k)))] H := hP
                  have hD : va_D A [ob m0 7 [.int lf, .int tr, .ref z0, .ref z1, .ref z2, .int (nI n), .ref y0, .ref y1, .ref y2, .int at_, .int rwi, .ref y3, .ref y4, .int sl, .int cr, .int gr, .ref y5, .ref y6, .int (nI rc), .ref x0, .ref x1, .ref x2, .ref x3], ar E y5 6 (upd (fil (unA nn num) rw_ k) k (nI (unR nn num k)))] := hD
                  rw [show upd (fil (unA nn num) rw_ k) k (nI (unR nn num k)) = fil (unA nn num) rw_ (k + 1) from fil_s _ _ _] at hP hD
                  have hP : va_P E.1 vwCl [ob m0 7 [.int lf, .int tr, .ref z0, .ref z1, .ref z2, .int (nI n), .ref y0, .ref y1, .ref y2, .int at_, .int rwi, .ref y3, .ref y4, .int sl, .int cr, .int gr, .ref y5, .ref y6, .int (nI rc), .ref x0, .ref x1, .ref x2, .ref x3], ar E y5 6 (fil (unA nn num) rw_ (k + 1))] H := hP
                  have hD : va_D A [ob m0 7 [.int lf, .int tr, .ref z0, .ref z1, .ref z2, .int (nI n), .ref y0, .ref y1, .ref y2, .int at_, .int rwi, .ref y3, .ref y4, .int sl, .int cr, .int gr, .ref y5, .ref y6, .int (nI rc), .ref x0, .ref x1, .ref x2, .ref x3], ar E y5 6 (fil (unA nn num) rw_ (k + 1))] := hD
                  refine lv_iload hx hb dX7_findRow_88 (lv_at hl 4 rfl) ?_
                  refine lv_iconst (v := 1) hx hb dX7_findRow_90 (by decide) ?_
                  refine lv_iload hx hb dX7_findRow_91 (lv_at hl 0 rfl) ?_
                  refine lv_ishl hx hb dX7_findRow_93 ?_
                  rw [shl1 (unR nn num k) (by omega)]
                  refine N_ior (a := (unS nn num k).2.2) (b := 2 ^ unR nn num k) hx hb rfl rfl dX7_findRow_94 ?_
                  refine lv_istore (lv' := [(5, .int (nI (((unS nn num k).2.2) ||| (2 ^ unR nn num k)))), (8, .int (nI (unR nn num k))), (3, .int (nI ((unS nn num k).1 % (unS nn num k).2.1))), (7, .int (nI p_)), (6, .int (nI k)), (4, .int (nI ((unS nn num k).2.1))), (0, .ref m0), (1, .int (nI num)), (2, .int (nI nn))]) hx hb dX7_findRow_95 hl (by decide) rfl (fun ls hl => ?_)
                  refine lv_iload_n hx hb dX7_findRow_97 rfl (lv_at hl 8 rfl) ?_
                  refine lv_iload hx hb dX7_findRow_98 (lv_at hl 4 rfl) ?_
                  refine N_isub (a := nn) (b := k) hx hb rfl rfl (by omega) dX7_findRow_100 ?_
                  refine lv_iconst (v := 1) hx hb dX7_findRow_101 (by decide) ?_
                  refine N_isub (a := nn - k) (b := 1) hx hb rfl rfl (by omega) dX7_findRow_102 ?_
                  refine lv_iconst (v := 1) hx hb dX7_findRow_103 (by decide) ?_
                  refine icmpN_le (tgt := 119) (a := (nn - k) - 1) (b := 1) hx hb rfl rfl (by omega) (by omega) dX7_findRow_104 (by decide) (fun c_8 => ?_) (fun c_8 => ?_)
                  ·
                    refine lv_iconst (v := 1) hx hb dX7_findRow_119 (by decide) ?_
                    refine lv_istore (lv' := [(4, .int 1), (5, .int (nI (((unS nn num k).2.2) ||| (2 ^ unR nn num k)))), (8, .int (nI (unR nn num k))), (3, .int (nI ((unS nn num k).1 % (unS nn num k).2.1))), (7, .int (nI p_)), (6, .int (nI k)), (0, .ref m0), (1, .int (nI num)), (2, .int (nI nn))]) hx hb dX7_findRow_120 hl (by decide) rfl (fun ls hl => ?_)
                    refine lv_iinc (v := nI (k + 1)) (lv' := [(6, .int (nI (k + 1))), (4, .int 1), (5, .int (nI (((unS nn num k).2.2) ||| (2 ^ unR nn num k)))), (8, .int (nI (unR nn num k))), (3, .int (nI ((unS nn num k).1 % (unS nn num k).2.1))), (7, .int (nI p_)), (0, .ref m0), (1, .int (nI num)), (2, .int (nI nn))]) hx hb dX7_findRow_122 hl (k := 5) rfl (nI_inc k) (by decide) rfl (fun ls hl => ?_)
                    refine lv_goto (tgt := 16) hx hb dX7_findRow_125 (by decide) ?_
                    have eU : unS nn num (k + 1) = ((unS nn num k).1 % (unS nn num k).2.1, 1, (unS nn num k).2.2 ||| 2 ^ unR nn num k) := by rw [unS_s, if_neg (by omega)]
                    have hl : lv_has ls 9 [(6, .int (nI (k + 1))), (5, .int (nI ((unS nn num (k + 1)).2.2))), (4, .int (nI ((unS nn num (k + 1)).2.1))), (3, .int (nI ((unS nn num (k + 1)).1))), (0, .ref m0), (1, .int (nI num)), (2, .int (nI nn))] := by rw [eU]; exact lv_sub hl [0, 2, 1, 4, 6, 7, 8] rfl
                    exact ih16 (k + 1) (by omega) (by omega) _ _ hP hD hS ls (lv_sub hl [0, 1, 2, 3, 4, 5, 6] rfl)
                  ·
                    refine lv_iload hx hb dX7_findRow_107 (lv_at hl 5 rfl) ?_
                    refine lv_iload_n hx hb dX7_findRow_109 rfl (lv_at hl 8 rfl) ?_
                    refine lv_iload hx hb dX7_findRow_110 (lv_at hl 4 rfl) ?_
                    refine N_isub (a := nn) (b := k) hx hb rfl rfl (by omega) dX7_findRow_112 ?_
                    refine lv_iconst (v := 1) hx hb dX7_findRow_113 (by decide) ?_
                    refine N_isub (a := nn - k) (b := 1) hx hb rfl rfl (by omega) dX7_findRow_114 ?_
                    refine lv_idiv hx hb dX7_findRow_115 (nI_ne0 (by omega) (by omega)) ?_
                    rw [pk_div (by omega) (by omega) (by omega)]
                    refine lv_goto (tgt := 120) hx hb dX7_findRow_116 (by decide) ?_
                    refine lv_istore (lv' := [(4, .int (nI ((unS nn num k).2.1 / (nn - k - 1)))), (5, .int (nI (((unS nn num k).2.2) ||| (2 ^ unR nn num k)))), (8, .int (nI (unR nn num k))), (3, .int (nI ((unS nn num k).1 % (unS nn num k).2.1))), (7, .int (nI p_)), (6, .int (nI k)), (0, .ref m0), (1, .int (nI num)), (2, .int (nI nn))]) hx hb dX7_findRow_120 hl (by decide) rfl (fun ls hl => ?_)
                    refine lv_iinc (v := nI (k + 1)) (lv' := [(6, .int (nI (k + 1))), (4, .int (nI ((unS nn num k).2.1 / (nn - k - 1)))), (5, .int (nI (((unS nn num k).2.2) ||| (2 ^ unR nn num k)))), (8, .int (nI (unR nn num k))), (3, .int (nI ((unS nn num k).1 % (unS nn num k).2.1))), (7, .int (nI p_)), (0, .ref m0), (1, .int (nI num)), (2, .int (nI nn))]) hx hb dX7_findRow_122 hl (k := 5) rfl (nI_inc k) (by decide) rfl (fun ls hl => ?_)
                    refine lv_goto (tgt := 16) hx hb dX7_findRow_125 (by decide) ?_
                    have eU : unS nn num (k + 1) = ((unS nn num k).1 % (unS nn num k).2.1, (unS nn num k).2.1 / (nn - k - 1), (unS nn num k).2.2 ||| 2 ^ unR nn num k) := by rw [unS_s, if_pos (by omega)]
                    have hl : lv_has ls 9 [(6, .int (nI (k + 1))), (5, .int (nI ((unS nn num (k + 1)).2.2))), (4, .int (nI ((unS nn num (k + 1)).2.1))), (3, .int (nI ((unS nn num (k + 1)).1))), (0, .ref m0), (1, .int (nI num)), (2, .int (nI nn))] := by rw [eU]; exact lv_sub hl [0, 2, 1, 4, 6, 7, 8] rfl
                    exact ih16 (k + 1) (by omega) (by omega) _ _ hP hD hS ls (lv_sub hl [0, 1, 2, 3, 4, 5, 6] rfl)
                ·
                  rw [if_neg (by omega)] at hs
                  refine lv_iload hx hb dX7_findRow_52 (lv_at hl 2 rfl) ?_
                  refine lv_iload hx hb dX7_findRow_54 (lv_at hl 4 rfl) ?_
                  refine lv_iload hx hb dX7_findRow_56 (lv_at hl 0 rfl) ?_
                  refine lv_ishr hx hb dX7_findRow_58 ?_
                  refine lv_iconst (v := 1) hx hb dX7_findRow_59 (by decide) ?_
                  refine lv_iand hx hb dX7_findRow_60 ?_
                  refine lv_iconst (v := 1) hx hb dX7_findRow_61 (by decide) ?_
                  refine lv_icmp_ne (tgt := 69) hx hb dX7_findRow_62 (by decide) (fun c_9 => ?_) (fun c_9 => ?_)
                  ·
                    refine lv_iconst (v := 1) hx hb dX7_findRow_69 (by decide) ?_
                    refine N_isub (a := p_) (b := 1) hx hb rfl rfl (by omega) dX7_findRow_70 ?_
                    refine lv_istore (lv' := [(7, .int (nI (p_ - 1))), (8, .int (nI q)), (3, .int (nI ((unS nn num k).1 % (unS nn num k).2.1))), (6, .int (nI k)), (5, .int (nI ((unS nn num k).2.2))), (4, .int (nI ((unS nn num k).2.1))), (0, .ref m0), (1, .int (nI num)), (2, .int (nI nn))]) hx hb dX7_findRow_71 hl (by decide) rfl (fun ls hl => ?_)
                    refine lv_iinc (v := nI (q + 1)) (lv' := [(8, .int (nI (q + 1))), (7, .int (nI (p_ - 1))), (3, .int (nI ((unS nn num k).1 % (unS nn num k).2.1))), (6, .int (nI k)), (5, .int (nI ((unS nn num k).2.2))), (4, .int (nI ((unS nn num k).2.1))), (0, .ref m0), (1, .int (nI num)), (2, .int (nI nn))]) hx hb dX7_findRow_73 hl (k := 1) rfl (nI_inc q) (by decide) rfl (fun ls hl => ?_)
                    refine lv_goto (tgt := 36) hx hb dX7_findRow_76 (by decide) ?_
                    exact ih36 (p_ - 1) (q + 1) f1 (by omega) (by omega) hs (by omega) _ _ hP hD hS ls (lv_sub hl [0, 2, 1, 3, 4, 5, 6, 7, 8] rfl)
                  ·
                    exact absurd c_9 c_5
          exact L36 _ ((unS nn num k).1 / (unS nn num k).2.1) 0 6 (by omega) (Nat.le_trans (Nat.div_le_self _ _) g1) g5 (Nat.lt_succ_self _) _ _ hP hD hS ls (lv_sub hl [0, 1, 2, 3, 4, 5, 6, 7, 8] rfl)
    exact L16 _ 0 (by omega) (Nat.lt_succ_self _) _ _ hP hD hS ls (lv_sub hl [0, 1, 2, 3, 4, 5, 6] rfl)
