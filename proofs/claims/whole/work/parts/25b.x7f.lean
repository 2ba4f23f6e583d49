set_option maxHeartbeats 4000000 in
set_option maxRecDepth 100000 in
theorem c_X7_inLeastTerms (l : Launch) (E : gE) (a : Nat) (b : Nat) (k : Int32) (ha : a < 2 ^ 63) (hb3 : b < 2 ^ 63) (hb0 : 0 < b) : Met l yX7_inLeastTerms wsX7_inLeastTerms ({ frames := 0, cells := 0, slots := 0, locals := 0 }) (PR E [.long (lN a), .long (lN b), .int k] []) (vp_Sl (fun r => r = if k = 0 then lN (a / Nat.gcd a b) else lN (b / Nat.gcd a b))) 0 0 (fun _ => False) := by
  refine mkRl (cc := cX7_inLeastTerms) (maxL := 11) (by decide) rfl (Nat.le_of_ble_eq_true rfl) ?_
  intro p e s m args below meth c QQ hx hb hml hown hmn hts hK hP hret ls hl
  have hown : s.vm.findClass RX7 = some m.cls := hown
  have hl : lv_has ls 11 [(0, .long (lN a)), (2, .long (lN b)), (4, .int k)] := hl
  refine lv_lload_n hx hb dX7_inLeastTerms_0 rfl (lv_at hl 0 rfl) ?_
  refine lv_lstore (lv' := [(5, .long (lN a)), (0, .long (lN a)), (2, .long (lN b)), (4, .int k)]) hx hb dX7_inLeastTerms_1 hl (by decide) rfl (fun ls hl => ?_)
  refine lv_lload_n hx hb dX7_inLeastTerms_3 rfl (lv_at hl 2 rfl) ?_
  refine lv_lstore (lv' := [(7, .long (lN b)), (5, .long (lN a)), (0, .long (lN a)), (2, .long (lN b)), (4, .int k)]) hx hb dX7_inLeastTerms_4 hl (by decide) rfl (fun ls hl => ?_)
  have L6 : ∀ (fuel : Nat) (p1 : Nat) (q1 : Nat), (p1 < 2 ^ 63) → (q1 < 2 ^ 63) → (Nat.gcd p1 q1 = Nat.gcd a b) → q1 < fuel → ∀ ls : Array Slot, lv_has ls 11 [(7, .long (lN q1)), (5, .long (lN p1)), (0, .long (lN a)), (2, .long (lN b)), (4, .int k)] → W p l e ({ frames := 0, cells := 0, slots := 0, locals := 0 }) s m args below meth c s.heap [] 0 0 QQ (F0 m 6 ls []) := by
    intro fuel
    induction fuel with
    | zero => intro p1 q1 hp hq hg hf; exact absurd hf (Nat.not_lt_zero _)
    | succ fuel ih6 =>
      intro p1 q1 hp hq hg hf6 ls hl
      refine lv_lload hx hb dX7_inLeastTerms_6 (lv_at hl 0 rfl) ?_
      refine lv_lconst (v := 0) hx hb dX7_inLeastTerms_8 (by decide) ?_
      refine W.lcmp hx hb dX7_inLeastTerms_9 ?_
      refine lv_if_eq (tgt := 31) hx hb dX7_inLeastTerms_10 (by decide) (fun c_lt => ?_) (fun c_lt => ?_)
      ·
        have hqz : q1 = 0 := (pk_lEQ (b := 0) hq (by decide)).mp ((lg_cmp_eq _ _).mp c_lt)
        have hpe : p1 = Nat.gcd a b := by rw [← hg, hqz, Nat.gcd_zero_right]
        have hp1 : 0 < p1 := by rw [hpe]; exact Nat.gcd_pos_of_pos_right _ hb0
        have hpn : ¬ lN p1 = 0 := fun h => absurd ((pk_lEQ (b := 0) hp (by decide)).mp h) (by omega)
        refine lv_iload hx hb dX7_inLeastTerms_31 (lv_at hl 4 rfl) ?_
        refine lv_if_ne (tgt := 43) hx hb dX7_inLeastTerms_33 (by decide) (fun c_1 => ?_) (fun c_1 => ?_)
        ·
          refine lv_lload_n hx hb dX7_inLeastTerms_43 rfl (lv_at hl 3 rfl) ?_
          refine lv_lload hx hb dX7_inLeastTerms_44 (lv_at hl 1 rfl) ?_
          refine lv_ldiv hx hb dX7_inLeastTerms_46 hpn ?_
          exact hret _ _ _ dX7_inLeastTerms_47 (by rw [if_neg c_1, ← hpe, pk_lDiv hb3 hp1 hp])
        ·
          refine lv_lload_n hx hb dX7_inLeastTerms_36 rfl (lv_at hl 2 rfl) ?_
          refine lv_lload hx hb dX7_inLeastTerms_37 (lv_at hl 1 rfl) ?_
          refine lv_ldiv hx hb dX7_inLeastTerms_39 hpn ?_
          refine lv_goto (tgt := 47) hx hb dX7_inLeastTerms_40 (by decide) ?_
          exact hret _ _ _ dX7_inLeastTerms_47 (by rw [if_pos c_1, ← hpe, pk_lDiv ha hp1 hp])
      ·
        have hq0 : 0 < q1 := Nat.pos_of_ne_zero (fun h => c_lt ((lg_cmp_eq _ _).mpr (by rw [h]; rfl)))
        have hml := Nat.mod_lt p1 hq0
        refine lv_lload hx hb dX7_inLeastTerms_13 (lv_at hl 1 rfl) ?_
        refine lv_lload hx hb dX7_inLeastTerms_15 (lv_at hl 0 rfl) ?_
        refine lv_lrem hx hb dX7_inLeastTerms_17 (fun h => c_lt ((lg_cmp_eq _ _).mpr h)) ?_
        rw [pk_lRem hp hq0 hq]
        refine lv_lstore (lv' := [(9, .long (lN (p1 % q1))), (7, .long (lN q1)), (5, .long (lN p1)), (0, .long (lN a)), (2, .long (lN b)), (4, .int k)]) hx hb dX7_inLeastTerms_18 hl (by decide) rfl (fun ls hl => ?_)
        refine lv_lload hx hb dX7_inLeastTerms_20 (lv_at hl 1 rfl) ?_
        refine lv_lstore (lv' := [(5, .long (lN q1)), (9, .long (lN (p1 % q1))), (7, .long (lN q1)), (0, .long (lN a)), (2, .long (lN b)), (4, .int k)]) hx hb dX7_inLeastTerms_22 hl (by decide) rfl (fun ls hl => ?_)
        refine lv_lload hx hb dX7_inLeastTerms_24 (lv_at hl 1 rfl) ?_
        refine lv_lstore (lv' := [(7, .long (lN (p1 % q1))), (5, .long (lN q1)), (9, .long (lN (p1 % q1))), (0, .long (lN a)), (2, .long (lN b)), (4, .int k)]) hx hb dX7_inLeastTerms_26 hl (by decide) rfl (fun ls hl => ?_)
        refine lv_goto (tgt := 6) hx hb dX7_inLeastTerms_28 (by decide) ?_
        exact ih6 q1 (p1 % q1) hq (by omega) (by rw [Nat.gcd_comm, ← Nat.gcd_rec, Nat.gcd_comm]; exact hg) (by omega) ls (lv_sub hl [0, 1, 3, 4, 5] rfl)
  exact L6 _ a b ha hb3 rfl (Nat.lt_succ_self _) ls (lv_sub hl [0, 1, 2, 3, 4] rfl)
set_option maxHeartbeats 4000000 in
set_option maxRecDepth 100000 in
theorem c_X7_findWays (l : Launch) (E : gE) (sz : Nat) (m0 : Nat) (lf : Int32) (tr : Int32) (z0 : Nat) (z1 : Nat) (z2 : Nat) (n : Nat) (y0 : Nat) (y1 : Nat) (y2 : Nat) (at_ : Int32) (rwi : Int32) (y3 : Nat) (y4 : Nat) (sl : Int32) (cr : Int32) (gr : Int32) (y5 : Nat) (y6 : Nat) (rc : Nat) (x0 : Nat) (x1 : Nat) (x2 : Nat) (x3 : Nat) (kd : Nat → Int32) (mn : Nat → Int32) (wv : Nat → Int32) (hFR : FR n kd mn) : Met l yX7_findWays wsX7_findWays ({ frames := 2, cells := 0, slots := 0, locals := 42 }) (PW E [.ref m0] [ob m0 7 [.int lf, .int tr, .ref z0, .ref z1, .ref z2, .int (nI n), .ref y0, .ref y1, .ref y2, .int at_, .int rwi, .ref y3, .ref y4, .int sl, .int cr, .int gr, .ref y5, .ref y6, .int (nI rc), .ref x0, .ref x1, .ref x2, .ref x3], ar E y0 6 kd, ar E y1 6 mn, ar E x3 109 wv] sz) (QWv E (fun _ => True) (fun (_ : Unit) => [ob m0 7 [.int lf, .int tr, .ref z0, .ref z1, .ref z2, .int (nI n), .ref y0, .ref y1, .ref y2, .int at_, .int rwi, .ref y3, .ref y4, .int sl, .int cr, .int gr, .ref y5, .ref y6, .int (nI rc), .ref x0, .ref x1, .ref x2, .ref x3], ar E y0 6 kd, ar E y1 6 mn, ar E x3 109 (wA (wN (rN kd mn) n))]) (va_A [ob m0 7 [.int lf, .int tr, .ref z0, .ref z1, .ref z2, .int (nI n), .ref y0, .ref y1, .ref y2, .int at_, .int rwi, .ref y3, .ref y4, .int sl, .int cr, .int gr, .ref y5, .ref y6, .int (nI rc), .ref x0, .ref x1, .ref x2, .ref x3], ar E y0 6 kd, ar E y1 6 mn, ar E x3 109 wv] sz)) 0 0 (va_A [ob m0 7 [.int lf, .int tr, .ref z0, .ref z1, .ref z2, .int (nI n), .ref y0, .ref y1, .ref y2, .int at_, .int rwi, .ref y3, .ref y4, .int sl, .int cr, .int gr, .ref y5, .ref y6, .int (nI rc), .ref x0, .ref x1, .ref x2, .ref x3], ar E y0 6 kd, ar E y1 6 mn, ar E x3 109 wv] sz) := by
  refine mkWv (cc := cX7_findWays) (maxL := 5) (by decide) rfl (Nat.le_of_ble_eq_true rfl) ?_
  intro p e s m args below meth c QQ A hx hb hml hown hmn hts hK hA hP hD hS hret ls hl
  have hown : s.vm.findClass RX7 = some m.cls := hown
  have hl : lv_has ls 5 [(0, .ref m0)] := hl
  have hinX7 : ∀ w ∈ wsX70, w ∈ wsX7_findWays := by decide +kernel
  have fl_49 := hts (.fieldLink RX7 49 "GuardAbacusModel" "ways" "[I") (by decide +kernel)
  have fl_62 := hts (.fieldLink RX7 62 "GuardAbacusModel" "wires" "I") (by decide +kernel)
  have hn := hFR.1
  refine lv_iconst (v := 0) hx hb dX7_findWays_0 (by decide) ?_
  refine lv_istore_n (lv' := [(1, .int 0), (0, .ref m0)]) hx hb dX7_findWays_1 rfl hl (by decide) rfl (fun ls hl => ?_)
  rw [← fil_0 (wA (wN (rN kd mn) 0)) wv] at hP hD
  have L2 : ∀ (fuel : Nat) (k : Nat), (k ≤ 109) → (109 - k) < fuel → ∀ (H : Heap) (locs : List Loc), va_P E.1 vwCl [ob m0 7 [.int lf, .int tr, .ref z0, .ref z1, .ref z2, .int (nI n), .ref y0, .ref y1, .ref y2, .int at_, .int rwi, .ref y3, .ref y4, .int sl, .int cr, .int gr, .ref y5, .ref y6, .int (nI rc), .ref x0, .ref x1, .ref x2, .ref x3], ar E y0 6 kd, ar E y1 6 mn, ar E x3 109 (fil (wA (wN (rN kd mn) 0)) wv k)] H → va_D A [ob m0 7 [.int lf, .int tr, .ref z0, .ref z1, .ref z2, .int (nI n), .ref y0, .ref y1, .ref y2, .int at_, .int rwi, .ref y3, .ref y4, .int sl, .int cr, .int gr, .ref y5, .ref y6, .int (nI rc), .ref x0, .ref x1, .ref x2, .ref x3], ar E y0 6 kd, ar E y1 6 mn, ar E x3 109 (fil (wA (wN (rN kd mn) 0)) wv k)] → va_S A s.heap H locs → ∀ ls : Array Slot, lv_has ls 5 [(1, .int (nI k)), (0, .ref m0)] → W p l e ({ frames := 2, cells := 0, slots := 0, locals := 42 }) s m args below meth c H locs 0 0 QQ (F0 m 2 ls []) := by
    intro fuel
    induction fuel with
    | zero => intro k hk hf; exact absurd hf (Nat.not_lt_zero _)
    | succ fuel ih2 =>
      intro k hk hf2 H locs hP hD hS ls hl
      refine lv_iload_n hx hb dX7_findWays_2 rfl (lv_at hl 0 rfl) ?_
      refine lv_bipush (v := 108) hx hb dX7_findWays_3 (by decide) ?_
      refine icmpN_gt (tgt := 29) (a := k) (b := 108) hx hb rfl rfl (by omega) (by omega) dX7_findWays_5 (by decide) (fun c_1 => ?_) (fun c_1 => ?_)
      ·
        obtain rfl : k = 109 := by omega
        have hP := va_P_ar hP 3 x3 109 (g := wA (wN (rN kd mn) 0)) rfl (fun j hj => fil_in hj)
        have hP : va_P E.1 vwCl [ob m0 7 [.int lf, .int tr, .ref z0, .ref z1, .ref z2, .int (nI n), .ref y0, .ref y1, .ref y2, .int at_, .int rwi, .ref y3, .ref y4, .int sl, .int cr, .int gr, .ref y5, .ref y6, .int (nI rc), .ref x0, .ref x1, .ref x2, .ref x3], ar E y0 6 kd, ar E y1 6 mn, ar E x3 109 (wA (wN (rN kd mn) 0))] H := hP
        have hD : va_D A [ob m0 7 [.int lf, .int tr, .ref z0, .ref z1, .ref z2, .int (nI n), .ref y0, .ref y1, .ref y2, .int at_, .int rwi, .ref y3, .ref y4, .int sl, .int cr, .int gr, .ref y5, .ref y6, .int (nI rc), .ref x0, .ref x1, .ref x2, .ref x3], ar E y0 6 kd, ar E y1 6 mn, ar E x3 109 (wA (wN (rN kd mn) 0))] := va_D_addr hD [m0, y0, y1, x3] rfl rfl
        refine lv_iconst (v := 0) hx hb dX7_findWays_29 (by decide) ?_
        refine lv_istore_n (lv' := [(1, .int 0), (0, .ref m0)]) hx hb dX7_findWays_30 rfl hl (by decide) rfl (fun ls hl => ?_)
        have L31 : ∀ (fuel : Nat) (z : Nat), (z ≤ n) → (n - z) < fuel → ∀ (H : Heap) (locs : List Loc), va_P E.1 vwCl [ob m0 7 [.int lf, .int tr, .ref z0, .ref z1, .ref z2, .int (nI n), .ref y0, .ref y1, .ref y2, .int at_, .int rwi, .ref y3, .ref y4, .int sl, .int cr, .int gr, .ref y5, .ref y6, .int (nI rc), .ref x0, .ref x1, .ref x2, .ref x3], ar E y0 6 kd, ar E y1 6 mn, ar E x3 109 (wA (wN (rN kd mn) z))] H → va_D A [ob m0 7 [.int lf, .int tr, .ref z0, .ref z1, .ref z2, .int (nI n), .ref y0, .ref y1, .ref y2, .int at_, .int rwi, .ref y3, .ref y4, .int sl, .int cr, .int gr, .ref y5, .ref y6, .int (nI rc), .ref x0, .ref x1, .ref x2, .ref x3], ar E y0 6 kd, ar E y1 6 mn, ar E x3 109 (wA (wN (rN kd mn) z))] → va_S A s.heap H locs → ∀ ls : Array Slot, lv_has ls 5 [(1, .int (nI z)), (0, .ref m0)] → W p l e ({ frames := 2, cells := 0, slots := 0, locals := 42 }) s m args below meth c H locs 0 0 QQ (F0 m 31 ls []) := by
          intro fuel
          induction fuel with
          | zero => intro z hz hf; exact absurd hf (Nat.not_lt_zero _)
          | succ fuel ih31 =>
            intro z hz hf31 H locs hP hD hS ls hl
            refine lv_iload_n hx hb dX7_findWays_31 rfl (lv_at hl 0 rfl) ?_
            refine lv_aload_n hx hb dX7_findWays_32 rfl (lv_at hl 1 rfl) ?_
            refine va_get (D := E.1) (ci := 7) (v := .int (nI n)) (C := RX7) (T := TX7) (N := 23) hx hb hts hinX7 hown hK.1 hP 0 rfl rfl 5 (by decide) fl_62 (fun _ h9 => h9) rfl dX7_findWays_33 ?_
            refine icmpN_ge (tgt := 104) (a := z) (b := n) hx hb rfl rfl (by omega) (by omega) dX7_findWays_36 (by decide) (fun c_2 => ?_) (fun c_2 => ?_)
            ·
              obtain rfl : n = z := by omega
              exact hret _ _ _ _ () dX7_findWays_104 hS hP trivial
            ·
              refine lv_bipush (v := 108) hx hb dX7_findWays_39 (by decide) ?_
              refine lv_istore_n (lv' := [(2, .int 108), (1, .int (nI z)), (0, .ref m0)]) hx hb dX7_findWays_41 rfl hl (by decide) rfl (fun ls hl => ?_)
              have hP := va_P_ar hP 3 x3 109 (g := wA (wm (wN (rN kd mn) z) (wN (rN kd mn) (z + 1)) 109)) rfl (fun j hj => (wm_in hj).symm)
              have hP : va_P E.1 vwCl [ob m0 7 [.int lf, .int tr, .ref z0, .ref z1, .ref z2, .int (nI n), .ref y0, .ref y1, .ref y2, .int at_, .int rwi, .ref y3, .ref y4, .int sl, .int cr, .int gr, .ref y5, .ref y6, .int (nI rc), .ref x0, .ref x1, .ref x2, .ref x3], ar E y0 6 kd, ar E y1 6 mn, ar E x3 109 (wA (wm (wN (rN kd mn) z) (wN (rN kd mn) (z + 1)) 109))] H := hP
              have hD : va_D A [ob m0 7 [.int lf, .int tr, .ref z0, .ref z1, .ref z2, .int (nI n), .ref y0, .ref y1, .ref y2, .int at_, .int rwi, .ref y3, .ref y4, .int sl, .int cr, .int gr, .ref y5, .ref y6, .int (nI rc), .ref x0, .ref x1, .ref x2, .ref x3], ar E y0 6 kd, ar E y1 6 mn, ar E x3 109 (wA (wm (wN (rN kd mn) z) (wN (rN kd mn) (z + 1)) 109))] := va_D_addr hD [m0, y0, y1, x3] rfl rfl
              have hl : lv_has ls 5 [(2, .int (nI 109 - 1)), (1, .int (nI z)), (0, .ref m0)] := hl
              have L42 : ∀ (fuel : Nat) (r : Nat), (r ≤ 109) → r < fuel → ∀ (H : Heap) (locs : List Loc), va_P E.1 vwCl [ob m0 7 [.int lf, .int tr, .ref z0, .ref z1, .ref z2, .int (nI n), .ref y0, .ref y1, .ref y2, .int at_, .int rwi, .ref y3, .ref y4, .int sl, .int cr, .int gr, .ref y5, .ref y6, .int (nI rc), .ref x0, .ref x1, .ref x2, .ref x3], ar E y0 6 kd, ar E y1 6 mn, ar E x3 109 (wA (wm (wN (rN kd mn) z) (wN (rN kd mn) (z + 1)) r))] H → va_D A [ob m0 7 [.int lf, .int tr, .ref z0, .ref z1, .ref z2, .int (nI n), .ref y0, .ref y1, .ref y2, .int at_, .int rwi, .ref y3, .ref y4, .int sl, .int cr, .int gr, .ref y5, .ref y6, .int (nI rc), .ref x0, .ref x1, .ref x2, .ref x3], ar E y0 6 kd, ar E y1 6 mn, ar E x3 109 (wA (wm (wN (rN kd mn) z) (wN (rN kd mn) (z + 1)) r))] → va_S A s.heap H locs → ∀ ls : Array Slot, lv_has ls 5 [(2, .int (nI r - 1)), (1, .int (nI z)), (0, .ref m0)] → W p l e ({ frames := 2, cells := 0, slots := 0, locals := 42 }) s m args below meth c H locs 0 0 QQ (F0 m 42 ls []) := by
                intro fuel
                induction fuel with
                | zero => intro r hr1 hf; exact absurd hf (Nat.not_lt_zero _)
                | succ fuel ih42 =>
                  intro r hr1 hf42 H locs hP hD hS ls hl
                  rcases r with _ | r
                  ·
                    have hl : lv_has ls 5 [(2, .int (-1)), (1, .int (nI z)), (0, .ref m0)] := hl
                    refine lv_iload_n hx hb dX7_findWays_42 rfl (lv_at hl 0 rfl) ?_
                    refine lv_if_lt (tgt := 98) hx hb dX7_findWays_43 (by decide) (fun cz => ?_) (fun cz => ?_)
                    ·
                      have hP := va_P_ar hP 3 x3 109 (g := wA (wN (rN kd mn) (z + 1))) rfl (fun j hj => by unfold wA wm; rw [if_neg (Nat.not_lt_zero j)])
                      have hP : va_P E.1 vwCl [ob m0 7 [.int lf, .int tr, .ref z0, .ref z1, .ref z2, .int (nI n), .ref y0, .ref y1, .ref y2, .int at_, .int rwi, .ref y3, .ref y4, .int sl, .int cr, .int gr, .ref y5, .ref y6, .int (nI rc), .ref x0, .ref x1, .ref x2, .ref x3], ar E y0 6 kd, ar E y1 6 mn, ar E x3 109 (wA (wN (rN kd mn) (z + 1)))] H := hP
                      have hD : va_D A [ob m0 7 [.int lf, .int tr, .ref z0, .ref z1, .ref z2, .int (nI n), .ref y0, .ref y1, .ref y2, .int at_, .int rwi, .ref y3, .ref y4, .int sl, .int cr, .int gr, .ref y5, .ref y6, .int (nI rc), .ref x0, .ref x1, .ref x2, .ref x3], ar E y0 6 kd, ar E y1 6 mn, ar E x3 109 (wA (wN (rN kd mn) (z + 1)))] := va_D_addr hD [m0, y0, y1, x3] rfl rfl
                      refine lv_iinc (v := nI (z + 1)) (lv' := [(1, .int (nI (z + 1))), (2, .int (-1)), (0, .ref m0)]) hx hb dX7_findWays_98 hl (k := 1) rfl (nI_inc z) (by decide) rfl (fun ls hl => ?_)
                      refine lv_goto (tgt := 31) hx hb dX7_findWays_101 (by decide) ?_
                      exact ih31 (z + 1) (by omega) (by omega) _ _ hP hD hS ls (lv_sub hl [0, 2] rfl)
                    ·
                      exact absurd (by decide) cz
                  ·
                    rw [nI_pred] at hl
                    have hl : lv_has ls 5 [(2, .int (nI r)), (1, .int (nI z)), (0, .ref m0)] := hl
                    refine lv_iload_n hx hb dX7_findWays_42 rfl (lv_at hl 0 rfl) ?_
                    refine ifN_lt (tgt := 98) (a := r) hx hb rfl (by omega) dX7_findWays_43 (by decide) ?_
                    refine lv_iconst (v := 0) hx hb dX7_findWays_46 (by decide) ?_
                    refine lv_istore_n (lv' := [(3, .int 0), (2, .int (nI r)), (1, .int (nI z)), (0, .ref m0)]) hx hb dX7_findWays_47 rfl hl (by decide) rfl (fun ls hl => ?_)
                    refine lv_iconst (v := 0) hx hb dX7_findWays_48 (by decide) ?_
                    refine lv_istore (lv' := [(4, .int 0), (3, .int 0), (2, .int (nI r)), (1, .int (nI z)), (0, .ref m0)]) hx hb dX7_findWays_49 hl (by decide) rfl (fun ls hl => ?_)
                    have L51 : ∀ (fuel : Nat) (y : Nat), (y ≤ min (rN kd mn z) r + 1) → (200 - y) < fuel → ∀ (H : Heap) (locs : List Loc), va_P E.1 vwCl [ob m0 7 [.int lf, .int tr, .ref z0, .ref z1, .ref z2, .int (nI n), .ref y0, .ref y1, .ref y2, .int at_, .int rwi, .ref y3, .ref y4, .int sl, .int cr, .int gr, .ref y5, .ref y6, .int (nI rc), .ref x0, .ref x1, .ref x2, .ref x3], ar E y0 6 kd, ar E y1 6 mn, ar E x3 109 (wA (wm (wN (rN kd mn) z) (wN (rN kd mn) (z + 1)) (r + 1)))] H → va_D A [ob m0 7 [.int lf, .int tr, .ref z0, .ref z1, .ref z2, .int (nI n), .ref y0, .ref y1, .ref y2, .int at_, .int rwi, .ref y3, .ref y4, .int sl, .int cr, .int gr, .ref y5, .ref y6, .int (nI rc), .ref x0, .ref x1, .ref x2, .ref x3], ar E y0 6 kd, ar E y1 6 mn, ar E x3 109 (wA (wm (wN (rN kd mn) z) (wN (rN kd mn) (z + 1)) (r + 1)))] → va_S A s.heap H locs → ∀ ls : Array Slot, lv_has ls 5 [(4, .int (nI y)), (3, .int (nI (wnS (wN (rN kd mn) z) r y))), (2, .int (nI r)), (1, .int (nI z)), (0, .ref m0)] → W p l e ({ frames := 2, cells := 0, slots := 0, locals := 42 }) s m args below meth c H locs 0 0 QQ (F0 m 51 ls []) := by
                      intro fuel
                      induction fuel with
                      | zero => intro y hy1 hf; exact absurd hf (Nat.not_lt_zero _)
                      | succ fuel ih51 =>
                        intro y hy1 hf51 H locs hP hD hS ls hl
                        refine lv_iload hx hb dX7_findWays_51 (lv_at hl 0 rfl) ?_
                        refine lv_aload_n hx hb dX7_findWays_53 rfl (lv_at hl 4 rfl) ?_
                        refine lv_iload_n hx hb dX7_findWays_54 rfl (lv_at hl 3 rfl) ?_
                        refine crV (As := [.int (nI z)]) (rest := [.int (nI y)]) ⟨hx, hb, hml, hown, hts⟩ (c_X7_roomOf l E m0 lf tr z0 z1 z2 n y0 y1 y2 at_ rwi y3 y4 sl cr gr y5 y6 rc x0 x1 x2 x3 kd mn (nI z) z (by first | assumption | omega) (by first | assumption | omega) rfl) (cwV 1 hts gX7_findWays_X7_roomOf rfl rfl rfl (by decide +kernel) ⟨Nat.le_of_ble_eq_true rfl, Nat.le_of_ble_eq_true rfl⟩) hK hP [0, 1, 2] rfl 0 rfl rfl rfl rfl hl.1 rfl (catLe (Nat.le_of_ble_eq_true rfl)) dX7_findWays_55 ⟨Nat.zero_le _, Nat.zero_le _⟩ (fun r_4 hr_4 => ?_)
                        subst hr_4
                        rw [show roomF (kd z) (mn z) = nI (rN kd mn z) from (rN_of hFR (by omega)).2.2]
                        have h18 := (rN_of hFR (w := z) (by omega)).2.1
                        refine icmpN_gt (tgt := 85) (a := y) (b := rN kd mn z) hx hb rfl rfl (by omega) (by omega) dX7_findWays_58 (by decide) (fun c_5 => ?_) (fun c_5 => ?_)
                        ·
                          obtain rfl : y = min (rN kd mn z) r + 1 := by omega
                          refine lv_aload_n hx hb dX7_findWays_85 rfl (lv_at hl 4 rfl) ?_
                          refine va_get (D := E.1) (ci := 7) (v := .ref x3) (C := RX7) (T := TX7) (N := 23) hx hb hts hinX7 hown hK.1 hP 0 rfl rfl 22 (by decide) fl_49 (fun _ h9 => h9) rfl dX7_findWays_86 ?_
                          refine lv_iload_n hx hb dX7_findWays_89 rfl (lv_at hl 2 rfl) ?_
                          refine lv_iload_n hx hb dX7_findWays_90 rfl (lv_at hl 1 rfl) ?_
                          refine ist hx hb hK hP hD hS 3 rfl (j := r) rfl (by omega) (by decide) dX7_findWays_91 (fun H locs hP hD hS => ?_)
                          have hP : va_P E.1 vwCl [ob m0 7 [.int lf, .int tr, .ref z0, .ref z1, .ref z2, .int (nI n), .ref y0, .ref y1, .ref y2, .int at_, .int rwi, .ref y3, .ref y4, .int sl, .int cr, .int gr, .ref y5, .ref y6, .int (nI rc), .ref x0, .ref x1, .ref x2, .ref x3], ar E y0 6 kd, ar E y1 6 mn, ar E x3 109 (upd (wA (wm (wN (rN kd mn) z) (wN (rN kd mn) (z + 1)) (r + 1))) r (nI (wnS (wN (rN kd mn) z) r (min (rN kd mn z) r + 1))))] H := hP
                          have hD : va_D A [ob m0 7 [.int lf, .int tr, .ref z0, .ref z1, .ref z2, .int (nI n), .ref y0, .ref y1, .ref y2, .int at_, .int rwi, .ref y3, .ref y4, .int sl, .int cr, .int gr, .ref y5, .ref y6, .int (nI rc), .ref x0, .ref x1, .ref x2, .ref x3], ar E y0 6 kd, ar E y1 6 mn, ar E x3 109 (upd (wA (wm (wN (rN kd mn) z) (wN (rN kd mn) (z + 1)) (r + 1))) r (nI (wnS (wN (rN kd mn) z) r (min (rN kd mn z) r + 1))))] := hD
                          rw [show upd (wA (wm (wN (rN kd mn) z) (wN (rN kd mn) (z + 1)) (r + 1))) r (nI (wnS (wN (rN kd mn) z) r (min (rN kd mn z) r + 1))) = wA (wm (wN (rN kd mn) z) (wN (rN kd mn) (z + 1)) r) from wm_s (f := wN (rN kd mn) z) (g := wN (rN kd mn) (z + 1))] at hP hD
                          have hP : va_P E.1 vwCl [ob m0 7 [.int lf, .int tr, .ref z0, .ref z1, .ref z2, .int (nI n), .ref y0, .ref y1, .ref y2, .int at_, .int rwi, .ref y3, .ref y4, .int sl, .int cr, .int gr, .ref y5, .ref y6, .int (nI rc), .ref x0, .ref x1, .ref x2, .ref x3], ar E y0 6 kd, ar E y1 6 mn, ar E x3 109 (wA (wm (wN (rN kd mn) z) (wN (rN kd mn) (z + 1)) r))] H := hP
                          have hD : va_D A [ob m0 7 [.int lf, .int tr, .ref z0, .ref z1, .ref z2, .int (nI n), .ref y0, .ref y1, .ref y2, .int at_, .int rwi, .ref y3, .ref y4, .int sl, .int cr, .int gr, .ref y5, .ref y6, .int (nI rc), .ref x0, .ref x1, .ref x2, .ref x3], ar E y0 6 kd, ar E y1 6 mn, ar E x3 109 (wA (wm (wN (rN kd mn) z) (wN (rN kd mn) (z + 1)) r))] := hD
                          refine lv_iinc (v := (nI r) - 1) (lv' := [(2, .int ((nI r) - 1)), (4, .int (nI (min (rN kd mn z) r + 1))), (3, .int (nI (wnS (wN (rN kd mn) z) r (min (rN kd mn z) r + 1)))), (1, .int (nI z)), (0, .ref m0)]) hx hb dX7_findWays_92 hl (k := 2) rfl (m1_sub _) (by decide) rfl (fun ls hl => ?_)
                          refine lv_goto (tgt := 42) hx hb dX7_findWays_95 (by decide) ?_
                          exact ih42 r (by omega) (by omega) _ _ hP hD hS ls (lv_sub hl [0, 3, 4] rfl)
                        ·
                          refine lv_iload hx hb dX7_findWays_61 (lv_at hl 0 rfl) ?_
                          refine lv_iload_n hx hb dX7_findWays_63 rfl (lv_at hl 2 rfl) ?_
                          refine icmpN_gt (tgt := 85) (a := y) (b := r) hx hb rfl rfl (by omega) (by omega) dX7_findWays_64 (by decide) (fun c_6 => ?_) (fun c_6 => ?_)
                          ·
                            obtain rfl : y = min (rN kd mn z) r + 1 := by omega
                            refine lv_aload_n hx hb dX7_findWays_85 rfl (lv_at hl 4 rfl) ?_
                            refine va_get (D := E.1) (ci := 7) (v := .ref x3) (C := RX7) (T := TX7) (N := 23) hx hb hts hinX7 hown hK.1 hP 0 rfl rfl 22 (by decide) fl_49 (fun _ h9 => h9) rfl dX7_findWays_86 ?_
                            refine lv_iload_n hx hb dX7_findWays_89 rfl (lv_at hl 2 rfl) ?_
                            refine lv_iload_n hx hb dX7_findWays_90 rfl (lv_at hl 1 rfl) ?_
                            refine ist hx hb hK hP hD hS 3 rfl (j := r) rfl (by omega) (by decide) dX7_findWays_91 (fun H locs hP hD hS => ?_)
                            have hP : va_P E.1 vwCl [ob m0 7 [.int lf, .int tr, .ref z0, .ref z1, .ref z2, .int (nI n), .ref y0, .ref y1, .ref y2, .int at_, .int rwi, .ref y3, .ref y4, .int sl, .int cr, .int gr, .ref y5, .ref y6, .int (nI rc), .ref x0, .ref x1, .ref x2, .ref x3], ar E y0 6 kd, ar E y1 6 mn, ar E x3 109 (upd (wA (wm (wN (rN kd mn) z) (wN (rN kd mn) (z + 1)) (r + 1))) r (nI (wnS (wN (rN kd mn) z) r (min (rN kd mn z) r + 1))))] H := hP
                            have hD : va_D A [ob m0 7 [.int lf, .int tr, .ref z0, .ref z1, .ref z2, .int (nI n), .ref y0, .ref y1, .ref y2, .int at_, .int rwi, .ref y3, .ref y4, .int sl, .int cr, .int gr, .ref y5, .ref y6, .int (nI rc), .ref x0, .ref x1, .ref x2, .ref x3], ar E y0 6 kd, ar E y1 6 mn, ar E x3 109 (upd (wA (wm (wN (rN kd mn) z) (wN (rN kd mn) (z + 1)) (r + 1))) r (nI (wnS (wN (rN kd mn) z) r (min (rN kd mn z) r + 1))))] := hD
                            rw [show upd (wA (wm (wN (rN kd mn) z) (wN (rN kd mn) (z + 1)) (r + 1))) r (nI (wnS (wN (rN kd mn) z) r (min (rN kd mn z) r + 1))) = wA (wm (wN (rN kd mn) z) (wN (rN kd mn) (z + 1)) r) from wm_s (f := wN (rN kd mn) z) (g := wN (rN kd mn) (z + 1))] at hP hD
                            have hP : va_P E.1 vwCl [ob m0 7 [.int lf, .int tr, .ref z0, .ref z1, .ref z2, .int (nI n), .ref y0, .ref y1, .ref y2, .int at_, .int rwi, .ref y3, .ref y4, .int sl, .int cr, .int gr, .ref y5, .ref y6, .int (nI rc), .ref x0, .ref x1, .ref x2, .ref x3], ar E y0 6 kd, ar E y1 6 mn, ar E x3 109 (wA (wm (wN (rN kd mn) z) (wN (rN kd mn) (z + 1)) r))] H := hP
                            have hD : va_D A [ob m0 7 [.int lf, .int tr, .ref z0, .ref z1, .ref z2, .int (nI n), .ref y0, .ref y1, .ref y2, .int at_, .int rwi, .ref y3, .ref y4, .int sl, .int cr, .int gr, .ref y5, .ref y6, .int (nI rc), .ref x0, .ref x1, .ref x2, .ref x3], ar E y0 6 kd, ar E y1 6 mn, ar E x3 109 (wA (wm (wN (rN kd mn) z) (wN (rN kd mn) (z + 1)) r))] := hD
                            refine lv_iinc (v := (nI r) - 1) (lv' := [(2, .int ((nI r) - 1)), (4, .int (nI (min (rN kd mn z) r + 1))), (3, .int (nI (wnS (wN (rN kd mn) z) r (min (rN kd mn z) r + 1)))), (1, .int (nI z)), (0, .ref m0)]) hx hb dX7_findWays_92 hl (k := 2) rfl (m1_sub _) (by decide) rfl (fun ls hl => ?_)
                            refine lv_goto (tgt := 42) hx hb dX7_findWays_95 (by decide) ?_
                            exact ih42 r (by omega) (by omega) _ _ hP hD hS ls (lv_sub hl [0, 3, 4] rfl)
                          ·
                            refine lv_iload_n hx hb dX7_findWays_67 rfl (lv_at hl 1 rfl) ?_
                            refine lv_aload_n hx hb dX7_findWays_68 rfl (lv_at hl 4 rfl) ?_
                            refine va_get (D := E.1) (ci := 7) (v := .ref x3) (C := RX7) (T := TX7) (N := 23) hx hb hts hinX7 hown hK.1 hP 0 rfl rfl 22 (by decide) fl_49 (fun _ h9 => h9) rfl dX7_findWays_69 ?_
                            refine lv_iload_n hx hb dX7_findWays_72 rfl (lv_at hl 2 rfl) ?_
                            refine lv_iload hx hb dX7_findWays_73 (lv_at hl 0 rfl) ?_
                            refine N_isub (a := r) (b := y) hx hb rfl rfl (by omega) dX7_findWays_75 ?_
                            refine ild hx hb hK hP 3 rfl (j := r - y) rfl (by omega) (by decide) dX7_findWays_76 ?_
                            rw [wm_in (show r - y < r + 1 by omega)]
                            refine N_iadd (a := wnS (wN (rN kd mn) z) r y) (b := wN (rN kd mn) z (r - y)) hx hb rfl rfl dX7_findWays_77 ?_
                            refine lv_istore_n (lv' := [(3, .int (nI ((wnS (wN (rN kd mn) z) r y) + (wN (rN kd mn) z (r - y))))), (4, .int (nI y)), (2, .int (nI r)), (1, .int (nI z)), (0, .ref m0)]) hx hb dX7_findWays_78 rfl hl (by decide) rfl (fun ls hl => ?_)
                            refine lv_iinc (v := nI (y + 1)) (lv' := [(4, .int (nI (y + 1))), (3, .int (nI ((wnS (wN (rN kd mn) z) r y) + (wN (rN kd mn) z (r - y))))), (2, .int (nI r)), (1, .int (nI z)), (0, .ref m0)]) hx hb dX7_findWays_79 hl (k := 1) rfl (nI_inc y) (by decide) rfl (fun ls hl => ?_)
                            refine lv_goto (tgt := 51) hx hb dX7_findWays_82 (by decide) ?_
                            exact ih51 (y + 1) (by omega) (by omega) _ _ hP hD hS ls (lv_sub hl [0, 1, 2, 3, 4] rfl)
                    exact L51 _ 0 (by omega) (Nat.lt_succ_self _) _ _ hP hD hS ls (lv_sub hl [0, 1, 2, 3, 4] rfl)
              exact L42 _ 109 (by omega) (Nat.lt_succ_self _) _ _ hP hD hS ls (lv_sub hl [0, 1, 2] rfl)
        exact L31 _ 0 (by omega) (Nat.lt_succ_self _) _ _ hP hD hS ls (lv_sub hl [0, 1] rfl)
      ·
        refine lv_aload_n hx hb dX7_findWays_8 rfl (lv_at hl 1 rfl) ?_
        refine va_get (D := E.1) (ci := 7) (v := .ref x3) (C := RX7) (T := TX7) (N := 23) hx hb hts hinX7 hown hK.1 hP 0 rfl rfl 22 (by decide) fl_49 (fun _ h9 => h9) rfl dX7_findWays_9 ?_
        refine lv_iload_n hx hb dX7_findWays_12 rfl (lv_at hl 0 rfl) ?_
        refine lv_iload_n hx hb dX7_findWays_13 rfl (lv_at hl 0 rfl) ?_
        refine ifN_ne (tgt := 21) (a := k) hx hb rfl (by omega) dX7_findWays_14 (by decide) (fun c_7 => ?_) (fun c_7 => ?_)
        ·
          refine lv_iconst (v := 0) hx hb dX7_findWays_21 (by decide) ?_
          have ez : (0 : Int32) = wA (wN (rN kd mn) 0) k := by show _ = nI (if k = 0 then 1 else 0); rw [if_neg (by omega)]; rfl
          refine ist hx hb hK hP hD hS 3 rfl (j := k) rfl (by omega) (by decide) dX7_findWays_22 (fun H locs hP hD hS => ?_)
          have hP : va_P E.1 vwCl [ob m0 7 [.int lf, .int tr, .ref z0, .ref z1, .ref z2, .int (nI n), .ref y0, .ref y1, .ref y2, .int at_, .int rwi, .ref y3, .ref y4, .int sl, .int cr, .int gr, .ref y5, .ref y6, .int (nI rc), .ref x0, .ref x1, .ref x2, .ref x3], ar E y0 6 kd, ar E y1 6 mn, ar E x3 109 (upd (fil (wA (wN (rN kd mn) 0)) wv k) k 0)] H := hP
          have hD : va_D A [ob m0 7 [.int lf, .int tr, .ref z0, .ref z1, .ref z2, .int (nI n), .ref y0, .ref y1, .ref y2, .int at_, .int rwi, .ref y3, .ref y4, .int sl, .int cr, .int gr, .ref y5, .ref y6, .int (nI rc), .ref x0, .ref x1, .ref x2, .ref x3], ar E y0 6 kd, ar E y1 6 mn, ar E x3 109 (upd (fil (wA (wN (rN kd mn) 0)) wv k) k 0)] := hD
          rw [ez, show upd (fil (wA (wN (rN kd mn) 0)) wv k) k (wA (wN (rN kd mn) 0) k) = fil (wA (wN (rN kd mn) 0)) wv (k + 1) from fil_s _ _ _] at hP hD
          have hP : va_P E.1 vwCl [ob m0 7 [.int lf, .int tr, .ref z0, .ref z1, .ref z2, .int (nI n), .ref y0, .ref y1, .ref y2, .int at_, .int rwi, .ref y3, .ref y4, .int sl, .int cr, .int gr, .ref y5, .ref y6, .int (nI rc), .ref x0, .ref x1, .ref x2, .ref x3], ar E y0 6 kd, ar E y1 6 mn, ar E x3 109 (fil (wA (wN (rN kd mn) 0)) wv (k + 1))] H := hP
          have hD : va_D A [ob m0 7 [.int lf, .int tr, .ref z0, .ref z1, .ref z2, .int (nI n), .ref y0, .ref y1, .ref y2, .int at_, .int rwi, .ref y3, .ref y4, .int sl, .int cr, .int gr, .ref y5, .ref y6, .int (nI rc), .ref x0, .ref x1, .ref x2, .ref x3], ar E y0 6 kd, ar E y1 6 mn, ar E x3 109 (fil (wA (wN (rN kd mn) 0)) wv (k + 1))] := hD
          refine lv_iinc (v := nI (k + 1)) (lv' := [(1, .int (nI (k + 1))), (0, .ref m0)]) hx hb dX7_findWays_23 hl (k := 0) rfl (nI_inc k) (by decide) rfl (fun ls hl => ?_)
          refine lv_goto (tgt := 2) hx hb dX7_findWays_26 (by decide) ?_
          exact ih2 (k + 1) (by omega) (by omega) _ _ hP hD hS ls (lv_sub hl [0, 1] rfl)
        ·
          refine lv_iconst (v := 1) hx hb dX7_findWays_17 (by decide) ?_
          refine lv_goto (tgt := 22) hx hb dX7_findWays_18 (by decide) ?_
          have ez : (1 : Int32) = wA (wN (rN kd mn) 0) k := by show _ = nI (if k = 0 then 1 else 0); rw [if_pos (by omega)]; rfl
          refine ist hx hb hK hP hD hS 3 rfl (j := k) rfl (by omega) (by decide) dX7_findWays_22 (fun H locs hP hD hS => ?_)
          have hP : va_P E.1 vwCl [ob m0 7 [.int lf, .int tr, .ref z0, .ref z1, .ref z2, .int (nI n), .ref y0, .ref y1, .ref y2, .int at_, .int rwi, .ref y3, .ref y4, .int sl, .int cr, .int gr, .ref y5, .ref y6, .int (nI rc), .ref x0, .ref x1, .ref x2, .ref x3], ar E y0 6 kd, ar E y1 6 mn, ar E x3 109 (upd (fil (wA (wN (rN kd mn) 0)) wv k) k 1)] H := hP
          have hD : va_D A [ob m0 7 [.int lf, .int tr, .ref z0, .ref z1, .ref z2, .int (nI n), .ref y0, .ref y1, .ref y2, .int at_, .int rwi, .ref y3, .ref y4, .int sl, .int cr, .int gr, .ref y5, .ref y6, .int (nI rc), .ref x0, .ref x1, .ref x2, .ref x3], ar E y0 6 kd, ar E y1 6 mn, ar E x3 109 (upd (fil (wA (wN (rN kd mn) 0)) wv k) k 1)] := hD
          rw [ez, show upd (fil (wA (wN (rN kd mn) 0)) wv k) k (wA (wN (rN kd mn) 0) k) = fil (wA (wN (rN kd mn) 0)) wv (k + 1) from fil_s _ _ _] at hP hD
          have hP : va_P E.1 vwCl [ob m0 7 [.int lf, .int tr, .ref z0, .ref z1, .ref z2, .int (nI n), .ref y0, .ref y1, .ref y2, .int at_, .int rwi, .ref y3, .ref y4, .int sl, .int cr, .int gr, .ref y5, .ref y6, .int (nI rc), .ref x0, .ref x1, .ref x2, .ref x3], ar E y0 6 kd, ar E y1 6 mn, ar E x3 109 (fil (wA (wN (rN kd mn) 0)) wv (k + 1))] H := hP
          have hD : va_D A [ob m0 7 [.int lf, .int tr, .ref z0, .ref z1, .ref z2, .int (nI n), .ref y0, .ref y1, .ref y2, .int at_, .int rwi, .ref y3, .ref y4, .int sl, .int cr, .int gr, .ref y5, .ref y6, .int (nI rc), .ref x0, .ref x1, .ref x2, .ref x3], ar E y0 6 kd, ar E y1 6 mn, ar E x3 109 (fil (wA (wN (rN kd mn) 0)) wv (k + 1))] := hD
          refine lv_iinc (v := nI (k + 1)) (lv' := [(1, .int (nI (k + 1))), (0, .ref m0)]) hx hb dX7_findWays_23 hl (k := 0) rfl (nI_inc k) (by decide) rfl (fun ls hl => ?_)
          refine lv_goto (tgt := 2) hx hb dX7_findWays_26 (by decide) ?_
          exact ih2 (k + 1) (by omega) (by omega) _ _ hP hD hS ls (lv_sub hl [0, 1] rfl)
  exact L2 _ 0 (by omega) (Nat.lt_succ_self _) _ _ hP hD hS ls (lv_sub hl [0, 1] rfl)
set_option maxHeartbeats 4000000 in
set_option maxRecDepth 100000 in
theorem c_X7_odds (l : Launch) (E : gE) (sz : Nat) (m0 : Nat) (lf : Int32) (tr : Int32) (z0 : Nat) (z1 : Nat) (z2 : Nat) (n : Nat) (y0 : Nat) (y1 : Nat) (y2 : Nat) (at_ : Int32) (rwi : Int32) (y3 : Nat) (y4 : Nat) (sl : Int32) (cr : Int32) (gr : Int32) (y5 : Nat) (y6 : Nat) (rc : Nat) (x0 : Nat) (x1 : Nat) (x2 : Nat) (x3 : Nat) (kd : Nat → Int32) (mn : Nat → Int32) (wv : Nat → Int32) (x : Int32) (k : Int32) (hFR : FR n kd mn) : Met l yX7_odds wsX7_odds ({ frames := 3, cells := 0, slots := 0, locals := 66 }) (PW E [.ref m0, .int x, .int k] [ob m0 7 [.int lf, .int tr, .ref z0, .ref z1, .ref z2, .int (nI n), .ref y0, .ref y1, .ref y2, .int at_, .int rwi, .ref y3, .ref y4, .int sl, .int cr, .int gr, .ref y5, .ref y6, .int (nI rc), .ref x0, .ref x1, .ref x2, .ref x3], ar E y0 6 kd, ar E y1 6 mn, ar E x3 109 wv] sz) (QWl E (fun r _ => r = odM n kd mn x k) (fun (u : Nat → Int32) => [ob m0 7 [.int lf, .int tr, .ref z0, .ref z1, .ref z2, .int (nI n), .ref y0, .ref y1, .ref y2, .int at_, .int rwi, .ref y3, .ref y4, .int sl, .int cr, .int gr, .ref y5, .ref y6, .int (nI rc), .ref x0, .ref x1, .ref x2, .ref x3], ar E y0 6 kd, ar E y1 6 mn, ar E x3 109 u]) (va_A [ob m0 7 [.int lf, .int tr, .ref z0, .ref z1, .ref z2, .int (nI n), .ref y0, .ref y1, .ref y2, .int at_, .int rwi, .ref y3, .ref y4, .int sl, .int cr, .int gr, .ref y5, .ref y6, .int (nI rc), .ref x0, .ref x1, .ref x2, .ref x3], ar E y0 6 kd, ar E y1 6 mn, ar E x3 109 wv] sz)) 0 0 (va_A [ob m0 7 [.int lf, .int tr, .ref z0, .ref z1, .ref z2, .int (nI n), .ref y0, .ref y1, .ref y2, .int at_, .int rwi, .ref y3, .ref y4, .int sl, .int cr, .int gr, .ref y5, .ref y6, .int (nI rc), .ref x0, .ref x1, .ref x2, .ref x3], ar E y0 6 kd, ar E y1 6 mn, ar E x3 109 wv] sz) := by
  refine mkWl (cc := cX7_odds) (maxL := 3) (by decide) rfl (Nat.le_of_ble_eq_true rfl) ?_
  intro p e s m args below meth c QQ A hx hb hml hown hmn hts hK hA hP hD hS hret ls hl
  have hown : s.vm.findClass RX7 = some m.cls := hown
  have hl : lv_has ls 3 [(0, .ref m0), (1, .int x), (2, .int k)] := hl
  have hinX7 : ∀ w ∈ wsX70, w ∈ wsX7_odds := by decide +kernel
  have fl_49 := hts (.fieldLink RX7 49 "GuardAbacusModel" "ways" "[I") (by decide +kernel)
  have fl_62 := hts (.fieldLink RX7 62 "GuardAbacusModel" "wires" "I") (by decide +kernel)
  have hn := hFR.1
  refine lv_iload_n hx hb dX7_odds_0 rfl (lv_at hl 1 rfl) ?_
  refine lv_iconst (v := 0) hx hb dX7_odds_1 (by decide) ?_
  refine lv_bipush (v := 108) hx hb dX7_odds_2 (by decide) ?_
  refine crS (As := [.int x, .int 0, .int 108]) (rest := []) ⟨hx, hb, hml, hown, hts⟩ (c_X7_within l E x 0 108) (va_cwS 3 hts gX7_odds_X7_within rfl rfl rfl (by decide +kernel) ⟨Nat.le_of_ble_eq_true rfl, Nat.le_of_ble_eq_true rfl⟩) hK hP [] rfl rfl hl.1 rfl (catLe (Nat.le_of_ble_eq_true rfl)) dX7_odds_4 ⟨Nat.zero_le _, Nat.zero_le _⟩ (fun r_1 hr_1 => ?_)
  subst hr_1
  refine ifB_eq (P := wiP x 0 108) (tgt := 26) hx hb dX7_odds_7 (by decide) (fun c_2 => ?_) (fun c_2 => ?_)
  ·
    refine lv_ldc2 hx hb hown (hts (.constantLong RX7 56 (-9223372036854775808)) (by decide +kernel)) dX7_odds_26 ?_
    exact hret _ _ _ _ _ wv dX7_odds_29 hS hP (by rw [odM, if_pos (fun h => c_2 ⟨h.1, Int32.not_lt.mpr h.2.1⟩)])
  ·
    refine lv_iload_n hx hb dX7_odds_10 rfl (lv_at hl 2 rfl) ?_
    refine lv_iconst (v := 0) hx hb dX7_odds_11 (by decide) ?_
    refine lv_iconst (v := 1) hx hb dX7_odds_12 (by decide) ?_
    refine crS (As := [.int k, .int 0, .int 1]) (rest := []) ⟨hx, hb, hml, hown, hts⟩ (c_X7_within l E k 0 1) (va_cwS 3 hts gX7_odds_X7_within rfl rfl rfl (by decide +kernel) ⟨Nat.le_of_ble_eq_true rfl, Nat.le_of_ble_eq_true rfl⟩) hK hP [] rfl rfl hl.1 rfl (catLe (Nat.le_of_ble_eq_true rfl)) dX7_odds_13 ⟨Nat.zero_le _, Nat.zero_le _⟩ (fun r_3 hr_3 => ?_)
    subst hr_3
    refine ifB_eq (P := wiP k 0 1) (tgt := 26) hx hb dX7_odds_16 (by decide) (fun c_4 => ?_) (fun c_4 => ?_)
    ·
      refine lv_ldc2 hx hb hown (hts (.constantLong RX7 56 (-9223372036854775808)) (by decide +kernel)) dX7_odds_26 ?_
      exact hret _ _ _ _ _ wv dX7_odds_29 hS hP (by rw [odM, if_pos (fun h => c_4 ⟨h.2.2.1, Int32.not_lt.mpr h.2.2.2⟩)])
    ·
      refine lv_aload_n hx hb dX7_odds_19 rfl (lv_at hl 0 rfl) ?_
      refine va_get (D := E.1) (ci := 7) (v := .int (nI n)) (C := RX7) (T := TX7) (N := 23) hx hb hts hinX7 hown hK.1 hP 0 rfl rfl 5 (by decide) fl_62 (fun _ h9 => h9) rfl dX7_odds_20 ?_
      refine ifN_ne (tgt := 30) (a := n) hx hb rfl (by omega) dX7_odds_23 (by decide) (fun c_5 => ?_) (fun c_5 => ?_)
      ·
        have hod : odT x k := ⟨c_2.1, Int32.not_lt.mp c_2.2, c_4.1, Int32.not_lt.mp c_4.2⟩
        obtain ⟨y, hy, rfl⟩ := le_nat (n := 108) (M := 108) rfl c_2.1 (Int32.not_lt.mp c_2.2)
        have hixy : ix (nI y) = y := ix_nI (by omega)
        obtain ⟨d1, d2, d3⟩ := wP_of hFR n (Nat.le_refl _)
        have d4 := pow19 hn
        have w4 := wN_le (fun w hw => (rN_of hFR hw).2.1) n (Nat.le_refl _) y
        refine lv_aload_n hx hb dX7_odds_30 rfl (lv_at hl 0 rfl) ?_
        refine cwVv (As := []) (rest := []) ⟨hx, hb, hml, hown, hts⟩ (c_X7_findWays l E _ m0 lf tr z0 z1 z2 n y0 y1 y2 at_ rwi y3 y4 sl cr gr y5 y6 rc x0 x1 x2 x3 kd mn wv (by first | assumption | omega)) (cwV 0 hts gX7_odds_X7_findWays rfl rfl rfl (by decide +kernel) ⟨Nat.le_of_ble_eq_true rfl, Nat.le_of_ble_eq_true rfl⟩) hK hP hD hS hA [0, 1, 2, 3] (by decide) rfl [m0, y0, y1, x3] (fun _ => rfl) rfl 0 rfl rfl rfl rfl hl.1 rfl (catLe (Nat.le_of_ble_eq_true rfl)) dX7_odds_31 ⟨Nat.zero_le _, Nat.zero_le _⟩ (fun u_7 H locs hwr_6 hP hD hS => ?_)
        have hP : va_P E.1 vwCl [ob m0 7 [.int lf, .int tr, .ref z0, .ref z1, .ref z2, .int (nI n), .ref y0, .ref y1, .ref y2, .int at_, .int rwi, .ref y3, .ref y4, .int sl, .int cr, .int gr, .ref y5, .ref y6, .int (nI rc), .ref x0, .ref x1, .ref x2, .ref x3], ar E y0 6 kd, ar E y1 6 mn, ar E x3 109 (wA (wN (rN kd mn) n))] H := hP
        have hD : va_D A [ob m0 7 [.int lf, .int tr, .ref z0, .ref z1, .ref z2, .int (nI n), .ref y0, .ref y1, .ref y2, .int at_, .int rwi, .ref y3, .ref y4, .int sl, .int cr, .int gr, .ref y5, .ref y6, .int (nI rc), .ref x0, .ref x1, .ref x2, .ref x3], ar E y0 6 kd, ar E y1 6 mn, ar E x3 109 (wA (wN (rN kd mn) n))] := hD
        refine lv_aload_n hx hb dX7_odds_34 rfl (lv_at hl 0 rfl) ?_
        refine va_get (D := E.1) (ci := 7) (v := .ref x3) (C := RX7) (T := TX7) (N := 23) hx hb hts hinX7 hown hK.1 hP 0 rfl rfl 22 (by decide) fl_49 (fun _ h9 => h9) rfl dX7_odds_35 ?_
        refine lv_iload_n hx hb dX7_odds_38 rfl (lv_at hl 1 rfl) ?_
        refine ild hx hb hK hP 3 rfl (j := y) rfl (by omega) (by decide) dX7_odds_39 ?_
        refine lv_i2l hx hb dX7_odds_40 rfl ?_
        rw [show (wA (wN (rN kd mn) n) y).toInt64 = lN (wN (rN kd mn) n y) from nI_l (by omega)]
        refine lv_aload_n hx hb dX7_odds_41 rfl (lv_at hl 0 rfl) ?_
        refine lv_aload_n hx hb dX7_odds_42 rfl (lv_at hl 0 rfl) ?_
        refine va_get (D := E.1) (ci := 7) (v := .int (nI n)) (C := RX7) (T := TX7) (N := 23) hx hb hts hinX7 hown hK.1 hP 0 rfl rfl 5 (by decide) fl_62 (fun _ h9 => h9) rfl dX7_odds_43 ?_
        refine crV (As := [.int (nI n)]) (rest := [.long (lN (wN (rN kd mn) n y))]) ⟨hx, hb, hml, hown, hts⟩ (c_X7_worthOf l E m0 lf tr z0 z1 z2 n y0 y1 y2 at_ rwi y3 y4 sl cr gr y5 y6 rc x0 x1 x2 x3 kd mn n (by first | assumption | omega) (Nat.le_refl _)) (cwV 1 hts gX7_odds_X7_worthOf rfl rfl rfl (by decide +kernel) ⟨Nat.le_of_ble_eq_true rfl, Nat.le_of_ble_eq_true rfl⟩) hK hP [0, 1, 2] rfl 0 rfl rfl rfl rfl hl.1 rfl (catLe (Nat.le_of_ble_eq_true rfl)) dX7_odds_46 ⟨Nat.zero_le _, Nat.zero_le _⟩ (fun r_8 hr_8 => ?_)
        subst hr_8
        refine lv_i2l hx hb dX7_odds_49 rfl ?_
        rw [d3, nI_l (by omega)]
        refine lv_iload_n hx hb dX7_odds_50 rfl (lv_at hl 2 rfl) ?_
        refine crSl (As := [.long (lN (wN (rN kd mn) n y)), .long (lN (wP (rN kd mn) n)), .int k]) (rest := []) ⟨hx, hb, hml, hown, hts⟩ (c_X7_inLeastTerms l E (wN (rN kd mn) n y) (wP (rN kd mn) n) k (by omega) (by omega) d1) (va_cwS 3 hts gX7_odds_X7_inLeastTerms rfl rfl rfl (by decide +kernel) ⟨Nat.le_of_ble_eq_true rfl, Nat.le_of_ble_eq_true rfl⟩) hK hP [] rfl rfl hl.1 rfl (catLe (Nat.le_of_ble_eq_true rfl)) dX7_odds_51 ⟨Nat.zero_le _, Nat.zero_le _⟩ (fun r_9 hr_9 => ?_)
        subst hr_9
        exact hret _ _ _ _ _ (wA (wN (rN kd mn) n)) dX7_odds_54 hS hP (by rw [odM, if_neg (not_not_intro hod), if_neg (show ¬ n = 0 by omega), hixy])
      ·
        refine lv_ldc2 hx hb hown (hts (.constantLong RX7 56 (-9223372036854775808)) (by decide +kernel)) dX7_odds_26 ?_
        exact hret _ _ _ _ _ wv dX7_odds_29 hS hP (by rw [odM, if_neg (not_not_intro ⟨c_2.1, Int32.not_lt.mp c_2.2, c_4.1, Int32.not_lt.mp c_4.2⟩), if_pos (by omega)])
