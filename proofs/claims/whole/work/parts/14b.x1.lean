set_option maxHeartbeats 4000000 in
set_option maxRecDepth 100000 in
theorem c_X1_sumOfSet (l : Launch) (E : gE) (hs : Nat) (qs : Nat) (th : Int32) (la : Int32) (ln : Nat) (ce : Nat → Int32) (i : Nat) (nn : Nat) (st : Nat) (h60 : ln ≤ 60) (hin : i + nn ≤ ln) (h6 : nn ≤ 6) (hst : st < 64) : Met l yX1_sumOfSet wsX1_sumOfSet ({ frames := 1, cells := 0, slots := 0, locals := 21 }) (PR E [.ref hs, .int (nI i), .int (nI nn), .int (nI st)] [ob hs 3 [.ref qs, .int th, .int la, .int (nI ln)], ar E qs 60 ce]) (vp_Si (fun r => r = ssF (fun q => ce (i + q)) st nn)) 0 0 (fun _ => False) := by
  refine mkRi (cc := cX1_sumOfSet) (maxL := 6) (by decide) rfl (Nat.le_of_ble_eq_true rfl) ?_
  intro p e s m args below meth c QQ hx hb hml hown hmn hts hK hP hret ls hl
  have hown : s.vm.findClass RX1 = some m.cls := hown
  have hl : lv_has ls 6 [(0, .ref hs), (1, .int (nI i)), (2, .int (nI nn)), (3, .int (nI st))] := hl
  refine lv_iconst (v := 0) hx hb dX1_sumOfSet_0 (by decide) ?_
  refine lv_istore (lv' := [(4, .int 0), (0, .ref hs), (1, .int (nI i)), (2, .int (nI nn)), (3, .int (nI st))]) hx hb dX1_sumOfSet_1 hl (by decide) rfl (fun ls hl => ?_)
  refine lv_iconst (v := 0) hx hb dX1_sumOfSet_3 (by decide) ?_
  refine lv_istore (lv' := [(5, .int 0), (4, .int 0), (0, .ref hs), (1, .int (nI i)), (2, .int (nI nn)), (3, .int (nI st))]) hx hb dX1_sumOfSet_4 hl (by decide) rfl (fun ls hl => ?_)
  have L6 : ∀ (fuel : Nat) (k : Nat), (k ≤ nn) → (nn - k) < fuel → ∀ ls : Array Slot, lv_has ls 6 [(5, .int (nI k)), (4, .int (ssF (fun q => ce (i + q)) st k)), (0, .ref hs), (1, .int (nI i)), (2, .int (nI nn)), (3, .int (nI st))] → W p l e ({ frames := 1, cells := 0, slots := 0, locals := 21 }) s m args below meth c s.heap [] 0 0 QQ (F0 m 6 ls []) := by
    intro fuel
    induction fuel with
    | zero => intro k hk hf; exact absurd hf (Nat.not_lt_zero _)
    | succ fuel ih6 =>
      intro k hk hf6 ls hl
      refine lv_iload hx hb dX1_sumOfSet_6 (lv_at hl 0 rfl) ?_
      refine lv_iload_n hx hb dX1_sumOfSet_8 rfl (lv_at hl 4 rfl) ?_
      refine icmpN_ge (tgt := 45) (a := k) (b := nn) hx hb rfl rfl (by omega) (by omega) dX1_sumOfSet_9 (by decide) (fun c_1 => ?_) (fun c_1 => ?_)
      ·
        obtain rfl : nn = k := by omega
        refine lv_iload hx hb dX1_sumOfSet_45 (lv_at hl 1 rfl) ?_
        exact hret _ _ _ dX1_sumOfSet_47 rfl
      ·
        refine lv_iload hx hb dX1_sumOfSet_12 (lv_at hl 1 rfl) ?_
        refine lv_iload_n hx hb dX1_sumOfSet_14 rfl (lv_at hl 5 rfl) ?_
        refine lv_iload hx hb dX1_sumOfSet_15 (lv_at hl 0 rfl) ?_
        refine lv_ishr hx hb dX1_sumOfSet_17 ?_
        refine lv_iconst (v := 1) hx hb dX1_sumOfSet_18 (by decide) ?_
        refine lv_iand hx hb dX1_sumOfSet_19 ?_
        refine lv_iconst (v := 1) hx hb dX1_sumOfSet_20 (by decide) ?_
        refine lv_icmp_ne (tgt := 35) hx hb dX1_sumOfSet_21 (by decide) (fun c_2 => ?_) (fun c_2 => ?_)
        ·
          refine lv_iconst (v := 0) hx hb dX1_sumOfSet_35 (by decide) ?_
          rw [show (0 : Int32) = (if st.testBit k then (fun q => ce (i + q)) k else 0) from (if_neg (fun h => c_2 ((bit1 st hst k (by omega)).mpr h))).symm]
          refine lv_iadd hx hb dX1_sumOfSet_36 ?_
          refine lv_istore (lv' := [(4, .int ((ssF (fun q => ce (i + q)) st k) + (if st.testBit k then (fun q => ce (i + q)) k else 0))), (5, .int (nI k)), (0, .ref hs), (1, .int (nI i)), (2, .int (nI nn)), (3, .int (nI st))]) hx hb dX1_sumOfSet_37 hl (by decide) rfl (fun ls hl => ?_)
          refine lv_iinc (v := nI (k + 1)) (lv' := [(5, .int (nI (k + 1))), (4, .int ((ssF (fun q => ce (i + q)) st k) + (if st.testBit k then (fun q => ce (i + q)) k else 0))), (0, .ref hs), (1, .int (nI i)), (2, .int (nI nn)), (3, .int (nI st))]) hx hb dX1_sumOfSet_39 hl (k := 1) rfl (nI_inc k) (by decide) rfl (fun ls hl => ?_)
          refine lv_goto (tgt := 6) hx hb dX1_sumOfSet_42 (by decide) ?_
          exact ih6 (k + 1) (by omega) (by omega) ls (lv_sub hl [0, 1, 2, 3, 4, 5] rfl)
        ·
          refine lv_aload_n hx hb dX1_sumOfSet_24 rfl (lv_at hl 2 rfl) ?_
          refine lv_iload_n hx hb dX1_sumOfSet_25 rfl (lv_at hl 3 rfl) ?_
          refine lv_iload hx hb dX1_sumOfSet_26 (lv_at hl 0 rfl) ?_
          refine N_iadd (a := i) (b := k) hx hb rfl rfl dX1_sumOfSet_28 ?_
          refine crV (As := [.int (nI (i + k))]) (rest := [.int (ssF (fun q => ce (i + q)) st k)]) ⟨hx, hb, hml, hown, hts⟩ (c_X3_at l E hs qs th la ln ce (nI (i + k)) (i + k) (by first | assumption | omega) (by first | assumption | omega) rfl) (cwV 1 hts gX1_sumOfSet_X3_at rfl rfl rfl (by decide +kernel) ⟨Nat.le_of_ble_eq_true rfl, Nat.le_of_ble_eq_true rfl⟩) hK hP [0, 1] rfl 0 rfl rfl rfl rfl hl.1 rfl (catLe (Nat.le_of_ble_eq_true rfl)) dX1_sumOfSet_29 ⟨Nat.zero_le _, Nat.zero_le _⟩ (fun r_3 hr_3 => ?_)
          subst hr_3
          refine lv_goto (tgt := 36) hx hb dX1_sumOfSet_32 (by decide) ?_
          rw [show ce (i + k) = (if st.testBit k then (fun q => ce (i + q)) k else 0) from (if_pos ((bit1 st hst k (by omega)).mp c_2)).symm]
          refine lv_iadd hx hb dX1_sumOfSet_36 ?_
          refine lv_istore (lv' := [(4, .int ((ssF (fun q => ce (i + q)) st k) + (if st.testBit k then (fun q => ce (i + q)) k else 0))), (5, .int (nI k)), (0, .ref hs), (1, .int (nI i)), (2, .int (nI nn)), (3, .int (nI st))]) hx hb dX1_sumOfSet_37 hl (by decide) rfl (fun ls hl => ?_)
          refine lv_iinc (v := nI (k + 1)) (lv' := [(5, .int (nI (k + 1))), (4, .int ((ssF (fun q => ce (i + q)) st k) + (if st.testBit k then (fun q => ce (i + q)) k else 0))), (0, .ref hs), (1, .int (nI i)), (2, .int (nI nn)), (3, .int (nI st))]) hx hb dX1_sumOfSet_39 hl (k := 1) rfl (nI_inc k) (by decide) rfl (fun ls hl => ?_)
          refine lv_goto (tgt := 6) hx hb dX1_sumOfSet_42 (by decide) ?_
          exact ih6 (k + 1) (by omega) (by omega) ls (lv_sub hl [0, 1, 2, 3, 4, 5] rfl)
  exact L6 _ 0 (by omega) (Nat.lt_succ_self _) ls (lv_sub hl [0, 1, 2, 3, 4, 5] rfl)
set_option maxHeartbeats 4000000 in
set_option maxRecDepth 100000 in
theorem c_X1_slidInAll (l : Launch) (E : gE) (ho : Nat) (o0 : Nat) (o1 : Nat) (o2 : Nat) (sb : Nat → Int32) : Met l yX1_slidInAll wsX1_slidInAll ({ frames := 0, cells := 0, slots := 0, locals := 0 }) (PR E [.ref ho] [ob ho 1 [.ref o0, .ref o1, .ref o2], ar E o2 64 sb]) (vp_Si (fun r => r = sb 0)) 0 0 (fun _ => False) := by
  refine mkRi (cc := cX1_slidInAll) (maxL := 1) (by decide) rfl (Nat.le_of_ble_eq_true rfl) ?_
  intro p e s m args below meth c QQ hx hb hml hown hmn hts hK hP hret ls hl
  have hown : s.vm.findClass RX1 = some m.cls := hown
  have hl : lv_has ls 1 [(0, .ref ho)] := hl
  have hinX1 : ∀ w ∈ wsX10, w ∈ wsX1_slidInAll := by decide +kernel
  have fl_18 := hts (.fieldLink RX1 18 "GuardAbacus$Order" "slidBehind" "[I") (by decide +kernel)
  refine lv_aload_n hx hb dX1_slidInAll_0 rfl (lv_at hl 0 rfl) ?_
  refine va_get (D := E.1) (ci := 1) (v := .ref o2) (C := RX1) (T := TX1) (N := 3) hx hb hts hinX1 hown hK.1 hP 0 rfl rfl 2 (by decide) fl_18 (fun _ h9 => h9) rfl dX1_slidInAll_1 ?_
  refine lv_iconst (v := 0) hx hb dX1_slidInAll_4 (by decide) ?_
  refine ild hx hb hK hP 1 rfl (j := 0) rfl (by omega) (by decide) dX1_slidInAll_5 ?_
  exact hret _ _ _ dX1_slidInAll_6 rfl
set_option maxHeartbeats 4000000 in
set_option maxRecDepth 100000 in
theorem c_X1_placeAt (l : Launch) (E : gE) (ho : Nat) (o0 : Nat) (o1 : Nat) (o2 : Nat) (nx : Nat → Int32) (k : Nat) (hk5 : k ≤ 5) : Met l yX1_placeAt wsX1_placeAt ({ frames := 0, cells := 0, slots := 0, locals := 0 }) (PR E [.ref ho, .int (nI k)] [ob ho 1 [.ref o0, .ref o1, .ref o2], ar E o1 64 nx]) (vp_Si (fun r => r = (pA nx k).2)) 0 0 (fun _ => False) := by
  refine mkRi (cc := cX1_placeAt) (maxL := 5) (by decide) rfl (Nat.le_of_ble_eq_true rfl) ?_
  intro p e s m args below meth c QQ hx hb hml hown hmn hts hK hP hret ls hl
  have hown : s.vm.findClass RX1 = some m.cls := hown
  have hl : lv_has ls 5 [(0, .ref ho), (1, .int (nI k))] := hl
  have hinX1 : ∀ w ∈ wsX10, w ∈ wsX1_placeAt := by decide +kernel
  have fl_15 := hts (.fieldLink RX1 15 "GuardAbacus$Order" "nextOf" "[I") (by decide +kernel)
  refine lv_iconst (v := 0) hx hb dX1_placeAt_0 (by decide) ?_
  refine lv_istore_n (lv' := [(2, .int 0), (0, .ref ho), (1, .int (nI k))]) hx hb dX1_placeAt_1 rfl hl (by decide) rfl (fun ls hl => ?_)
  refine lv_aload_n hx hb dX1_placeAt_2 rfl (lv_at hl 1 rfl) ?_
  refine va_get (D := E.1) (ci := 1) (v := .ref o1) (C := RX1) (T := TX1) (N := 3) hx hb hts hinX1 hown hK.1 hP 0 rfl rfl 1 (by decide) fl_15 (fun _ h9 => h9) rfl dX1_placeAt_3 ?_
  refine lv_iload_n hx hb dX1_placeAt_6 rfl (lv_at hl 0 rfl) ?_
  refine ild hx hb hK hP 1 rfl (j := 0) rfl (by decide) (by decide) dX1_placeAt_7 ?_
  refine lv_istore_n (lv' := [(3, .int (nx 0)), (2, .int 0), (0, .ref ho), (1, .int (nI k))]) hx hb dX1_placeAt_8 rfl hl (by decide) rfl (fun ls hl => ?_)
  refine lv_iconst (v := 0) hx hb dX1_placeAt_9 (by decide) ?_
  refine lv_istore (lv' := [(4, .int 0), (3, .int (nx 0)), (2, .int 0), (0, .ref ho), (1, .int (nI k))]) hx hb dX1_placeAt_10 hl (by decide) rfl (fun ls hl => ?_)
  have L12 : ∀ (fuel : Nat) (z : Nat), (z ≤ k) → (k - z) < fuel → ∀ ls : Array Slot, lv_has ls 5 [(4, .int (nI z)), (3, .int ((pA nx z).2)), (2, .int (nI ((pA nx z).1))), (0, .ref ho), (1, .int (nI k))] → W p l e ({ frames := 0, cells := 0, slots := 0, locals := 0 }) s m args below meth c s.heap [] 0 0 QQ (F0 m 12 ls []) := by
    intro fuel
    induction fuel with
    | zero => intro z hz hf; exact absurd hf (Nat.not_lt_zero _)
    | succ fuel ih12 =>
      intro z hz hf12 ls hl
      refine lv_iload hx hb dX1_placeAt_12 (lv_at hl 0 rfl) ?_
      refine lv_iload_n hx hb dX1_placeAt_14 rfl (lv_at hl 4 rfl) ?_
      refine icmpN_ge (tgt := 47) (a := z) (b := k) hx hb rfl rfl (by omega) (by omega) dX1_placeAt_15 (by decide) (fun c_1 => ?_) (fun c_1 => ?_)
      ·
        obtain rfl : k = z := by omega
        refine lv_iload_n hx hb dX1_placeAt_47 rfl (lv_at hl 1 rfl) ?_
        exact hret _ _ _ dX1_placeAt_48 rfl
      ·
        refine lv_iload_n hx hb dX1_placeAt_18 rfl (lv_at hl 1 rfl) ?_
        refine lv_if_lt (tgt := 47) hx hb dX1_placeAt_19 (by decide) (fun c_2 => ?_) (fun c_2 => ?_)
        ·
          have c_2b := Int32.not_le.mpr c_2
          refine lv_iload_n hx hb dX1_placeAt_47 rfl (lv_at hl 1 rfl) ?_
          exact hret _ _ _ dX1_placeAt_48 (by rw [pA_stop (Or.inl c_2) k (by omega)])
        ·
          have c_2b := Int32.not_lt.mp c_2
          refine lv_iload_n hx hb dX1_placeAt_22 rfl (lv_at hl 1 rfl) ?_
          refine lv_bipush (v := 6) hx hb dX1_placeAt_23 (by decide) ?_
          refine lv_icmp_ge (tgt := 47) hx hb dX1_placeAt_25 (by decide) (fun c_3 => ?_) (fun c_3 => ?_)
          ·
            have c_3b := Int32.not_lt.mpr c_3
            refine lv_iload_n hx hb dX1_placeAt_47 rfl (lv_at hl 1 rfl) ?_
            exact hret _ _ _ dX1_placeAt_48 (by rw [pA_stop (Or.inr c_3) k (by omega)])
          ·
            have c_3b := Int32.not_le.mp c_3
            refine lv_iload_n hx hb dX1_placeAt_28 rfl (lv_at hl 2 rfl) ?_
            refine lv_iconst (v := 1) hx hb dX1_placeAt_29 (by decide) ?_
            refine lv_iload_n hx hb dX1_placeAt_30 rfl (lv_at hl 1 rfl) ?_
            obtain ⟨q, hq, eq⟩ := in6 c_2 c_3
            rw [eq]
            refine lv_ishl hx hb dX1_placeAt_31 ?_
            rw [shl1 q (by omega)]
            have h64 := or_lt _ (pA_lt nx z) q hq
            refine N_ior (a := (pA nx z).1) (b := 2 ^ q) hx hb rfl rfl dX1_placeAt_32 ?_
            refine lv_istore_n (lv' := [(2, .int (nI (((pA nx z).1) ||| (2 ^ q)))), (4, .int (nI z)), (3, .int ((pA nx z).2)), (0, .ref ho), (1, .int (nI k))]) hx hb dX1_placeAt_33 rfl hl (by decide) rfl (fun ls hl => ?_)
            refine lv_aload_n hx hb dX1_placeAt_34 rfl (lv_at hl 3 rfl) ?_
            refine va_get (D := E.1) (ci := 1) (v := .ref o1) (C := RX1) (T := TX1) (N := 3) hx hb hts hinX1 hown hK.1 hP 0 rfl rfl 1 (by decide) fl_15 (fun _ h9 => h9) rfl dX1_placeAt_35 ?_
            refine lv_iload_n hx hb dX1_placeAt_38 rfl (lv_at hl 0 rfl) ?_
            refine ild hx hb hK hP 1 rfl (j := ((pA nx z).1) ||| (2 ^ q)) rfl (by omega) (by decide) dX1_placeAt_39 ?_
            refine lv_istore_n (lv' := [(3, .int (nx (((pA nx z).1) ||| (2 ^ q)))), (2, .int (nI (((pA nx z).1) ||| (2 ^ q)))), (4, .int (nI z)), (0, .ref ho), (1, .int (nI k))]) hx hb dX1_placeAt_40 rfl hl (by decide) rfl (fun ls hl => ?_)
            refine lv_iinc (v := nI (z + 1)) (lv' := [(4, .int (nI (z + 1))), (3, .int (nx (((pA nx z).1) ||| (2 ^ q)))), (2, .int (nI (((pA nx z).1) ||| (2 ^ q)))), (0, .ref ho), (1, .int (nI k))]) hx hb dX1_placeAt_41 hl (k := 2) rfl (nI_inc z) (by decide) rfl (fun ls hl => ?_)
            refine lv_goto (tgt := 12) hx hb dX1_placeAt_44 (by decide) ?_
            have eC : pA nx (z + 1) = ((pA nx z).1 ||| 2 ^ q, nx ((pA nx z).1 ||| 2 ^ q)) := by
              show pS nx (pA nx z) = _
              rw [pS, if_neg (fun h => h.elim c_2 c_3), eq, ix_nI (by omega)]
            have hl : lv_has ls 5 [(4, .int (nI (z + 1))), (3, .int ((pA nx (z + 1)).2)), (2, .int (nI ((pA nx (z + 1)).1))), (0, .ref ho), (1, .int (nI k))] := by rw [eC]; exact lv_sub hl [0, 1, 2, 3, 4] rfl
            exact ih12 (z + 1) (by omega) (by omega) ls (lv_sub hl [0, 1, 2, 3, 4] rfl)
  exact L12 _ 0 (by omega) (Nat.lt_succ_self _) ls (lv_sub hl [0, 1, 2, 3, 4] rfl)
set_option maxHeartbeats 4000000 in
set_option maxRecDepth 100000 in
theorem c_X1_chooseNext (l : Launch) (E : gE) (sz : Nat) (ho : Nat) (o0 : Nat) (o1 : Nat) (o2 : Nat) (sm : Nat → Int32) (nx : Nat → Int32) (sb : Nat → Int32) (h0 : Nat) (a0 : Nat) (a1 : Nat) (a2 : Nat) (a3 : Nat) (a4 : Nat) (n : Nat) (mo : Int32) (pu : Nat → Int32) (ro : Nat → Int32) (wo : Nat → Int32) (st : Nat) (nn : Nat) (hg : WG n ro wo) (h6 : nn ≤ 6) (hst : st < 64) : Met l yX1_chooseNext wsX1_chooseNext ({ frames := 3, cells := 0, slots := 0, locals := 67 }) (PW E [.ref ho, .ref h0, .int (nI st), .int (nI nn)] [ob ho 1 [.ref o0, .ref o1, .ref o2], ar E o0 64 sm, ar E o1 64 nx, ar E o2 64 sb, ob h0 5 [.ref a0, .ref a1, .ref a2, .ref a3, .ref a4, .int (nI n), .int mo], ar E a2 6 pu, ar E a3 6 ro, ar E a4 6 wo] sz) (QWv E (fun _ => True) (fun (_ : Unit) => [ob ho 1 [.ref o0, .ref o1, .ref o2], ar E o0 64 sm, ar E o1 64 (upd nx st (cS n ro wo sm sb (numF pu wo n) st nn).1), ar E o2 64 (upd sb st (cS n ro wo sm sb (numF pu wo n) st nn).2), ob h0 5 [.ref a0, .ref a1, .ref a2, .ref a3, .ref a4, .int (nI n), .int mo], ar E a2 6 pu, ar E a3 6 ro, ar E a4 6 wo]) (va_A [ob ho 1 [.ref o0, .ref o1, .ref o2], ar E o0 64 sm, ar E o1 64 nx, ar E o2 64 sb, ob h0 5 [.ref a0, .ref a1, .ref a2, .ref a3, .ref a4, .int (nI n), .int mo], ar E a2 6 pu, ar E a3 6 ro, ar E a4 6 wo] sz)) 0 0 (va_A [ob ho 1 [.ref o0, .ref o1, .ref o2], ar E o0 64 sm, ar E o1 64 nx, ar E o2 64 sb, ob h0 5 [.ref a0, .ref a1, .ref a2, .ref a3, .ref a4, .int (nI n), .int mo], ar E a2 6 pu, ar E a3 6 ro, ar E a4 6 wo] sz) := by
  refine mkWv (cc := cX1_chooseNext) (maxL := 10) (by decide) rfl (Nat.le_of_ble_eq_true rfl) ?_
  intro p e s m args below meth c QQ A hx hb hml hown hmn hts hK hA hP hD hS hret ls hl
  have hown : s.vm.findClass RX1 = some m.cls := hown
  have hl : lv_has ls 10 [(0, .ref ho), (1, .ref h0), (2, .int (nI st)), (3, .int (nI nn))] := hl
  have hinX1 : ∀ w ∈ wsX10, w ∈ wsX1_chooseNext := by decide +kernel
  have fl_11 := hts (.fieldLink RX1 11 "GuardAbacus$Order" "sumOf" "[I") (by decide +kernel)
  have fl_15 := hts (.fieldLink RX1 15 "GuardAbacus$Order" "nextOf" "[I") (by decide +kernel)
  have fl_18 := hts (.fieldLink RX1 18 "GuardAbacus$Order" "slidBehind" "[I") (by decide +kernel)
  have hn := hg.le
  refine lv_aload_n hx hb dX1_chooseNext_0 rfl (lv_at hl 1 rfl) ?_
  refine crV (As := []) (rest := []) ⟨hx, hb, hml, hown, hts⟩ (c_X5_numberNow l E h0 a0 a1 a2 a3 a4 n mo pu wo (by first | assumption | omega)) (cwV 0 hts gX1_chooseNext_X5_numberNow rfl rfl rfl (by decide +kernel) ⟨Nat.le_of_ble_eq_true rfl, Nat.le_of_ble_eq_true rfl⟩) hK hP [4, 5, 7] rfl 0 rfl rfl rfl rfl hl.1 rfl (catLe (Nat.le_of_ble_eq_true rfl)) dX1_chooseNext_1 ⟨Nat.zero_le _, Nat.zero_le _⟩ (fun r_1 hr_1 => ?_)
  subst hr_1
  refine lv_istore (lv' := [(4, .int (numF pu wo n)), (0, .ref ho), (1, .ref h0), (2, .int (nI st)), (3, .int (nI nn))]) hx hb dX1_chooseNext_4 hl (by decide) rfl (fun ls hl => ?_)
  refine lv_bipush (v := (-9)) hx hb dX1_chooseNext_6 (by decide) ?_
  refine lv_istore (lv' := [(5, .int (-9)), (4, .int (numF pu wo n)), (0, .ref ho), (1, .ref h0), (2, .int (nI st)), (3, .int (nI nn))]) hx hb dX1_chooseNext_8 hl (by decide) rfl (fun ls hl => ?_)
  refine lv_iconst (v := 0) hx hb dX1_chooseNext_10 (by decide) ?_
  refine lv_istore (lv' := [(6, .int 0), (5, .int (-9)), (4, .int (numF pu wo n)), (0, .ref ho), (1, .ref h0), (2, .int (nI st)), (3, .int (nI nn))]) hx hb dX1_chooseNext_11 hl (by decide) rfl (fun ls hl => ?_)
  refine lv_iconst (v := 0) hx hb dX1_chooseNext_13 (by decide) ?_
  refine lv_istore (lv' := [(7, .int 0), (6, .int 0), (5, .int (-9)), (4, .int (numF pu wo n)), (0, .ref ho), (1, .ref h0), (2, .int (nI st)), (3, .int (nI nn))]) hx hb dX1_chooseNext_14 hl (by decide) rfl (fun ls hl => ?_)
  have L16 : ∀ (fuel : Nat) (k : Nat), (k ≤ nn) → (nn - k) < fuel → ∀ (H : Heap) (locs : List Loc), va_P E.1 vwCl [ob ho 1 [.ref o0, .ref o1, .ref o2], ar E o0 64 sm, ar E o1 64 nx, ar E o2 64 sb, ob h0 5 [.ref a0, .ref a1, .ref a2, .ref a3, .ref a4, .int (nI n), .int mo], ar E a2 6 pu, ar E a3 6 ro, ar E a4 6 wo] H → va_D A [ob ho 1 [.ref o0, .ref o1, .ref o2], ar E o0 64 sm, ar E o1 64 nx, ar E o2 64 sb, ob h0 5 [.ref a0, .ref a1, .ref a2, .ref a3, .ref a4, .int (nI n), .int mo], ar E a2 6 pu, ar E a3 6 ro, ar E a4 6 wo] → va_S A s.heap H locs → ∀ ls : Array Slot, lv_has ls 10 [(7, .int (nI k)), (6, .int ((cS n ro wo sm sb (numF pu wo n) st k).2)), (5, .int ((cS n ro wo sm sb (numF pu wo n) st k).1)), (4, .int (numF pu wo n)), (0, .ref ho), (1, .ref h0), (2, .int (nI st)), (3, .int (nI nn))] → W p l e ({ frames := 3, cells := 0, slots := 0, locals := 67 }) s m args below meth c H locs 0 0 QQ (F0 m 16 ls []) := by
    intro fuel
    induction fuel with
    | zero => intro k hk hf; exact absurd hf (Nat.not_lt_zero _)
    | succ fuel ih16 =>
      intro k hk hf16 H locs hP hD hS ls hl
      refine lv_iload hx hb dX1_chooseNext_16 (lv_at hl 0 rfl) ?_
      refine lv_iload_n hx hb dX1_chooseNext_18 rfl (lv_at hl 7 rfl) ?_
      refine icmpN_ge (tgt := 104) (a := k) (b := nn) hx hb rfl rfl (by omega) (by omega) dX1_chooseNext_19 (by decide) (fun c_2 => ?_) (fun c_2 => ?_)
      ·
        obtain rfl : nn = k := by omega
        refine lv_aload_n hx hb dX1_chooseNext_104 rfl (lv_at hl 4 rfl) ?_
        refine va_get (D := E.1) (ci := 1) (v := .ref o1) (C := RX1) (T := TX1) (N := 3) hx hb hts hinX1 hown hK.1 hP 0 rfl rfl 1 (by decide) fl_15 (fun _ h9 => h9) rfl dX1_chooseNext_105 ?_
        refine lv_iload_n hx hb dX1_chooseNext_108 rfl (lv_at hl 6 rfl) ?_
        refine lv_iload hx hb dX1_chooseNext_109 (lv_at hl 2 rfl) ?_
        refine ist hx hb hK hP hD hS 2 rfl (j := st) rfl (by omega) (by decide) dX1_chooseNext_111 (fun H locs hP hD hS => ?_)
        have hP : va_P E.1 vwCl [ob ho 1 [.ref o0, .ref o1, .ref o2], ar E o0 64 sm, ar E o1 64 (upd nx st ((cS n ro wo sm sb (numF pu wo n) st nn).1)), ar E o2 64 sb, ob h0 5 [.ref a0, .ref a1, .ref a2, .ref a3, .ref a4, .int (nI n), .int mo], ar E a2 6 pu, ar E a3 6 ro, ar E a4 6 wo] H := hP
        have hD : va_D A [ob ho 1 [.ref o0, .ref o1, .ref o2], ar E o0 64 sm, ar E o1 64 (upd nx st ((cS n ro wo sm sb (numF pu wo n) st nn).1)), ar E o2 64 sb, ob h0 5 [.ref a0, .ref a1, .ref a2, .ref a3, .ref a4, .int (nI n), .int mo], ar E a2 6 pu, ar E a3 6 ro, ar E a4 6 wo] := hD
        refine lv_aload_n hx hb dX1_chooseNext_112 rfl (lv_at hl 4 rfl) ?_
        refine va_get (D := E.1) (ci := 1) (v := .ref o2) (C := RX1) (T := TX1) (N := 3) hx hb hts hinX1 hown hK.1 hP 0 rfl rfl 2 (by decide) fl_18 (fun _ h9 => h9) rfl dX1_chooseNext_113 ?_
        refine lv_iload_n hx hb dX1_chooseNext_116 rfl (lv_at hl 6 rfl) ?_
        refine lv_iload hx hb dX1_chooseNext_117 (lv_at hl 1 rfl) ?_
        refine ist hx hb hK hP hD hS 3 rfl (j := st) rfl (by omega) (by decide) dX1_chooseNext_119 (fun H locs hP hD hS => ?_)
        have hP : va_P E.1 vwCl [ob ho 1 [.ref o0, .ref o1, .ref o2], ar E o0 64 sm, ar E o1 64 (upd nx st ((cS n ro wo sm sb (numF pu wo n) st nn).1)), ar E o2 64 (upd sb st ((cS n ro wo sm sb (numF pu wo n) st nn).2)), ob h0 5 [.ref a0, .ref a1, .ref a2, .ref a3, .ref a4, .int (nI n), .int mo], ar E a2 6 pu, ar E a3 6 ro, ar E a4 6 wo] H := hP
        have hD : va_D A [ob ho 1 [.ref o0, .ref o1, .ref o2], ar E o0 64 sm, ar E o1 64 (upd nx st ((cS n ro wo sm sb (numF pu wo n) st nn).1)), ar E o2 64 (upd sb st ((cS n ro wo sm sb (numF pu wo n) st nn).2)), ob h0 5 [.ref a0, .ref a1, .ref a2, .ref a3, .ref a4, .int (nI n), .int mo], ar E a2 6 pu, ar E a3 6 ro, ar E a4 6 wo] := hD
        exact hret _ _ _ _ () dX1_chooseNext_120 hS hP trivial
      ·
        refine lv_iload hx hb dX1_chooseNext_22 (lv_at hl 0 rfl) ?_
        refine lv_bipush (v := 6) hx hb dX1_chooseNext_24 (by decide) ?_
        refine icmpN_ge (tgt := 104) (a := k) (b := 6) hx hb rfl rfl (by omega) (by omega) dX1_chooseNext_26 (by decide) (fun c_3 => ?_) (fun c_3 => ?_)
        ·
          omega
        ·
          refine lv_iload_n hx hb dX1_chooseNext_29 rfl (lv_at hl 6 rfl) ?_
          refine lv_iconst (v := 1) hx hb dX1_chooseNext_30 (by decide) ?_
          refine lv_iload hx hb dX1_chooseNext_31 (lv_at hl 0 rfl) ?_
          refine lv_ishl hx hb dX1_chooseNext_33 ?_
          rw [shl1 k (by omega)]
          have h64 := or_lt st hst k (by omega)
          refine N_ior (a := st) (b := 2 ^ k) hx hb rfl rfl dX1_chooseNext_34 ?_
          refine lv_istore (lv' := [(8, .int (nI (st ||| (2 ^ k)))), (7, .int (nI k)), (6, .int ((cS n ro wo sm sb (numF pu wo n) st k).2)), (5, .int ((cS n ro wo sm sb (numF pu wo n) st k).1)), (4, .int (numF pu wo n)), (0, .ref ho), (1, .ref h0), (2, .int (nI st)), (3, .int (nI nn))]) hx hb dX1_chooseNext_35 hl (by decide) rfl (fun ls hl => ?_)
          refine lv_iload hx hb dX1_chooseNext_37 (lv_at hl 0 rfl) ?_
          refine lv_iload_n hx hb dX1_chooseNext_39 rfl (lv_at hl 7 rfl) ?_
          refine icmpN_eq (tgt := 98) (a := st ||| (2 ^ k)) (b := st) hx hb rfl rfl (by omega) (by omega) dX1_chooseNext_40 (by decide) (fun c_4 => ?_) (fun c_4 => ?_)
          ·
            refine lv_iinc (v := nI (k + 1)) (lv' := [(7, .int (nI (k + 1))), (8, .int (nI (st ||| (2 ^ k)))), (6, .int ((cS n ro wo sm sb (numF pu wo n) st k).2)), (5, .int ((cS n ro wo sm sb (numF pu wo n) st k).1)), (4, .int (numF pu wo n)), (0, .ref ho), (1, .ref h0), (2, .int (nI st)), (3, .int (nI nn))]) hx hb dX1_chooseNext_98 hl (k := 1) rfl (nI_inc k) (by decide) rfl (fun ls hl => ?_)
            refine lv_goto (tgt := 16) hx hb dX1_chooseNext_101 (by decide) ?_
            have eC : cS n ro wo sm sb (numF pu wo n) st (k + 1) = cS n ro wo sm sb (numF pu wo n) st k := if_pos ((or_eq st hst k (by omega)).mp c_4)
            have hl : lv_has ls 10 [(7, .int (nI (k + 1))), (6, .int ((cS n ro wo sm sb (numF pu wo n) st (k + 1)).2)), (5, .int ((cS n ro wo sm sb (numF pu wo n) st (k + 1)).1)), (4, .int (numF pu wo n)), (0, .ref ho), (1, .ref h0), (2, .int (nI st)), (3, .int (nI nn))] := by rw [eC]; exact lv_sub hl [0, 2, 3, 4, 5, 6, 7, 8] rfl
            exact ih16 (k + 1) (by omega) (by omega) _ _ hP hD hS ls (lv_sub hl [0, 1, 2, 3, 4, 5, 6, 7] rfl)
          ·
            refine lv_aload_n hx hb dX1_chooseNext_43 rfl (lv_at hl 6 rfl) ?_
            refine lv_iload hx hb dX1_chooseNext_44 (lv_at hl 4 rfl) ?_
            refine lv_aload_n hx hb dX1_chooseNext_46 rfl (lv_at hl 5 rfl) ?_
            refine va_get (D := E.1) (ci := 1) (v := .ref o0) (C := RX1) (T := TX1) (N := 3) hx hb hts hinX1 hown hK.1 hP 0 rfl rfl 0 (by decide) fl_11 (fun _ h9 => h9) rfl dX1_chooseNext_47 ?_
            refine lv_iload_n hx hb dX1_chooseNext_50 rfl (lv_at hl 7 rfl) ?_
            refine ild hx hb hK hP 1 rfl (j := st) rfl (by omega) (by decide) dX1_chooseNext_51 ?_
            refine lv_iadd hx hb dX1_chooseNext_52 ?_
            refine lv_iload hx hb dX1_chooseNext_53 (lv_at hl 4 rfl) ?_
            refine lv_aload_n hx hb dX1_chooseNext_55 rfl (lv_at hl 5 rfl) ?_
            refine va_get (D := E.1) (ci := 1) (v := .ref o0) (C := RX1) (T := TX1) (N := 3) hx hb hts hinX1 hown hK.1 hP 0 rfl rfl 0 (by decide) fl_11 (fun _ h9 => h9) rfl dX1_chooseNext_56 ?_
            refine lv_iload hx hb dX1_chooseNext_59 (lv_at hl 0 rfl) ?_
            refine ild hx hb hK hP 1 rfl (j := st ||| (2 ^ k)) rfl (by omega) (by decide) dX1_chooseNext_61 ?_
            refine lv_iadd hx hb dX1_chooseNext_62 ?_
            refine crV (As := [.int ((numF pu wo n) + (sm st)), .int ((numF pu wo n) + (sm (st ||| (2 ^ k))))]) (rest := []) ⟨hx, hb, hml, hown, hts⟩ (c_X5_slidBetween l E h0 a0 a1 a2 a3 a4 n mo ro wo ((numF pu wo n) + (sm st)) ((numF pu wo n) + (sm (st ||| (2 ^ k)))) (by first | assumption | omega)) (cwV 2 hts gX1_chooseNext_X5_slidBetween rfl rfl rfl (by decide +kernel) ⟨Nat.le_of_ble_eq_true rfl, Nat.le_of_ble_eq_true rfl⟩) hK hP [4, 6, 7] rfl 0 rfl rfl rfl rfl hl.1 rfl (catLe (Nat.le_of_ble_eq_true rfl)) dX1_chooseNext_63 ⟨Nat.zero_le _, Nat.zero_le _⟩ (fun r_5 hr_5 => ?_)
            subst hr_5
            refine lv_aload_n hx hb dX1_chooseNext_66 rfl (lv_at hl 5 rfl) ?_
            refine va_get (D := E.1) (ci := 1) (v := .ref o2) (C := RX1) (T := TX1) (N := 3) hx hb hts hinX1 hown hK.1 hP 0 rfl rfl 2 (by decide) fl_18 (fun _ h9 => h9) rfl dX1_chooseNext_67 ?_
            refine lv_iload hx hb dX1_chooseNext_70 (lv_at hl 0 rfl) ?_
            refine ild hx hb hK hP 3 rfl (j := st ||| (2 ^ k)) rfl (by omega) (by decide) dX1_chooseNext_72 ?_
            refine lv_iadd hx hb dX1_chooseNext_73 ?_
            refine lv_istore (lv' := [(9, .int ((slF ro wo ((numF pu wo n) + (sm st)) ((numF pu wo n) + (sm (st ||| (2 ^ k)))) n) + (sb (st ||| (2 ^ k))))), (8, .int (nI (st ||| (2 ^ k)))), (7, .int (nI k)), (6, .int ((cS n ro wo sm sb (numF pu wo n) st k).2)), (5, .int ((cS n ro wo sm sb (numF pu wo n) st k).1)), (4, .int (numF pu wo n)), (0, .ref ho), (1, .ref h0), (2, .int (nI st)), (3, .int (nI nn))]) hx hb dX1_chooseNext_74 hl (by decide) rfl (fun ls hl => ?_)
            refine lv_iload hx hb dX1_chooseNext_76 (lv_at hl 4 rfl) ?_
            refine lv_bipush (v := (-9)) hx hb dX1_chooseNext_78 (by decide) ?_
            refine lv_icmp_eq (tgt := 90) hx hb dX1_chooseNext_80 (by decide) (fun c_6 => ?_) (fun c_6 => ?_)
            ·
              refine lv_iload hx hb dX1_chooseNext_90 (lv_at hl 2 rfl) ?_
              refine lv_istore (lv' := [(5, .int (nI k)), (9, .int ((slF ro wo ((numF pu wo n) + (sm st)) ((numF pu wo n) + (sm (st ||| (2 ^ k)))) n) + (sb (st ||| (2 ^ k))))), (8, .int (nI (st ||| (2 ^ k)))), (7, .int (nI k)), (6, .int ((cS n ro wo sm sb (numF pu wo n) st k).2)), (4, .int (numF pu wo n)), (0, .ref ho), (1, .ref h0), (2, .int (nI st)), (3, .int (nI nn))]) hx hb dX1_chooseNext_92 hl (by decide) rfl (fun ls hl => ?_)
              refine lv_iload hx hb dX1_chooseNext_94 (lv_at hl 1 rfl) ?_
              refine lv_istore (lv' := [(6, .int ((slF ro wo ((numF pu wo n) + (sm st)) ((numF pu wo n) + (sm (st ||| (2 ^ k)))) n) + (sb (st ||| (2 ^ k))))), (5, .int (nI k)), (9, .int ((slF ro wo ((numF pu wo n) + (sm st)) ((numF pu wo n) + (sm (st ||| (2 ^ k)))) n) + (sb (st ||| (2 ^ k))))), (8, .int (nI (st ||| (2 ^ k)))), (7, .int (nI k)), (4, .int (numF pu wo n)), (0, .ref ho), (1, .ref h0), (2, .int (nI st)), (3, .int (nI nn))]) hx hb dX1_chooseNext_96 hl (by decide) rfl (fun ls hl => ?_)
              refine lv_iinc (v := nI (k + 1)) (lv' := [(7, .int (nI (k + 1))), (6, .int ((slF ro wo ((numF pu wo n) + (sm st)) ((numF pu wo n) + (sm (st ||| (2 ^ k)))) n) + (sb (st ||| (2 ^ k))))), (5, .int (nI k)), (9, .int ((slF ro wo ((numF pu wo n) + (sm st)) ((numF pu wo n) + (sm (st ||| (2 ^ k)))) n) + (sb (st ||| (2 ^ k))))), (8, .int (nI (st ||| (2 ^ k)))), (4, .int (numF pu wo n)), (0, .ref ho), (1, .ref h0), (2, .int (nI st)), (3, .int (nI nn))]) hx hb dX1_chooseNext_98 hl (k := 4) rfl (nI_inc k) (by decide) rfl (fun ls hl => ?_)
              refine lv_goto (tgt := 16) hx hb dX1_chooseNext_101 (by decide) ?_
              have eC : cS n ro wo sm sb (numF pu wo n) st (k + 1) = (nI k, slF ro wo (numF pu wo n + sm st) (numF pu wo n + sm (st ||| 2 ^ k)) n + sb (st ||| 2 ^ k)) := (if_neg (fun h => c_4 ((or_eq st hst k (by omega)).mpr h))).trans (if_pos (Or.inl c_6))
              have hl : lv_has ls 10 [(7, .int (nI (k + 1))), (6, .int ((cS n ro wo sm sb (numF pu wo n) st (k + 1)).2)), (5, .int ((cS n ro wo sm sb (numF pu wo n) st (k + 1)).1)), (4, .int (numF pu wo n)), (0, .ref ho), (1, .ref h0), (2, .int (nI st)), (3, .int (nI nn))] := by rw [eC]; exact lv_sub hl [0, 1, 2, 5, 6, 7, 8, 9] rfl
              exact ih16 (k + 1) (by omega) (by omega) _ _ hP hD hS ls (lv_sub hl [0, 1, 2, 3, 4, 5, 6, 7] rfl)
            ·
              refine lv_iload hx hb dX1_chooseNext_83 (lv_at hl 0 rfl) ?_
              refine lv_iload hx hb dX1_chooseNext_85 (lv_at hl 3 rfl) ?_
              refine lv_icmp_ge (tgt := 98) hx hb dX1_chooseNext_87 (by decide) (fun c_7 => ?_) (fun c_7 => ?_)
              ·
                have c_7b := Int32.not_lt.mpr c_7
                refine lv_iinc (v := nI (k + 1)) (lv' := [(7, .int (nI (k + 1))), (9, .int ((slF ro wo ((numF pu wo n) + (sm st)) ((numF pu wo n) + (sm (st ||| (2 ^ k)))) n) + (sb (st ||| (2 ^ k))))), (8, .int (nI (st ||| (2 ^ k)))), (6, .int ((cS n ro wo sm sb (numF pu wo n) st k).2)), (5, .int ((cS n ro wo sm sb (numF pu wo n) st k).1)), (4, .int (numF pu wo n)), (0, .ref ho), (1, .ref h0), (2, .int (nI st)), (3, .int (nI nn))]) hx hb dX1_chooseNext_98 hl (k := 2) rfl (nI_inc k) (by decide) rfl (fun ls hl => ?_)
                refine lv_goto (tgt := 16) hx hb dX1_chooseNext_101 (by decide) ?_
                have eC : cS n ro wo sm sb (numF pu wo n) st (k + 1) = cS n ro wo sm sb (numF pu wo n) st k := (if_neg (fun h => c_4 ((or_eq st hst k (by omega)).mpr h))).trans (if_neg (fun h => h.elim c_6 (fun h2 => absurd h2 (Int32.not_lt.mpr c_7))))
                have hl : lv_has ls 10 [(7, .int (nI (k + 1))), (6, .int ((cS n ro wo sm sb (numF pu wo n) st (k + 1)).2)), (5, .int ((cS n ro wo sm sb (numF pu wo n) st (k + 1)).1)), (4, .int (numF pu wo n)), (0, .ref ho), (1, .ref h0), (2, .int (nI st)), (3, .int (nI nn))] := by rw [eC]; exact lv_sub hl [0, 3, 4, 5, 6, 7, 8, 9] rfl
                exact ih16 (k + 1) (by omega) (by omega) _ _ hP hD hS ls (lv_sub hl [0, 1, 2, 3, 4, 5, 6, 7] rfl)
              ·
                have c_7b := Int32.not_le.mp c_7
                refine lv_iload hx hb dX1_chooseNext_90 (lv_at hl 2 rfl) ?_
                refine lv_istore (lv' := [(5, .int (nI k)), (9, .int ((slF ro wo ((numF pu wo n) + (sm st)) ((numF pu wo n) + (sm (st ||| (2 ^ k)))) n) + (sb (st ||| (2 ^ k))))), (8, .int (nI (st ||| (2 ^ k)))), (7, .int (nI k)), (6, .int ((cS n ro wo sm sb (numF pu wo n) st k).2)), (4, .int (numF pu wo n)), (0, .ref ho), (1, .ref h0), (2, .int (nI st)), (3, .int (nI nn))]) hx hb dX1_chooseNext_92 hl (by decide) rfl (fun ls hl => ?_)
                refine lv_iload hx hb dX1_chooseNext_94 (lv_at hl 1 rfl) ?_
                refine lv_istore (lv' := [(6, .int ((slF ro wo ((numF pu wo n) + (sm st)) ((numF pu wo n) + (sm (st ||| (2 ^ k)))) n) + (sb (st ||| (2 ^ k))))), (5, .int (nI k)), (9, .int ((slF ro wo ((numF pu wo n) + (sm st)) ((numF pu wo n) + (sm (st ||| (2 ^ k)))) n) + (sb (st ||| (2 ^ k))))), (8, .int (nI (st ||| (2 ^ k)))), (7, .int (nI k)), (4, .int (numF pu wo n)), (0, .ref ho), (1, .ref h0), (2, .int (nI st)), (3, .int (nI nn))]) hx hb dX1_chooseNext_96 hl (by decide) rfl (fun ls hl => ?_)
                refine lv_iinc (v := nI (k + 1)) (lv' := [(7, .int (nI (k + 1))), (6, .int ((slF ro wo ((numF pu wo n) + (sm st)) ((numF pu wo n) + (sm (st ||| (2 ^ k)))) n) + (sb (st ||| (2 ^ k))))), (5, .int (nI k)), (9, .int ((slF ro wo ((numF pu wo n) + (sm st)) ((numF pu wo n) + (sm (st ||| (2 ^ k)))) n) + (sb (st ||| (2 ^ k))))), (8, .int (nI (st ||| (2 ^ k)))), (4, .int (numF pu wo n)), (0, .ref ho), (1, .ref h0), (2, .int (nI st)), (3, .int (nI nn))]) hx hb dX1_chooseNext_98 hl (k := 4) rfl (nI_inc k) (by decide) rfl (fun ls hl => ?_)
                refine lv_goto (tgt := 16) hx hb dX1_chooseNext_101 (by decide) ?_
                have eC : cS n ro wo sm sb (numF pu wo n) st (k + 1) = (nI k, slF ro wo (numF pu wo n + sm st) (numF pu wo n + sm (st ||| 2 ^ k)) n + sb (st ||| 2 ^ k)) := (if_neg (fun h => c_4 ((or_eq st hst k (by omega)).mpr h))).trans (if_pos (Or.inr (Int32.not_le.mp c_7)))
                have hl : lv_has ls 10 [(7, .int (nI (k + 1))), (6, .int ((cS n ro wo sm sb (numF pu wo n) st (k + 1)).2)), (5, .int ((cS n ro wo sm sb (numF pu wo n) st (k + 1)).1)), (4, .int (numF pu wo n)), (0, .ref ho), (1, .ref h0), (2, .int (nI st)), (3, .int (nI nn))] := by rw [eC]; exact lv_sub hl [0, 1, 2, 5, 6, 7, 8, 9] rfl
                exact ih16 (k + 1) (by omega) (by omega) _ _ hP hD hS ls (lv_sub hl [0, 1, 2, 3, 4, 5, 6, 7] rfl)
  exact L16 _ 0 (by omega) (Nat.lt_succ_self _) _ _ hP hD hS ls (lv_sub hl [0, 1, 2, 3, 4, 5, 6, 7] rfl)
set_option maxHeartbeats 4000000 in
set_option maxRecDepth 100000 in
theorem c_X1_find (l : Launch) (E : gE) (sz : Nat) (ho : Nat) (o0 : Nat) (o1 : Nat) (o2 : Nat) (sm : Nat → Int32) (nx : Nat → Int32) (sb : Nat → Int32) (h0 : Nat) (a0 : Nat) (a1 : Nat) (a2 : Nat) (a3 : Nat) (a4 : Nat) (n : Nat) (mo : Int32) (pu : Nat → Int32) (ro : Nat → Int32) (wo : Nat → Int32) (hs : Nat) (qs : Nat) (th : Int32) (la : Int32) (ln : Nat) (ce : Nat → Int32) (i : Nat) (nn : Nat) (hg : WG n ro wo) (h60 : ln ≤ 60) (hin : i + nn ≤ ln) (h6 : nn ≤ 6) : Met l yX1_find wsX1_find ({ frames := 4, cells := 0, slots := 0, locals := 96 }) (PW E [.ref ho, .ref h0, .ref hs, .int (nI i), .int (nI nn)] [ob ho 1 [.ref o0, .ref o1, .ref o2], ar E o0 64 sm, ar E o1 64 nx, ar E o2 64 sb, ob h0 5 [.ref a0, .ref a1, .ref a2, .ref a3, .ref a4, .int (nI n), .int mo], ar E a2 6 pu, ar E a3 6 ro, ar E a4 6 wo, ob hs 3 [.ref qs, .int th, .int la, .int (nI ln)], ar E qs 60 ce] sz) (QWi E (fun r _ => r = if canP n mo (numF pu wo n) (fil (fun st => ssF (fun q => ce (i + q)) st nn) sm (2 ^ nn) (2 ^ nn - 1)) then 1 else 0) (fun (_ : Unit) => [ob ho 1 [.ref o0, .ref o1, .ref o2], ar E o0 64 (fil (fun st => ssF (fun q => ce (i + q)) st nn) sm (2 ^ nn)), ar E o1 64 (if canP n mo (numF pu wo n) (fil (fun st => ssF (fun q => ce (i + q)) st nn) sm (2 ^ nn) (2 ^ nn - 1)) then (fO n ro wo (fil (fun st => ssF (fun q => ce (i + q)) st nn) sm (2 ^ nn)) nx sb (numF pu wo n) nn (2 ^ nn - 1)).1 else nx), ar E o2 64 (if canP n mo (numF pu wo n) (fil (fun st => ssF (fun q => ce (i + q)) st nn) sm (2 ^ nn) (2 ^ nn - 1)) then (fO n ro wo (fil (fun st => ssF (fun q => ce (i + q)) st nn) sm (2 ^ nn)) nx sb (numF pu wo n) nn (2 ^ nn - 1)).2 else sb), ob h0 5 [.ref a0, .ref a1, .ref a2, .ref a3, .ref a4, .int (nI n), .int mo], ar E a2 6 pu, ar E a3 6 ro, ar E a4 6 wo, ob hs 3 [.ref qs, .int th, .int la, .int (nI ln)], ar E qs 60 ce]) (va_A [ob ho 1 [.ref o0, .ref o1, .ref o2], ar E o0 64 sm, ar E o1 64 nx, ar E o2 64 sb, ob h0 5 [.ref a0, .ref a1, .ref a2, .ref a3, .ref a4, .int (nI n), .int mo], ar E a2 6 pu, ar E a3 6 ro, ar E a4 6 wo, ob hs 3 [.ref qs, .int th, .int la, .int (nI ln)], ar E qs 60 ce] sz)) 0 0 (va_A [ob ho 1 [.ref o0, .ref o1, .ref o2], ar E o0 64 sm, ar E o1 64 nx, ar E o2 64 sb, ob h0 5 [.ref a0, .ref a1, .ref a2, .ref a3, .ref a4, .int (nI n), .int mo], ar E a2 6 pu, ar E a3 6 ro, ar E a4 6 wo, ob hs 3 [.ref qs, .int th, .int la, .int (nI ln)], ar E qs 60 ce] sz) := by
  refine mkWz (cc := cX1_find) (maxL := 7) (by decide) rfl (Nat.le_of_ble_eq_true rfl) ?_
  intro p e s m args below meth c QQ A hx hb hml hown hmn hts hK hA hP hD hS hret ls hl
  have hown : s.vm.findClass RX1 = some m.cls := hown
  have hl : lv_has ls 7 [(0, .ref ho), (1, .ref h0), (2, .ref hs), (3, .int (nI i)), (4, .int (nI nn))] := hl
  have hinX1 : ∀ w ∈ wsX10, w ∈ wsX1_find := by decide +kernel
  have fl_11 := hts (.fieldLink RX1 11 "GuardAbacus$Order" "sumOf" "[I") (by decide +kernel)
  have fl_15 := hts (.fieldLink RX1 15 "GuardAbacus$Order" "nextOf" "[I") (by decide +kernel)
  have fl_18 := hts (.fieldLink RX1 18 "GuardAbacus$Order" "slidBehind" "[I") (by decide +kernel)
  have hn := hg.le
  have h2 := two_le h6
  refine lv_iload hx hb dX1_find_0 (lv_at hl 4 rfl) ?_
  refine ifN_lt (tgt := 12) (a := nn) hx hb rfl (by omega) dX1_find_2 (by decide) ?_
  refine lv_iload hx hb dX1_find_5 (lv_at hl 4 rfl) ?_
  refine lv_bipush (v := 6) hx hb dX1_find_7 (by decide) ?_
  refine icmpN_le (tgt := 14) (a := nn) (b := 6) hx hb rfl rfl (by omega) (by omega) dX1_find_9 (by decide) (fun c_2 => ?_) (fun c_2 => ?_)
  ·
    refine lv_iconst (v := 1) hx hb dX1_find_14 (by decide) ?_
    refine lv_iload hx hb dX1_find_15 (lv_at hl 4 rfl) ?_
    refine lv_ishl hx hb dX1_find_17 ?_
    rw [shl1 nn (by omega)]
    refine lv_iconst (v := 1) hx hb dX1_find_18 (by decide) ?_
    refine N_isub (a := 2 ^ nn) (b := 1) hx hb rfl rfl (by omega) dX1_find_19 ?_
    refine lv_istore (lv' := [(5, .int (nI ((2 ^ nn) - 1))), (0, .ref ho), (1, .ref h0), (2, .ref hs), (3, .int (nI i)), (4, .int (nI nn))]) hx hb dX1_find_20 hl (by decide) rfl (fun ls hl => ?_)
    refine lv_iconst (v := 0) hx hb dX1_find_22 (by decide) ?_
    refine lv_istore (lv' := [(6, .int 0), (5, .int (nI ((2 ^ nn) - 1))), (0, .ref ho), (1, .ref h0), (2, .ref hs), (3, .int (nI i)), (4, .int (nI nn))]) hx hb dX1_find_23 hl (by decide) rfl (fun ls hl => ?_)
    rw [← fil_0 (fun st => ssF (fun q => ce (i + q)) st nn) sm] at hP hD
    have L25 : ∀ (fuel : Nat) (k : Nat), (k ≤ 2 ^ nn) → (2 ^ nn - k) < fuel → ∀ (H : Heap) (locs : List Loc), va_P E.1 vwCl [ob ho 1 [.ref o0, .ref o1, .ref o2], ar E o0 64 (fil (fun st => ssF (fun q => ce (i + q)) st nn) sm k), ar E o1 64 nx, ar E o2 64 sb, ob h0 5 [.ref a0, .ref a1, .ref a2, .ref a3, .ref a4, .int (nI n), .int mo], ar E a2 6 pu, ar E a3 6 ro, ar E a4 6 wo, ob hs 3 [.ref qs, .int th, .int la, .int (nI ln)], ar E qs 60 ce] H → va_D A [ob ho 1 [.ref o0, .ref o1, .ref o2], ar E o0 64 (fil (fun st => ssF (fun q => ce (i + q)) st nn) sm k), ar E o1 64 nx, ar E o2 64 sb, ob h0 5 [.ref a0, .ref a1, .ref a2, .ref a3, .ref a4, .int (nI n), .int mo], ar E a2 6 pu, ar E a3 6 ro, ar E a4 6 wo, ob hs 3 [.ref qs, .int th, .int la, .int (nI ln)], ar E qs 60 ce] → va_S A s.heap H locs → ∀ ls : Array Slot, lv_has ls 7 [(6, .int (nI k)), (5, .int (nI ((2 ^ nn) - 1))), (0, .ref ho), (1, .ref h0), (2, .ref hs), (3, .int (nI i)), (4, .int (nI nn))] → W p l e ({ frames := 4, cells := 0, slots := 0, locals := 96 }) s m args below meth c H locs 0 0 QQ (F0 m 25 ls []) := by
      intro fuel
      induction fuel with
      | zero => intro k hk hf; exact absurd hf (Nat.not_lt_zero _)
      | succ fuel ih25 =>
        intro k hk hf25 H locs hP hD hS ls hl
        refine lv_iload hx hb dX1_find_25 (lv_at hl 0 rfl) ?_
        refine lv_iload hx hb dX1_find_27 (lv_at hl 1 rfl) ?_
        refine icmpN_gt (tgt := 54) (a := k) (b := (2 ^ nn) - 1) hx hb rfl rfl (by omega) (by omega) dX1_find_29 (by decide) (fun c_3 => ?_) (fun c_3 => ?_)
        ·
          obtain rfl : 2 ^ nn = k := by omega
          refine lv_aload_n hx hb dX1_find_54 rfl (lv_at hl 3 rfl) ?_
          refine lv_aload_n hx hb dX1_find_55 rfl (lv_at hl 2 rfl) ?_
          refine va_get (D := E.1) (ci := 1) (v := .ref o0) (C := RX1) (T := TX1) (N := 3) hx hb hts hinX1 hown hK.1 hP 0 rfl rfl 0 (by decide) fl_11 (fun _ h9 => h9) rfl dX1_find_56 ?_
          refine lv_iload hx hb dX1_find_59 (lv_at hl 1 rfl) ?_
          refine ild hx hb hK hP 1 rfl (j := (2 ^ nn) - 1) rfl (by omega) (by decide) dX1_find_61 ?_
          refine crV (As := [.int ((fil (fun st => ssF (fun q => ce (i + q)) st nn) sm (2 ^ nn)) ((2 ^ nn) - 1))]) (rest := []) ⟨hx, hb, hml, hown, hts⟩ (c_X5_canSum l E h0 a0 a1 a2 a3 a4 n mo pu wo ((fil (fun st => ssF (fun q => ce (i + q)) st nn) sm (2 ^ nn)) ((2 ^ nn) - 1)) (by first | assumption | omega)) (cwV 1 hts gX1_find_X5_canSum rfl rfl rfl (by decide +kernel) ⟨Nat.le_of_ble_eq_true rfl, Nat.le_of_ble_eq_true rfl⟩) hK hP [4, 5, 7] rfl 0 rfl rfl rfl rfl hl.1 rfl (catLe (Nat.le_of_ble_eq_true rfl)) dX1_find_62 ⟨Nat.zero_le _, Nat.zero_le _⟩ (fun r_4 hr_4 => ?_)
          subst hr_4
          refine ifB_ne (P := canP n mo (numF pu wo n) ((fil (fun st => ssF (fun q => ce (i + q)) st nn) sm (2 ^ nn)) ((2 ^ nn) - 1))) (tgt := 70) hx hb dX1_find_65 (by decide) (fun c_5 => ?_) (fun c_5 => ?_)
          ·
            refine lv_aload_n hx hb dX1_find_70 rfl (lv_at hl 2 rfl) ?_
            refine va_get (D := E.1) (ci := 1) (v := .ref o2) (C := RX1) (T := TX1) (N := 3) hx hb hts hinX1 hown hK.1 hP 0 rfl rfl 2 (by decide) fl_18 (fun _ h9 => h9) rfl dX1_find_71 ?_
            refine lv_iload hx hb dX1_find_74 (lv_at hl 1 rfl) ?_
            refine lv_iconst (v := 0) hx hb dX1_find_76 (by decide) ?_
            refine ist hx hb hK hP hD hS 3 rfl (j := (2 ^ nn) - 1) rfl (by omega) (by decide) dX1_find_77 (fun H locs hP hD hS => ?_)
            have hP : va_P E.1 vwCl [ob ho 1 [.ref o0, .ref o1, .ref o2], ar E o0 64 (fil (fun st => ssF (fun q => ce (i + q)) st nn) sm (2 ^ nn)), ar E o1 64 nx, ar E o2 64 (upd sb ((2 ^ nn) - 1) 0), ob h0 5 [.ref a0, .ref a1, .ref a2, .ref a3, .ref a4, .int (nI n), .int mo], ar E a2 6 pu, ar E a3 6 ro, ar E a4 6 wo, ob hs 3 [.ref qs, .int th, .int la, .int (nI ln)], ar E qs 60 ce] H := hP
            have hD : va_D A [ob ho 1 [.ref o0, .ref o1, .ref o2], ar E o0 64 (fil (fun st => ssF (fun q => ce (i + q)) st nn) sm (2 ^ nn)), ar E o1 64 nx, ar E o2 64 (upd sb ((2 ^ nn) - 1) 0), ob h0 5 [.ref a0, .ref a1, .ref a2, .ref a3, .ref a4, .int (nI n), .int mo], ar E a2 6 pu, ar E a3 6 ro, ar E a4 6 wo, ob hs 3 [.ref qs, .int th, .int la, .int (nI ln)], ar E qs 60 ce] := hD
            refine lv_aload_n hx hb dX1_find_78 rfl (lv_at hl 2 rfl) ?_
            refine va_get (D := E.1) (ci := 1) (v := .ref o1) (C := RX1) (T := TX1) (N := 3) hx hb hts hinX1 hown hK.1 hP 0 rfl rfl 1 (by decide) fl_15 (fun _ h9 => h9) rfl dX1_find_79 ?_
            refine lv_iload hx hb dX1_find_82 (lv_at hl 1 rfl) ?_
            refine lv_bipush (v := (-9)) hx hb dX1_find_84 (by decide) ?_
            refine ist hx hb hK hP hD hS 2 rfl (j := (2 ^ nn) - 1) rfl (by omega) (by decide) dX1_find_86 (fun H locs hP hD hS => ?_)
            have hP : va_P E.1 vwCl [ob ho 1 [.ref o0, .ref o1, .ref o2], ar E o0 64 (fil (fun st => ssF (fun q => ce (i + q)) st nn) sm (2 ^ nn)), ar E o1 64 (upd nx ((2 ^ nn) - 1) (-9)), ar E o2 64 (upd sb ((2 ^ nn) - 1) 0), ob h0 5 [.ref a0, .ref a1, .ref a2, .ref a3, .ref a4, .int (nI n), .int mo], ar E a2 6 pu, ar E a3 6 ro, ar E a4 6 wo, ob hs 3 [.ref qs, .int th, .int la, .int (nI ln)], ar E qs 60 ce] H := hP
            have hD : va_D A [ob ho 1 [.ref o0, .ref o1, .ref o2], ar E o0 64 (fil (fun st => ssF (fun q => ce (i + q)) st nn) sm (2 ^ nn)), ar E o1 64 (upd nx ((2 ^ nn) - 1) (-9)), ar E o2 64 (upd sb ((2 ^ nn) - 1) 0), ob h0 5 [.ref a0, .ref a1, .ref a2, .ref a3, .ref a4, .int (nI n), .int mo], ar E a2 6 pu, ar E a3 6 ro, ar E a4 6 wo, ob hs 3 [.ref qs, .int th, .int la, .int (nI ln)], ar E qs 60 ce] := hD
            refine lv_iload hx hb dX1_find_87 (lv_at hl 1 rfl) ?_
            refine lv_iconst (v := 1) hx hb dX1_find_89 (by decide) ?_
            refine lv_isub hx hb dX1_find_90 ?_
            refine lv_istore (lv' := [(6, .int ((nI ((2 ^ nn) - 1)) - 1)), (5, .int (nI ((2 ^ nn) - 1))), (0, .ref ho), (1, .ref h0), (2, .ref hs), (3, .int (nI i)), (4, .int (nI nn))]) hx hb dX1_find_91 hl (by decide) rfl (fun ls hl => ?_)
            have e0 : fO n ro wo (fil (fun st => ssF (fun q => ce (i + q)) st nn) sm (2 ^ nn)) nx sb (numF pu wo n) nn (2 ^ nn - 1 - (2 ^ nn - 1)) = (upd nx (2 ^ nn - 1) (-9), upd sb (2 ^ nn - 1) 0) := by rw [Nat.sub_self]; rfl
            have hP : va_P E.1 vwCl [ob ho 1 [.ref o0, .ref o1, .ref o2], ar E o0 64 (fil (fun st => ssF (fun q => ce (i + q)) st nn) sm (2 ^ nn)), ar E o1 64 ((fO n ro wo (fil (fun st => ssF (fun q => ce (i + q)) st nn) sm (2 ^ nn)) nx sb (numF pu wo n) nn (2 ^ nn - 1 - (2 ^ nn - 1))).1), ar E o2 64 ((fO n ro wo (fil (fun st => ssF (fun q => ce (i + q)) st nn) sm (2 ^ nn)) nx sb (numF pu wo n) nn (2 ^ nn - 1 - (2 ^ nn - 1))).2), ob h0 5 [.ref a0, .ref a1, .ref a2, .ref a3, .ref a4, .int (nI n), .int mo], ar E a2 6 pu, ar E a3 6 ro, ar E a4 6 wo, ob hs 3 [.ref qs, .int th, .int la, .int (nI ln)], ar E qs 60 ce] H := by rw [e0]; exact hP
            have hD : va_D A [ob ho 1 [.ref o0, .ref o1, .ref o2], ar E o0 64 (fil (fun st => ssF (fun q => ce (i + q)) st nn) sm (2 ^ nn)), ar E o1 64 ((fO n ro wo (fil (fun st => ssF (fun q => ce (i + q)) st nn) sm (2 ^ nn)) nx sb (numF pu wo n) nn (2 ^ nn - 1 - (2 ^ nn - 1))).1), ar E o2 64 ((fO n ro wo (fil (fun st => ssF (fun q => ce (i + q)) st nn) sm (2 ^ nn)) nx sb (numF pu wo n) nn (2 ^ nn - 1 - (2 ^ nn - 1))).2), ob h0 5 [.ref a0, .ref a1, .ref a2, .ref a3, .ref a4, .int (nI n), .int mo], ar E a2 6 pu, ar E a3 6 ro, ar E a4 6 wo, ob hs 3 [.ref qs, .int th, .int la, .int (nI ln)], ar E qs 60 ce] := va_D_addr hD [ho, o0, o1, o2, h0, a2, a3, a4, hs, qs] rfl rfl
            have L93 : ∀ (fuel : Nat) (r : Nat), (r ≤ 2 ^ nn - 1) → r < fuel → ∀ (H : Heap) (locs : List Loc), va_P E.1 vwCl [ob ho 1 [.ref o0, .ref o1, .ref o2], ar E o0 64 (fil (fun st => ssF (fun q => ce (i + q)) st nn) sm (2 ^ nn)), ar E o1 64 ((fO n ro wo (fil (fun st => ssF (fun q => ce (i + q)) st nn) sm (2 ^ nn)) nx sb (numF pu wo n) nn (2 ^ nn - 1 - r)).1), ar E o2 64 ((fO n ro wo (fil (fun st => ssF (fun q => ce (i + q)) st nn) sm (2 ^ nn)) nx sb (numF pu wo n) nn (2 ^ nn - 1 - r)).2), ob h0 5 [.ref a0, .ref a1, .ref a2, .ref a3, .ref a4, .int (nI n), .int mo], ar E a2 6 pu, ar E a3 6 ro, ar E a4 6 wo, ob hs 3 [.ref qs, .int th, .int la, .int (nI ln)], ar E qs 60 ce] H → va_D A [ob ho 1 [.ref o0, .ref o1, .ref o2], ar E o0 64 (fil (fun st => ssF (fun q => ce (i + q)) st nn) sm (2 ^ nn)), ar E o1 64 ((fO n ro wo (fil (fun st => ssF (fun q => ce (i + q)) st nn) sm (2 ^ nn)) nx sb (numF pu wo n) nn (2 ^ nn - 1 - r)).1), ar E o2 64 ((fO n ro wo (fil (fun st => ssF (fun q => ce (i + q)) st nn) sm (2 ^ nn)) nx sb (numF pu wo n) nn (2 ^ nn - 1 - r)).2), ob h0 5 [.ref a0, .ref a1, .ref a2, .ref a3, .ref a4, .int (nI n), .int mo], ar E a2 6 pu, ar E a3 6 ro, ar E a4 6 wo, ob hs 3 [.ref qs, .int th, .int la, .int (nI ln)], ar E qs 60 ce] → va_S A s.heap H locs → ∀ ls : Array Slot, lv_has ls 7 [(6, .int (nI r - 1)), (5, .int (nI ((2 ^ nn) - 1))), (0, .ref ho), (1, .ref h0), (2, .ref hs), (3, .int (nI i)), (4, .int (nI nn))] → W p l e ({ frames := 4, cells := 0, slots := 0, locals := 96 }) s m args below meth c H locs 0 0 QQ (F0 m 93 ls []) := by
              intro fuel
              induction fuel with
              | zero => intro r hr hf; exact absurd hf (Nat.not_lt_zero _)
              | succ fuel ih93 =>
                intro r hr hf93 H locs hP hD hS ls hl
                rcases r with _ | r
                ·
                  have hl : lv_has ls 7 [(6, .int (-1)), (5, .int (nI ((2 ^ nn) - 1))), (0, .ref ho), (1, .ref h0), (2, .ref hs), (3, .int (nI i)), (4, .int (nI nn))] := hl
                  refine lv_iload hx hb dX1_find_93 (lv_at hl 0 rfl) ?_
                  refine lv_if_lt (tgt := 113) hx hb dX1_find_95 (by decide) (fun cz => ?_) (fun cz => ?_)
                  ·
                    refine lv_iconst (v := 1) hx hb dX1_find_113 (by decide) ?_
                    exact hret _ _ _ _ _ () dX1_find_114 rfl hS (by rw [if_pos c_5, if_pos c_5]; exact hP) (if_pos c_5).symm
                  ·
                    exact absurd (by decide) cz
                ·
                  rw [nI_pred] at hl
                  have hl : lv_has ls 7 [(6, .int (nI r)), (5, .int (nI ((2 ^ nn) - 1))), (0, .ref ho), (1, .ref h0), (2, .ref hs), (3, .int (nI i)), (4, .int (nI nn))] := hl
                  refine lv_iload hx hb dX1_find_93 (lv_at hl 0 rfl) ?_
                  refine ifN_lt (tgt := 113) (a := r) hx hb rfl (by omega) dX1_find_95 (by decide) ?_
                  refine lv_aload_n hx hb dX1_find_98 rfl (lv_at hl 2 rfl) ?_
                  refine lv_aload_n hx hb dX1_find_99 rfl (lv_at hl 3 rfl) ?_
                  refine lv_iload hx hb dX1_find_100 (lv_at hl 0 rfl) ?_
                  refine lv_iload hx hb dX1_find_102 (lv_at hl 6 rfl) ?_
                  refine cwVv (As := [.ref h0, .int (nI r), .int (nI nn)]) (rest := []) ⟨hx, hb, hml, hown, hts⟩ (c_X1_chooseNext l E _ ho o0 o1 o2 (fil (fun st => ssF (fun q => ce (i + q)) st nn) sm (2 ^ nn)) ((fO n ro wo (fil (fun st => ssF (fun q => ce (i + q)) st nn) sm (2 ^ nn)) nx sb (numF pu wo n) nn (2 ^ nn - 1 - (r + 1))).1) ((fO n ro wo (fil (fun st => ssF (fun q => ce (i + q)) st nn) sm (2 ^ nn)) nx sb (numF pu wo n) nn (2 ^ nn - 1 - (r + 1))).2) h0 a0 a1 a2 a3 a4 n mo pu ro wo r nn (by first | assumption | omega) (by first | assumption | omega) (by first | assumption | omega)) (cwV 3 hts gX1_find_X1_chooseNext rfl rfl rfl (by decide +kernel) ⟨Nat.le_of_ble_eq_true rfl, Nat.le_of_ble_eq_true rfl⟩) hK hP hD hS hA [0, 1, 2, 3, 4, 5, 6, 7] (by decide) rfl [ho, o0, o1, o2, h0, a2, a3, a4] (fun _ => rfl) rfl 0 rfl rfl rfl rfl hl.1 rfl (catLe (Nat.le_of_ble_eq_true rfl)) dX1_find_104 ⟨Nat.zero_le _, Nat.zero_le _⟩ (fun u_8 H locs hwr_7 hP hD hS => ?_)
                  have hP : va_P E.1 vwCl [ob ho 1 [.ref o0, .ref o1, .ref o2], ar E o0 64 (fil (fun st => ssF (fun q => ce (i + q)) st nn) sm (2 ^ nn)), ar E o1 64 (upd ((fO n ro wo (fil (fun st => ssF (fun q => ce (i + q)) st nn) sm (2 ^ nn)) nx sb (numF pu wo n) nn (2 ^ nn - 1 - (r + 1))).1) r (cS n ro wo (fil (fun st => ssF (fun q => ce (i + q)) st nn) sm (2 ^ nn)) ((fO n ro wo (fil (fun st => ssF (fun q => ce (i + q)) st nn) sm (2 ^ nn)) nx sb (numF pu wo n) nn (2 ^ nn - 1 - (r + 1))).2) (numF pu wo n) r nn).1), ar E o2 64 (upd ((fO n ro wo (fil (fun st => ssF (fun q => ce (i + q)) st nn) sm (2 ^ nn)) nx sb (numF pu wo n) nn (2 ^ nn - 1 - (r + 1))).2) r (cS n ro wo (fil (fun st => ssF (fun q => ce (i + q)) st nn) sm (2 ^ nn)) ((fO n ro wo (fil (fun st => ssF (fun q => ce (i + q)) st nn) sm (2 ^ nn)) nx sb (numF pu wo n) nn (2 ^ nn - 1 - (r + 1))).2) (numF pu wo n) r nn).2), ob h0 5 [.ref a0, .ref a1, .ref a2, .ref a3, .ref a4, .int (nI n), .int mo], ar E a2 6 pu, ar E a3 6 ro, ar E a4 6 wo, ob hs 3 [.ref qs, .int th, .int la, .int (nI ln)], ar E qs 60 ce] H := hP
                  have hD : va_D A [ob ho 1 [.ref o0, .ref o1, .ref o2], ar E o0 64 (fil (fun st => ssF (fun q => ce (i + q)) st nn) sm (2 ^ nn)), ar E o1 64 (upd ((fO n ro wo (fil (fun st => ssF (fun q => ce (i + q)) st nn) sm (2 ^ nn)) nx sb (numF pu wo n) nn (2 ^ nn - 1 - (r + 1))).1) r (cS n ro wo (fil (fun st => ssF (fun q => ce (i + q)) st nn) sm (2 ^ nn)) ((fO n ro wo (fil (fun st => ssF (fun q => ce (i + q)) st nn) sm (2 ^ nn)) nx sb (numF pu wo n) nn (2 ^ nn - 1 - (r + 1))).2) (numF pu wo n) r nn).1), ar E o2 64 (upd ((fO n ro wo (fil (fun st => ssF (fun q => ce (i + q)) st nn) sm (2 ^ nn)) nx sb (numF pu wo n) nn (2 ^ nn - 1 - (r + 1))).2) r (cS n ro wo (fil (fun st => ssF (fun q => ce (i + q)) st nn) sm (2 ^ nn)) ((fO n ro wo (fil (fun st => ssF (fun q => ce (i + q)) st nn) sm (2 ^ nn)) nx sb (numF pu wo n) nn (2 ^ nn - 1 - (r + 1))).2) (numF pu wo n) r nn).2), ob h0 5 [.ref a0, .ref a1, .ref a2, .ref a3, .ref a4, .int (nI n), .int mo], ar E a2 6 pu, ar E a3 6 ro, ar E a4 6 wo, ob hs 3 [.ref qs, .int th, .int la, .int (nI ln)], ar E qs 60 ce] := hD
                  refine lv_iinc (v := (nI r) - 1) (lv' := [(6, .int ((nI r) - 1)), (5, .int (nI ((2 ^ nn) - 1))), (0, .ref ho), (1, .ref h0), (2, .ref hs), (3, .int (nI i)), (4, .int (nI nn))]) hx hb dX1_find_107 hl (k := 0) rfl (m1_sub _) (by decide) rfl (fun ls hl => ?_)
                  refine lv_goto (tgt := 93) hx hb dX1_find_110 (by decide) ?_
                  have eF : fO n ro wo (fil (fun st => ssF (fun q => ce (i + q)) st nn) sm (2 ^ nn)) nx sb (numF pu wo n) nn (2 ^ nn - 1 - r) = (upd (fO n ro wo (fil (fun st => ssF (fun q => ce (i + q)) st nn) sm (2 ^ nn)) nx sb (numF pu wo n) nn (2 ^ nn - 1 - (r + 1))).1 r (cS n ro wo (fil (fun st => ssF (fun q => ce (i + q)) st nn) sm (2 ^ nn)) (fO n ro wo (fil (fun st => ssF (fun q => ce (i + q)) st nn) sm (2 ^ nn)) nx sb (numF pu wo n) nn (2 ^ nn - 1 - (r + 1))).2 (numF pu wo n) r nn).1, upd (fO n ro wo (fil (fun st => ssF (fun q => ce (i + q)) st nn) sm (2 ^ nn)) nx sb (numF pu wo n) nn (2 ^ nn - 1 - (r + 1))).2 r (cS n ro wo (fil (fun st => ssF (fun q => ce (i + q)) st nn) sm (2 ^ nn)) (fO n ro wo (fil (fun st => ssF (fun q => ce (i + q)) st nn) sm (2 ^ nn)) nx sb (numF pu wo n) nn (2 ^ nn - 1 - (r + 1))).2 (numF pu wo n) r nn).2) := by
                    have e1 : 2 ^ nn - 1 - r = (2 ^ nn - 1 - (r + 1)) + 1 := by omega
                    have e2 : 2 ^ nn - 2 - (2 ^ nn - 1 - (r + 1)) = r := by omega
                    rw [e1, fO, e2]
                  have hP : va_P E.1 vwCl [ob ho 1 [.ref o0, .ref o1, .ref o2], ar E o0 64 (fil (fun st => ssF (fun q => ce (i + q)) st nn) sm (2 ^ nn)), ar E o1 64 ((fO n ro wo (fil (fun st => ssF (fun q => ce (i + q)) st nn) sm (2 ^ nn)) nx sb (numF pu wo n) nn (2 ^ nn - 1 - r)).1), ar E o2 64 ((fO n ro wo (fil (fun st => ssF (fun q => ce (i + q)) st nn) sm (2 ^ nn)) nx sb (numF pu wo n) nn (2 ^ nn - 1 - r)).2), ob h0 5 [.ref a0, .ref a1, .ref a2, .ref a3, .ref a4, .int (nI n), .int mo], ar E a2 6 pu, ar E a3 6 ro, ar E a4 6 wo, ob hs 3 [.ref qs, .int th, .int la, .int (nI ln)], ar E qs 60 ce] H := by rw [eF]; exact hP
                  have hD : va_D A [ob ho 1 [.ref o0, .ref o1, .ref o2], ar E o0 64 (fil (fun st => ssF (fun q => ce (i + q)) st nn) sm (2 ^ nn)), ar E o1 64 ((fO n ro wo (fil (fun st => ssF (fun q => ce (i + q)) st nn) sm (2 ^ nn)) nx sb (numF pu wo n) nn (2 ^ nn - 1 - r)).1), ar E o2 64 ((fO n ro wo (fil (fun st => ssF (fun q => ce (i + q)) st nn) sm (2 ^ nn)) nx sb (numF pu wo n) nn (2 ^ nn - 1 - r)).2), ob h0 5 [.ref a0, .ref a1, .ref a2, .ref a3, .ref a4, .int (nI n), .int mo], ar E a2 6 pu, ar E a3 6 ro, ar E a4 6 wo, ob hs 3 [.ref qs, .int th, .int la, .int (nI ln)], ar E qs 60 ce] := va_D_addr hD [ho, o0, o1, o2, h0, a2, a3, a4, hs, qs] rfl rfl
                  exact ih93 r (by omega) (by omega) _ _ hP hD hS ls (lv_sub hl [0, 1, 2, 3, 4, 5, 6] rfl)
            exact L93 _ (2 ^ nn - 1) (by omega) (Nat.lt_succ_self _) _ _ hP hD hS ls (lv_sub hl [0, 1, 2, 3, 4, 5, 6] rfl)
          ·
            refine lv_iconst (v := 0) hx hb dX1_find_68 (by decide) ?_
            exact hret _ _ _ _ _ () dX1_find_69 rfl hS (by rw [if_neg c_5, if_neg c_5]; exact hP) (if_neg c_5).symm
        ·
          refine lv_aload_n hx hb dX1_find_32 rfl (lv_at hl 2 rfl) ?_
          refine va_get (D := E.1) (ci := 1) (v := .ref o0) (C := RX1) (T := TX1) (N := 3) hx hb hts hinX1 hown hK.1 hP 0 rfl rfl 0 (by decide) fl_11 (fun _ h9 => h9) rfl dX1_find_33 ?_
          refine lv_iload hx hb dX1_find_36 (lv_at hl 0 rfl) ?_
          refine lv_aload_n hx hb dX1_find_38 rfl (lv_at hl 4 rfl) ?_
          refine lv_iload_n hx hb dX1_find_39 rfl (lv_at hl 5 rfl) ?_
          refine lv_iload hx hb dX1_find_40 (lv_at hl 6 rfl) ?_
          refine lv_iload hx hb dX1_find_42 (lv_at hl 0 rfl) ?_
          refine crS (As := [.ref hs, .int (nI i), .int (nI nn), .int (nI k)]) (rest := [.int (nI k), .ref o0]) ⟨hx, hb, hml, hown, hts⟩ (c_X1_sumOfSet l E hs qs th la ln ce i nn k (by first | assumption | omega) (by first | assumption | omega) (by first | assumption | omega) (by first | assumption | omega)) (va_cwS 4 hts gX1_find_X1_sumOfSet rfl rfl rfl (by decide +kernel) ⟨Nat.le_of_ble_eq_true rfl, Nat.le_of_ble_eq_true rfl⟩) hK hP [8, 9] rfl rfl hl.1 rfl (catLe (Nat.le_of_ble_eq_true rfl)) dX1_find_44 ⟨Nat.zero_le _, Nat.zero_le _⟩ (fun r_9 hr_9 => ?_)
          subst hr_9
          refine ist hx hb hK hP hD hS 1 rfl (j := k) rfl (by omega) (by decide) dX1_find_47 (fun H locs hP hD hS => ?_)
          have hP : va_P E.1 vwCl [ob ho 1 [.ref o0, .ref o1, .ref o2], ar E o0 64 (upd (fil (fun st => ssF (fun q => ce (i + q)) st nn) sm k) k (ssF (fun q => ce (i + q)) k nn)), ar E o1 64 nx, ar E o2 64 sb, ob h0 5 [.ref a0, .ref a1, .ref a2, .ref a3, .ref a4, .int (nI n), .int mo], ar E a2 6 pu, ar E a3 6 ro, ar E a4 6 wo, ob hs 3 [.ref qs, .int th, .int la, .int (nI ln)], ar E qs 60 ce] H := hP
          have hD : va_D A [ob ho 1 [.ref o0, .ref o1, .ref o2], ar E o0 64 (upd (fil (fun st => ssF (fun q => ce (i + q)) st nn) sm k) k (ssF (fun q => ce (i + q)) k nn)), ar E o1 64 nx, ar E o2 64 sb, ob h0 5 [.ref a0, .ref a1, .ref a2, .ref a3, .ref a4, .int (nI n), .int mo], ar E a2 6 pu, ar E a3 6 ro, ar E a4 6 wo, ob hs 3 [.ref qs, .int th, .int la, .int (nI ln)], ar E qs 60 ce] := hD
          rw [show upd (fil (fun st => ssF (fun q => ce (i + q)) st nn) sm k) k (ssF (fun q => ce (i + q)) k nn) = fil (fun st => ssF (fun q => ce (i + q)) st nn) sm (k + 1) from fil_s (fun st => ssF (fun q => ce (i + q)) st nn) sm k] at hP hD
          refine lv_iinc (v := nI (k + 1)) (lv' := [(6, .int (nI (k + 1))), (5, .int (nI ((2 ^ nn) - 1))), (0, .ref ho), (1, .ref h0), (2, .ref hs), (3, .int (nI i)), (4, .int (nI nn))]) hx hb dX1_find_48 hl (k := 0) rfl (nI_inc k) (by decide) rfl (fun ls hl => ?_)
          refine lv_goto (tgt := 25) hx hb dX1_find_51 (by decide) ?_
          exact ih25 (k + 1) (by omega) (by omega) _ _ hP hD hS ls (lv_sub hl [0, 1, 2, 3, 4, 5, 6] rfl)
    exact L25 _ 0 (by omega) (Nat.lt_succ_self _) _ _ hP hD hS ls (lv_sub hl [0, 1, 2, 3, 4, 5, 6] rfl)
  ·
    omega
