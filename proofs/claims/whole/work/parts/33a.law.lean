/-! THE CLAIM OUT OF ONE WALK OF THE LAW'S BODY. Your part is whole_start (and what it stands on); all else here is the same for every law, but numbers. -/
def R_law : String := "GuardAbacusLaw"
def lw_P (b : Addr) (xs : List Int32) (args : Array Value) (s : State) : Prop := args = #[.ref b] ∧ s.IntsAt b xs ∧ xs.length ≤ 3072 ∧ (Jvm.Cond.and given_1 narrow_1).before args s = true
def lw_Q (_ : Array Value) (s : State) (o : Outcome) (t : State) : Prop := o = .returned (some (.int 1)) ∧ Framed s o t [] 600000 7302250
def lw_Z (below : List Frame) (a : Array Value) (s : State) : State → Prop := fun t => ∃ o, t.status = .running ∧ Ended t below o ∧ lw_Q a s o t
/-- the law's own end, with 1 on the stack, nothing written that was there before, its room as the claim has it -/
theorem lw_ret {p : Program} {l : Launch} {e : Env} {s : State} {m : MethodId} {below : List Frame} {meth : Method} {c : Code} {b : Nat} (hx : p.tables.exec = Jvm.exec) (hb : c.code = code) (hr : meth.sig.returnType = ret) (hlocks : meth.locks = false) {pc : Nat} {H : Heap} {ls : Array Slot} (hdg : decode code pc = .ok (.ireturn, 1)) : W p l e room_1 s m #[Value.ref b] below meth c H [] 600000 7302250 (lw_Z below #[Value.ref b] s) (F0 m pc ls [.int 1]) := by
  intro T hT X
  obtain ⟨fs, hret, hrun, hended, hW, hframe⟩ := X.leave (v := some (.int 1)) (hlocks := hlocks) (fun h => by rw [hr] at h; cases h)
  have hmeth' : T.vm.method? m = some meth := X.method'
  refine ⟨T.setFrames fs, ?_, .returned (some (.int 1)), hrun, hended, rfl, ⟨_, rfl⟩, hW, hframe⟩
  jvm_step X.here [X.here.top, hx, hb, hdg, hmeth', hr, ret, narrow_b1]
  (try refine ⟨rfl, ?_⟩); (try refine ⟨rfl, ?_⟩)
  first | (intro acts; rw [hret _ acts rfl rfl rfl]) | rw [hret _ _ rfl rfl rfl]
  exact Steps.refl _
/-- what holds at the law's entry: the machine, the code, the tables' words (any of lw_tbl by 'hts w (by decide +kernel)'), the script of L ints xs at the cell b, what the Statement gives of the start (any of its parts by flat_of_before) -/
def lw_At (p : Program) (s : State) (m : MethodId) (meth : Method) (c : Code) (b L : Nat) (xs : Nat → Int32) : Prop :=
  p.tables.exec = Jvm.exec ∧ c.code = code ∧ meth.sig.returnType = ret ∧ c.maxLocals = 4 ∧ s.vm.findClass R_law = some m.cls ∧ (∀ w ∈ lw_tbl, w.before #[Value.ref b] s = true) ∧ va_X b L xs s s.heap ∧ b < s.heap.size ∧ meth.locks = false ∧ (Jvm.Cond.and given_1 narrow_1).before #[Value.ref b] s = true
section LSLD
variable {p : Program} {l : Launch} {e : Env} {R : Room} {s : State} {m : MethodId} {args : Array Value} {below : List Frame} {meth : Method} {c : Code} {H : Heap} {locs : List Loc} {cells slots : Nat} {Q : State → Prop} {cc : ByteArray} {pc : Nat} {ls : Array Slot} {rest : List Value} {A : Nat → Prop} {H0 : Heap}
theorem sld (hexec : p.tables.exec = Jvm.exec) (hb : c.code = cc) {b L : Nat} {xs : Nat → Int32} (hX : va_X b L xs s H0) (hbl : b < H0.size) (hbA : ¬ A b) (hS : va_S A H0 H locs) (hL : L ≤ 3072) {i : Int32} (j : Nat) (hi : i = nI j) (hj : j < L) (hdg : decode cc pc = .ok (.iaload, 1))
    (kk : W p l e R s m args below meth c H locs cells slots Q (F0 m (pc + 1) ls (.int (xs j) :: rest))) : W p l e R s m args below meth c H locs cells slots Q (F0 m pc ls (.int i :: .ref b :: rest)) := by
  subst hi
  refine va_sld hexec hb hX hbl hbA hS (vp_in_nI hj (by omega)) hdg ?_
  rw [nI_clamp (by omega)]
  exact kk
end LSLD
theorem sh_ex (x : Int32) : ∃ j, j < 4 ∧ (shP x → x = nI j) := by
  by_cases h : shP x
  · obtain ⟨j, h1, h2⟩ := shP_of h
    exact ⟨j, h1, fun _ => h2⟩
  · exact ⟨0, by decide, fun q => absurd q h⟩
theorem lp_lt {L i : Nat} (hL : L ≤ 3072) (hi : i ≤ L) (h : ¬ Int32.ofNat L - 6 < nI i) : i + 6 ≤ L := by
  have a := Int32.le_iff_toInt_le.mp (Int32.not_lt.mp h)
  have e : (Int32.ofNat L - 6).toInt = (L : Int) - 6 := pk_sub_toInt (a := L) (b := 6) (by omega) (by decide)
  rw [e, nI_toInt (by omega)] at a
  omega
theorem Ir_frame {OK : Prop} [Decidable OK] {n rc K : Nat} {rw : Nat → Int32} (h : Ir n rc rw) : Ir (if OK then K else n) (if OK then 0 else rc) rw := by
  by_cases q : OK
  · rw [if_pos q, if_pos q]; exact ⟨by decide, fun r hr => absurd hr (Nat.not_lt_zero r)⟩
  · rw [if_neg q, if_neg q]; exact h
theorem E_frame {sheet lane i x th la so : Int32} {ln : Nat} {ce kd mn pu : Nat → Int32} (h1 : th = thM so) (h2 : ¬ so = -9 → la = so) : (if ¬ rtK sheet lane i x 1 th la ln = 0 then rtK sheet lane i x 1 th la ln else if ¬ frV ce i x kd mn pu = -9 then -100 - frV ce i x kd mn pu else nI (frT ce i x kd mn pu).1) = (if ¬ rtK sheet lane i x 1 (thM so) so ln = 0 then rtK sheet lane i x 1 (thM so) so ln else if ¬ tResA (frG ce i) (ix x) = -9 then -100 - tResA (frG ce i) (ix x) else nI ((ix x - 1) / 4)) := by
  rw [rt_congr h1 h2, E_frV]
  by_cases c : tResA (frG ce i) (ix x) = -9
  · rw [(E_frT c).2]
  · rw [if_pos c, if_pos c]
theorem n_frame {OK : Prop} [Decidable OK] {ce kd mn pu : Nat → Int32} {i x : Int32} {n : Nat} (h : OK → tResA (frG ce i) (ix x) = -9) : (if OK then (frT ce i x kd mn pu).1 else n) = (if OK then (ix x - 1) / 4 else n) := by
  by_cases q : OK
  · rw [if_pos q, if_pos q, (E_frT (h q)).2]
  · rw [if_neg q, if_neg q]
theorem I_frame {OK : Prop} [Decidable OK] {n : Nat} {mo : Int32} {ce kd mn pu ro wo kd3 mn3 pu3 kd' mn' pu' : Nat → Int32} {i x : Int32} (hO : OK → tResA (frG ce i) (ix x) = -9) (h : Iw n mo kd mn pu ro wo kd' mn' pu') :
    Iw (if OK then (ix x - 1) / 4 else n) (if OK then woF (frT ce i x kd3 mn3 pu3).2.1 (frT ce i x kd3 mn3 pu3).2.2.1 (frT ce i x kd3 mn3 pu3).1 - 1 else mo) (if OK then (frT ce i x kd3 mn3 pu3).2.1 else kd) (if OK then (frT ce i x kd3 mn3 pu3).2.2.1 else mn) (if OK then (frT ce i x kd3 mn3 pu3).2.2.2 else pu)
      (if OK then fil (rmF (frT ce i x kd3 mn3 pu3).2.1 (frT ce i x kd3 mn3 pu3).2.2.1) ro (frT ce i x kd3 mn3 pu3).1 else ro) (if OK then fil (woF (frT ce i x kd3 mn3 pu3).2.1 (frT ce i x kd3 mn3 pu3).2.2.1) wo (frT ce i x kd3 mn3 pu3).1 else wo)
      (if OK then fil (fun w => kdF ((frG ce i) (4 * w + 2))) kd' ((ix x - 1) / 4) else kd') (if OK then fil (fun w => (frG ce i) (4 * w + 3) - 48) mn' ((ix x - 1) / 4) else mn') (if OK then fil (fun w => (frG ce i) (4 * w + 4) - 48) pu' ((ix x - 1) / 4) else pu') := by
  by_cases q : OK
  · rw [if_pos q, if_pos q, if_pos q, if_pos q, if_pos q, if_pos q, if_pos q, if_pos q, if_pos q, if_pos q]; exact I_new (hO q)
  · rw [if_neg q, if_neg q, if_neg q, if_neg q, if_neg q, if_neg q, if_neg q, if_neg q, if_neg q, if_neg q]; exact h
/-- what stands at the end of a case: all goes on -/
def LNX (p : Program) (l : Launch) (e : Env) (s : State) (m : MethodId) (below : List Frame) (meth : Method) (c : Code) (b : Nat) (A : Nat → Prop) (E : gE) (g0 h0 a0 a1 a2 a3 a4 k0 b0 b1 b2 b3 b4 gs ht v0 v1 v2 v3 v4 v5 hd ho o0 o1 o2 hr s0 s1 s2 fo wy p0 q0 p1 q1 p2 q2 p3 q3 m0 z0 z1 z2 y0 y1 y2 y3 y4 y5 y6 x0 x1 x2 x3 : Nat) (sa : Nat → Option Nat) (i : Nat) : Prop := ∀ (tr : Int32) (lf : Int32) (n : Nat) (mo : Int32) (kd : Nat → Int32) (mn : Nat → Int32) (pu : Nat → Int32) (ro : Nat → Int32) (wo : Nat → Int32) (n2 : Nat) (mo2 : Int32) (kd2 : Nat → Int32) (mn2 : Nat → Int32) (pu2 : Nat → Int32) (ro2 : Nat → Int32) (wo2 : Nat → Int32) (n3 : Nat) (mo3 : Int32) (kd3 : Nat → Int32) (mn3 : Nat → Int32) (pu3 : Nat → Int32) (ro3 : Nat → Int32) (wo3 : Nat → Int32) (fw : Int32) (sl : Int32) (cr : Int32) (gr : Int32) (sm : Nat → Int32) (nx : Nat → Int32) (sb : Nat → Int32) (rc : Nat) (rsv : Nat → Int32) (rwv : Nat → Int32) (rfv : Nat → Int32) (fwA : Nat → Int32) (wv : Nat → Int64) (th : Nat → Int32) (la : Nat → Int32) (ln : Nat → Nat) (at_ : Int32) (rwi : Int32) (sl' : Int32) (cr' : Int32) (gr' : Int32) (so : Nat → Int32) (sg : Nat → Int32) (cc : Nat → Int32) (kd' : Nat → Int32) (mn' : Nat → Int32) (pu' : Nat → Int32) (rd : Nat → Int32) (kp : Nat → Int32) (row : Nat → Int32) (coins : Nat → Int32) (wv' : Nat → Int32), Iw n mo kd mn pu ro wo kd' mn' pu' → Ir n rc rwv → Is th la ln so sg → ∀ (H : Heap) (locs : List Loc), va_P E.1 vwCl [ob g0 6 [.ref h0, .ref k0, .ref gs, .ref ht, .ref hd, .ref ho, .ref hr, .ref fo, .ref wy, .int tr, .int lf], ob h0 5 [.ref a0, .ref a1, .ref a2, .ref a3, .ref a4, .int (nI n), .int mo], ar E a0 6 kd, ar E a1 6 mn, ar E a2 6 pu, ar E a3 6 ro, ar E a4 6 wo, ob k0 5 [.ref b0, .ref b1, .ref b2, .ref b3, .ref b4, .int (nI n2), .int mo2], ar E b0 6 kd2, ar E b1 6 mn2, ar E b2 6 pu2, ar E b3 6 ro2, ar E b4 6 wo2, aq E gs 4 sa, ob ht 4 [.ref v0], ob v0 5 [.ref v1, .ref v2, .ref v3, .ref v4, .ref v5, .int (nI n3), .int mo3], ar E v1 6 kd3, ar E v2 6 mn3, ar E v3 6 pu3, ar E v4 6 ro3, ar E v5 6 wo3, ob hd 0 [.int fw, .int sl, .int cr, .int gr], ob ho 1 [.ref o0, .ref o1, .ref o2], ar E o0 64 sm, ar E o1 64 nx, ar E o2 64 sb, ob hr 2 [.ref s0, .ref s1, .ref s2, .int (nI rc)], ar E s0 8 rsv, ar E s1 8 rwv, ar E s2 8 rfv, ar E fo 1000 fwA, al E wy 109 wv, ob p0 3 [.ref q0, .int (th 0), .int (la 0), .int (nI (ln 0))], ar E q0 60 (fun q => cc (60 * 0 + q)), ob p1 3 [.ref q1, .int (th 1), .int (la 1), .int (nI (ln 1))], ar E q1 60 (fun q => cc (60 * 1 + q)), ob p2 3 [.ref q2, .int (th 2), .int (la 2), .int (nI (ln 2))], ar E q2 60 (fun q => cc (60 * 2 + q)), ob p3 3 [.ref q3, .int (th 3), .int (la 3), .int (nI (ln 3))], ar E q3 60 (fun q => cc (60 * 3 + q)), ob m0 7 [.int lf, .int tr, .ref z0, .ref z1, .ref z2, .int (nI n), .ref y0, .ref y1, .ref y2, .int at_, .int rwi, .ref y3, .ref y4, .int sl', .int cr', .int gr', .ref y5, .ref y6, .int (nI rc), .ref x0, .ref x1, .ref x2, .ref x3], ar E z0 4 so, ar E z1 4 sg, ar E z2 240 cc, ar E y0 6 kd', ar E y1 6 mn', ar E y2 6 pu', ar E y3 18 rd, ar E y4 6 kp, ar E y5 6 row, ar E y6 1000 coins, ar E x0 8 rsv, ar E x1 8 rwv, ar E x2 8 rfv, ar E x3 109 wv'] H → va_D A [ob g0 6 [.ref h0, .ref k0, .ref gs, .ref ht, .ref hd, .ref ho, .ref hr, .ref fo, .ref wy, .int tr, .int lf], ob h0 5 [.ref a0, .ref a1, .ref a2, .ref a3, .ref a4, .int (nI n), .int mo], ar E a0 6 kd, ar E a1 6 mn, ar E a2 6 pu, ar E a3 6 ro, ar E a4 6 wo, ob k0 5 [.ref b0, .ref b1, .ref b2, .ref b3, .ref b4, .int (nI n2), .int mo2], ar E b0 6 kd2, ar E b1 6 mn2, ar E b2 6 pu2, ar E b3 6 ro2, ar E b4 6 wo2, aq E gs 4 sa, ob ht 4 [.ref v0], ob v0 5 [.ref v1, .ref v2, .ref v3, .ref v4, .ref v5, .int (nI n3), .int mo3], ar E v1 6 kd3, ar E v2 6 mn3, ar E v3 6 pu3, ar E v4 6 ro3, ar E v5 6 wo3, ob hd 0 [.int fw, .int sl, .int cr, .int gr], ob ho 1 [.ref o0, .ref o1, .ref o2], ar E o0 64 sm, ar E o1 64 nx, ar E o2 64 sb, ob hr 2 [.ref s0, .ref s1, .ref s2, .int (nI rc)], ar E s0 8 rsv, ar E s1 8 rwv, ar E s2 8 rfv, ar E fo 1000 fwA, al E wy 109 wv, ob p0 3 [.ref q0, .int (th 0), .int (la 0), .int (nI (ln 0))], ar E q0 60 (fun q => cc (60 * 0 + q)), ob p1 3 [.ref q1, .int (th 1), .int (la 1), .int (nI (ln 1))], ar E q1 60 (fun q => cc (60 * 1 + q)), ob p2 3 [.ref q2, .int (th 2), .int (la 2), .int (nI (ln 2))], ar E q2 60 (fun q => cc (60 * 2 + q)), ob p3 3 [.ref q3, .int (th 3), .int (la 3), .int (nI (ln 3))], ar E q3 60 (fun q => cc (60 * 3 + q)), ob m0 7 [.int lf, .int tr, .ref z0, .ref z1, .ref z2, .int (nI n), .ref y0, .ref y1, .ref y2, .int at_, .int rwi, .ref y3, .ref y4, .int sl', .int cr', .int gr', .ref y5, .ref y6, .int (nI rc), .ref x0, .ref x1, .ref x2, .ref x3], ar E z0 4 so, ar E z1 4 sg, ar E z2 240 cc, ar E y0 6 kd', ar E y1 6 mn', ar E y2 6 pu', ar E y3 18 rd, ar E y4 6 kp, ar E y5 6 row, ar E y6 1000 coins, ar E x0 8 rsv, ar E x1 8 rwv, ar E x2 8 rfv, ar E x3 109 wv'] → va_S A s.heap H locs → ∀ ls : Array Slot, lv_has ls 4 [(0, .ref b), (1, .ref g0), (2, .ref m0), (3, .int (nI i))] → W p l e room_1 s m #[Value.ref b] below meth c H locs 55 3171 (lw_Z below #[Value.ref b] s) (F0 m 1183 ls [])
