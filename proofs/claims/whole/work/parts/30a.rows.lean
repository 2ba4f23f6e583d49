/-! constructors: new arrays, new objects, what comes back -/
section GNEW
variable {p : Program} {l : Launch} {e : Env} {R : Room} {s : State} {m : MethodId} {args : Array Value} {below : List Frame} {meth : Method} {c : Code} {H : Heap} {locs : List Loc} {cells slots : Nat} {Q : State → Prop} {cc : ByteArray} {pc : Nat} {ls : Array Slot} {rest : List Value} {E : gE} {ws : va_W} {A : Nat → Prop} {H0 : Heap}
theorem nai (hexec : p.tables.exec = Jvm.exec) (hb : c.code = cc) (harr : (Cond.arrayClass .int).before args s = true) (hK : KK E s) (hP : va_P E.1 vwCl ws H) (hD : va_D A ws) (hS : va_S A H0 H locs) (hA : ∀ q, H0.size ≤ q → A q) {n : Int32} (N : Nat) (hn : n = nI N) (hN : N ≤ 1000) (hcells : cells + 1 ≤ R.cells) (hslots : slots + N ≤ R.slots) (hdg : decode cc pc = .ok (.newarray .int, 2))
    (kk : ∀ (q : Nat) (H1 : Heap), va_P E.1 vwCl (ws ++ [ar E q N (fun _ => 0)]) H1 → va_D A (ws ++ [ar E q N (fun _ => 0)]) → va_S A H0 H1 locs → W p l e R s m args below meth c H1 locs (cells + 1) (slots + N) Q (F0 m (pc + 2) ls (.ref q :: rest))) : W p l e R s m args below meth c H locs cells slots Q (F0 m pc ls (.int n :: rest)) := by
  subst hn
  refine va_newa (atype := .int) (ty := .int) (a0 := (N, .inl (fun _ => 0))) hexec hb harr rfl hK.1 hP hD hS hA (fun cA => by rw [vp_cell_i]; rfl) (nI_pos (by omega)) (nI_clamp (by omega)) (by show N * 4 ≤ 536870912; omega) hcells hslots hdg (fun q cA H1 hK1 hP1 hD1 hS1 => ?_)
  have e1 : va_RA s cA .int := (hK1.2 3 (cA, .int) rfl).2
  have e2 : va_RA s E.2.1 .int := (hK.1.2 0 (E.2.1, .int) rfl).2
  have e3 : cA = E.2.1 := Option.some.inj (e1.symm.trans e2)
  subst e3
  exact kk q H1 hP1 hD1 hS1
theorem nal (hexec : p.tables.exec = Jvm.exec) (hb : c.code = cc) (harr : (Cond.arrayClass .long).before args s = true) (hK : KK E s) (hP : va_P E.1 vwCl ws H) (hD : va_D A ws) (hS : va_S A H0 H locs) (hA : ∀ q, H0.size ≤ q → A q) {n : Int32} (N : Nat) (hn : n = nI N) (hN : N ≤ 1000) (hcells : cells + 1 ≤ R.cells) (hslots : slots + N ≤ R.slots) (hdg : decode cc pc = .ok (.newarray .long, 2))
    (kk : ∀ (q : Nat) (H1 : Heap), va_P E.1 vwCl (ws ++ [al E q N (fun _ => 0)]) H1 → va_D A (ws ++ [al E q N (fun _ => 0)]) → va_S A H0 H1 locs → W p l e R s m args below meth c H1 locs (cells + 1) (slots + N) Q (F0 m (pc + 2) ls (.ref q :: rest))) : W p l e R s m args below meth c H locs cells slots Q (F0 m pc ls (.int n :: rest)) := by
  subst hn
  refine va_newa (atype := .long) (ty := .long) (a0 := (N, .inr (.inl (fun _ => 0)))) hexec hb harr rfl hK.1 hP hD hS hA (fun cA => by rw [vp_cell_l]; rfl) (nI_pos (by omega)) (nI_clamp (by omega)) (by show N * 8 ≤ 536870912; omega) hcells hslots hdg (fun q cA H1 hK1 hP1 hD1 hS1 => ?_)
  have e1 : va_RA s cA .long := (hK1.2 3 (cA, .long) rfl).2
  have e2 : va_RA s E.2.2.1 .long := (hK.1.2 1 (E.2.2.1, .long) rfl).2
  have e3 : cA = E.2.2.1 := Option.some.inj (e1.symm.trans e2)
  subst e3
  exact kk q H1 hP1 hD1 hS1
theorem naq (hexec : p.tables.exec = Jvm.exec) (hb : c.code = cc) {own : String} {index : Nat} (hown : s.vm.findClass own = some m.cls) (hcl : (Cond.classLink own index RX3).before args s = true) (hover : va_AO RX3 s) (hK : KK E s) (hP : va_P E.1 vwCl ws H) (hD : va_D A ws) (hS : va_S A H0 H locs) (hA : ∀ q, H0.size ≤ q → A q) {n : Int32} (N : Nat) (hn : n = nI N) (hN : N ≤ 1000) (hcells : cells + 1 ≤ R.cells) (hslots : slots + N ≤ R.slots) (hdg : decode cc pc = .ok (.anewarray index, 3))
    (kk : ∀ (q : Nat) (H1 : Heap), va_P E.1 vwCl (ws ++ [aq E q N (fun _ => none)]) H1 → va_D A (ws ++ [aq E q N (fun _ => none)]) → va_S A H0 H1 locs → W p l e R s m args below meth c H1 locs (cells + 1) (slots + N) Q (F0 m (pc + 3) ls (.ref q :: rest))) : W p l e R s m args below meth c H locs cells slots Q (F0 m pc ls (.int n :: rest)) := by
  subst hn
  refine va_newq (C := RX3) hexec hb hown hcl hover hK.1 hP hD hS hA (nI_pos (by omega)) (nI_clamp (by omega)) (by omega) hcells hslots hdg (fun q cA H1 hK1 hP1 hD1 hS1 => ?_)
  obtain ⟨-, -, -, -, -, e1⟩ : va_RA s cA (.object RX3) := (hK1.2 3 (cA, .object RX3) rfl).2
  obtain ⟨-, -, -, -, -, e2⟩ : va_RA s E.2.2.2 (.object RX3) := (hK.1.2 2 (E.2.2.2, .object RX3) rfl).2
  have e3 : cA = E.2.2.2 := Option.some.inj (e1.symm.trans e2)
  subst e3
  exact kk q H1 hP1 hD1 hS1
theorem asq (hexec : p.tables.exec = Jvm.exec) (hb : c.code = cc) (hK : KK E s) (hP : va_P E.1 vwCl ws H) (hD : va_D A ws) (hS : va_S A H0 H locs) (q0 qk : Nat) {a n v : Nat} {vs : List Value} {f : Nat → Option Nat} (ha : ws[q0]? = some (aq E a n f)) (hv : ws[qk]? = some (v, .inr (3, vs))) {i : Int32} (j : Nat) (hi : i = nI j) (hj : j < n) (hn : n < 2 ^ 31) (hdg : decode cc pc = .ok (.aastore, 1))
    (kk : ∀ (H1 : Heap) (locs1 : List Loc), va_P E.1 vwCl (ws.set q0 (aq E a n (va_up f j (some v)))) H1 → va_D A (ws.set q0 (aq E a n (va_up f j (some v)))) → va_S A H0 H1 locs1 → W p l e R s m args below meth c H1 locs1 cells slots Q (F0 m (pc + 1) ls rest)) : W p l e R s m args below meth c H locs cells slots Q (F0 m pc ls (.ref v :: .int i :: .ref a :: rest)) := by
  subst hi
  have hc := nI_clamp (Nat.lt_trans hj hn)
  refine va_astq hexec hb hK.1 hP hD hS q0 2 qk 3 (r := (RX3, TX3, 4)) ha rfl hv rfl (vp_in_nI hj hn) hdg ?_
  rw [hc]
  exact kk
end GNEW
abbrev QN {S : Type} (E : gE) (wo : S → va_W) (A : Nat → Prop) : Array Value → State → Outcome → State → Prop := va_Qv (fun _ : S => True) (fun u t => va_P E.1 vwCl (wo u) t.heap ∧ va_D A (wo u)) A
def PN (E : gE) (av : List Value) (ws : va_W) (sz : Nat) : Array Value → State → Prop := va_Pc av (fun U => U.heap.size = sz ∧ va_P E.1 vwCl ws U.heap ∧ KK E U ∧ va_D (fun _ => True) ws ∧ va_AO RX3 U)
theorem va_AO.calling {U : State} {g : JFrame} {mk : MethodId} {a : Array Value} (h : va_AO RX3 U) : va_AO RX3 (U.calling g mk a) := va_AO.moved (u := U) (U := U.calling g mk a) (Vm.Alike.refl U.vm) h
theorem PN.blind {E : gE} {av : List Value} {ws : va_W} {sz : Nat} : FrameBlind (PN E av ws sz) := fun _ _ _ _ q => ⟨q.1, q.2.1, q.2.2.1, q.2.2.2.1.calling, q.2.2.2.2.1, q.2.2.2.2.2.calling⟩
theorem mkN {l : Launch} {y : MethodName} {wsy ws' : List Cond} {rm : Room} {E : gE} {av : List Value} {ws : va_W} {cc : ByteArray} {maxL mc ms sz : Nat} {S : Type} {wo : S → va_W} (hy : plainName y.cls = true) (hw : wsy = Cond.code y cc maxL none :: ws') (hlen : (lg_sl av).length ≤ maxL)
    (body : ∀ (p : Program) (e : Env) (s : State) (m : MethodId) (args : Array Value) (below : List Frame) (meth : Method) (c : Code) (QQ : State → Prop) (A : Nat → Prop), p.tables.exec = Jvm.exec → c.code = cc → c.maxLocals = maxL → s.vm.findClass y.cls = some m.cls → meth.name = y.name → (∀ w ∈ wsy, w.before args s = true) → KK E s → va_AO RX3 s → (∀ q : Nat, s.heap.size ≤ q → A q) → va_P E.1 vwCl ws s.heap → va_D A ws → va_S A s.heap s.heap [] → (∀ (pc : Nat) (ls : Array Slot) (H : Heap) (locs : List Loc) (u : S), decode cc pc = .ok (.return_, 1) → va_S A s.heap H locs → va_P E.1 vwCl (wo u) H → va_D A (wo u) → W p l e rm s m args below meth c H locs mc ms QQ (F0 m pc ls [])) → ∀ ls : Array Slot, lv_has ls maxL (lv_args 0 av) →
      W p l e rm s m args below meth c s.heap [] 0 0 QQ (F0 m 0 ls [])) : Met l y wsy rm (PN E av ws sz) (QN E wo (va_A ws sz)) mc ms (va_A ws sz) := by
  refine Met.ofW (cc := cc) (maxL := maxL) (ret := none) hy hw ?_
  intro p e s m args below meth c s₁ B hml hv
  obtain ⟨rfl, rfl, hP, hK, hD, hO⟩ := hv
  have hl := lv_entry av (n := maxL) hlen
  rw [lg_entry_eq]
  exact body p e s m _ below meth c _ _ B.exec B.bytes hml (findClass_of_methodNamed B.named) (name_of_methodNamed B.named B.method).1 (atoms_spec (ws := wsy) B.pre) hK hO (fun q h => Or.inr h) hP hD.self va_S.rf (fun pc ls H locs u hd hS hP1 hD1 => W.vret B.exec B.bytes B.returns (fun t ht _ => ⟨⟨u, rfl, trivial, by show va_P _ _ _ _; rw [ht]; exact hP1, hD1⟩, hS.F ht⟩) hS.2.2 hd B.notSynchronized) _ hl
section GCTOR
variable {p : Program} {l : Launch} {e : Env} {R : Room} {s : State} {m : MethodId} {args : Array Value} {below : List Frame} {meth : Method} {c : Code} {H : Heap} {locs : List Loc} {cells slots : Nat} {Q : State → Prop}
variable {y : MethodName} {bytes cc : ByteArray} {maxL nL index pc mc ms : Nat} {wsy Ts : List Cond} {rm : Room} {own : String} {b : Addr} {rest : List Value} {ls : Array Slot} {E : gE} {wl wc wr : va_W} {A : Nat → Prop} {H0 : Heap}
theorem cnI {S : Type} {wo : S → va_W} {host : String} (S0 : CallFix p m c cc nL s args Ts own) (hM : Met l y wsy rm (PN E [.ref b] wc H.size) (QN E wo (va_A wc H.size)) mc ms (va_A wc H.size)) (cw : va_CN R s args own index y host bytes maxL none wsy rm mc ms 0 ∧ y.name = "<init>" ∧ (Cond.instanceMethod y).before args s = true) (hK : KK E s) (hO : va_AO RX3 s) (hP : va_P E.1 vwCl wl H) (hD : va_D A wl) (hS : va_S A H0 H locs) (hA : ∀ q, H0.size ≤ q → A q) (isC isR : List Nat) (hC : isC.map (fun i => wl[i]?) = wc.map some) (hR : isR.map (fun i => wl[i]?) = wr.map some) (hnc : va_nd isC = true) (hnr : va_nd isR = true) (hdis : ∀ i ∈ isR, i ∉ isC) (hsize : ls.size = nL) (hW : (rest.map fun v => v.category).sum ≤ 8) (hdg : decode cc pc = .ok (.invokespecial index, 3)) (hf : cells + mc ≤ R.cells ∧ slots + ms ≤ R.slots)
    (kk : ∀ (u : S) (H1 : Heap) (locs1 : List Loc), va_P E.1 vwCl (wr ++ wo u) H1 → va_D A (wr ++ wo u) → va_S A H0 H1 locs1 → W p l e R s m args below meth c H1 locs1 (cells + mc) (slots + ms) Q (F0 m (pc + 3) ls rest)) : W p l e R s m args below meth c H locs cells slots Q (F0 m pc ls (.ref b :: rest)) := by
  have hPc := hP.sub isC (fm_of hC)
  have hDc := hD.sub isC hnc hC
  have hFc := va_free hD hS hA isC hC
  refine va_callv (va_runIN (As := []) S0 hM cw ⟨PN.blind, fun U hU hW => ⟨rfl, by rw [hU], by rw [hU]; exact hPc, hK.warm hW, hDc.weaken (fun _ _ _ _ => trivial), va_AO.moved hW.alike hO⟩⟩ rfl rfl hsize rfl (lv_room hW) hdg hf) hS (fun q _ h => hFc q h) hFc (fun u t H1 locs1 ht hvm hw hB hz1 hk1 hS1 => ?_)
  obtain ⟨hP1, hD1⟩ := hB
  rw [ht] at hP1
  obtain ⟨hP2, hD2⟩ := va_join hP hD isC isR hC hR hnr hdis hk1 hFc hP1 hD1
  exact kk u H1 locs1 hP2 hD2 hS1
theorem cnU {S : Type} {wo : S → va_W} (S0 : CallFix p m c cc nL s args Ts own) (hM : Met l y wsy rm (PN E [.ref b] wc H.size) (QN E wo (va_A wc H.size)) mc ms (va_A wc H.size)) (cw : CallB R s args own index y bytes maxL none wsy rm mc ms 0 ∧ y.name = "<init>" ∧ (Cond.instanceMethod y).before args s = true) (hK : KK E s) (hO : va_AO RX3 s) (hP : va_P E.1 vwCl wl H) (hD : va_D A wl) (hS : va_S A H0 H locs) (hA : ∀ q, H0.size ≤ q → A q) (isC isR : List Nat) (hC : isC.map (fun i => wl[i]?) = wc.map some) (hR : isR.map (fun i => wl[i]?) = wr.map some) (hnc : va_nd isC = true) (hnr : va_nd isR = true) (hdis : ∀ i ∈ isR, i ∉ isC) (hsize : ls.size = nL) (hW : (rest.map fun v => v.category).sum ≤ 8) (hdg : decode cc pc = .ok (.invokespecial index, 3)) (hf : cells + mc ≤ R.cells ∧ slots + ms ≤ R.slots)
    (kk : ∀ (u : S) (H1 : Heap) (locs1 : List Loc), va_P E.1 vwCl (wr ++ wo u) H1 → va_D A (wr ++ wo u) → va_S A H0 H1 locs1 → W p l e R s m args below meth c H1 locs1 (cells + mc) (slots + ms) Q (F0 m (pc + 3) ls rest)) : W p l e R s m args below meth c H locs cells slots Q (F0 m pc ls (.ref b :: rest)) := by
  have hPc := hP.sub isC (fm_of hC)
  have hDc := hD.sub isC hnc hC
  have hFc := va_free hD hS hA isC hC
  refine va_callv (va_runI (As := []) S0 hM cw ⟨PN.blind, fun U hU hW => ⟨rfl, by rw [hU], by rw [hU]; exact hPc, hK.warm hW, hDc.weaken (fun _ _ _ _ => trivial), va_AO.moved hW.alike hO⟩⟩ rfl rfl hsize rfl (lv_room hW) hdg hf) hS (fun q _ h => hFc q h) hFc (fun u t H1 locs1 ht hvm hw hB hz1 hk1 hS1 => ?_)
  obtain ⟨hP1, hD1⟩ := hB
  rw [ht] at hP1
  obtain ⟨hP2, hD2⟩ := va_join hP hD isC isR hC hR hnr hdis hk1 hFc hP1 hD1
  exact kk u H1 locs1 hP2 hD2 hS1
end GCTOR
