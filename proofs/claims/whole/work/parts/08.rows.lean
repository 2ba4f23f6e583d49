/-! rows of the writer's own over the kit: worlds with one class number for all int arrays; readers and writers as contracts; branches on numbers -/
abbrev gE : Type := va_G × (ClassId × ClassId × ClassId)
abbrev ar (E : gE) (a n : Nat) (f : Nat → Int32) : Nat × va_E := (a, .inl (E.2.1, n, .inl f))
abbrev al (E : gE) (a n : Nat) (f : Nat → Int64) : Nat × va_E := (a, .inl (E.2.2.1, n, .inr (.inl f)))
abbrev aq (E : gE) (a n : Nat) (f : Nat → Option Nat) : Nat × va_E := (a, .inl (E.2.2.2, n, .inr (.inr (.inr (.inr f)))))
abbrev ob (a ci : Nat) (fs : List Value) : Nat × va_E := (a, .inr (ci, fs))
abbrev gT (E : gE) : List (ClassId × FieldType) := [(E.2.1, .int), (E.2.2.1, .long), (E.2.2.2, .object RX3)]
def KN (U : State) : Prop := va_Nw (.methodLinkNest RX5 37 yX6_roomOf "GuardAbacus") U ∧ va_Nw (.methodLinkNest RX4 45 yX6_roomOf "GuardAbacus") U ∧ va_Nw (.methodLinkNest RX4 11 yX5_init "GuardAbacus") U ∧ va_Nw (.methodLinkNest RX6 11 yX5_init "GuardAbacus") U ∧ va_Nw (.methodLinkNest RX6 29 yX4_init "GuardAbacus") U ∧ va_Nw (.methodLinkNest RX6 36 yX0_init "GuardAbacus") U ∧ va_Nw (.methodLinkNest RX6 43 yX1_init "GuardAbacus") U ∧ va_Nw (.methodLinkNest RX6 50 yX2_init "GuardAbacus") U ∧ va_Nw (.methodLinkNest RX6 70 yX3_init "GuardAbacus") U
def KK (E : gE) (U : State) : Prop := va_K E.1 vwCl (gT E) U ∧ KN U
theorem KN.warm {s U : State} (hW : s.WarmedH U.vm) (h : KN s) : KN U := by
  obtain ⟨h1, h2, h3, h4, h5, h6, h7, h8, h9⟩ := h
  exact ⟨va_Nw.warmM hW h1, va_Nw.warmM hW h2, va_Nw.warmM hW h3, va_Nw.warmM hW h4, va_Nw.warmM hW h5, va_Nw.warmM hW h6, va_Nw.warmM hW h7, va_Nw.warmM hW h8, va_Nw.warmM hW h9⟩
theorem KN.same {u U : State} (h : u.vm = U.vm) (hk : KN u) : KN U := by
  obtain ⟨h1, h2, h3, h4, h5, h6, h7, h8, h9⟩ := hk
  exact ⟨va_Nw.same rfl h h1, va_Nw.same rfl h h2, va_Nw.same rfl h h3, va_Nw.same rfl h h4, va_Nw.same rfl h h5, va_Nw.same rfl h h6, va_Nw.same rfl h h7, va_Nw.same rfl h h8, va_Nw.same rfl h h9⟩
theorem KK.warm {E : gE} {s U : State} (hW : s.WarmedH U.vm) (h : KK E s) : KK E U := ⟨va_K.moved hW.alike h.1, h.2.warm hW⟩
theorem KK.calling {E : gE} {U : State} {g : JFrame} {mk : MethodId} {a : Array Value} (h : KK E U) : KK E (U.calling g mk a) := ⟨va_K.moved (u := U) (U := U.calling g mk a) (Vm.Alike.refl U.vm) h.1, KN.same (u := U) (U := U.calling g mk a) rfl h.2⟩
def PR (E : gE) (av : List Value) (ws : va_W) : Array Value → State → Prop := va_Pc av (fun U => va_P E.1 vwCl ws U.heap ∧ KK E U)
def PW (E : gE) (av : List Value) (ws : va_W) (sz : Nat) : Array Value → State → Prop := va_Pc av (fun U => U.heap.size = sz ∧ va_P E.1 vwCl ws U.heap ∧ KK E U ∧ va_D (fun _ => True) ws)
theorem PR.blind {E : gE} {av : List Value} {ws : va_W} : FrameBlind (PR E av ws) := fun _ _ _ _ q => ⟨q.1, q.2.1, q.2.2.calling⟩
theorem PW.blind {E : gE} {av : List Value} {ws : va_W} {sz : Nat} : FrameBlind (PW E av ws sz) := fun _ _ _ _ q => ⟨q.1, q.2.1, q.2.2.1, q.2.2.2.1.calling, q.2.2.2.2⟩
/-- the world behind a writer: its cells at the same addresses -/
abbrev BW {S : Type} (E : gE) (wo : S → va_W) : S → State → Prop := fun u t => va_P E.1 vwCl (wo u) t.heap
abbrev QWi {S : Type} (E : gE) (post : Int32 → S → Prop) (wo : S → va_W) (A : Nat → Prop) : Array Value → State → Outcome → State → Prop := va_Qi post (BW E wo) A
abbrev QWl {S : Type} (E : gE) (post : Int64 → S → Prop) (wo : S → va_W) (A : Nat → Prop) : Array Value → State → Outcome → State → Prop := va_Ql post (BW E wo) A
abbrev QWv {S : Type} (E : gE) (post : S → Prop) (wo : S → va_W) (A : Nat → Prop) : Array Value → State → Outcome → State → Prop := va_Qv post (BW E wo) A
section GRET
variable {p : Program} {l : Launch} {e : Env} {R : Room} {s : State} {m : MethodId} {args : Array Value} {below : List Frame} {meth : Method} {c : Code} {H : Heap} {locs : List Loc} {cells slots : Nat} {cc : ByteArray} {pc : Nat} {ls : Array Slot} {E : gE} {A : Nat → Prop}
theorem retRi {post : Int32 → Prop} {v : Int32} (hx : p.tables.exec = Jvm.exec) (hb : c.code = cc) (hr : meth.sig.returnType = some .int) (hlocks : meth.locks = false) (hd : decode cc pc = .ok (.ireturn, 1)) (hp : post v) : W p l e R s m args below meth c s.heap [] 0 0 (MQ below (vp_Si post) args s 0 0 (fun _ => False)) (F0 m pc ls [.int v]) :=
  W.iret hx hb hr (fun t ht _ => ⟨v, rfl, hp, ht⟩) (fun q h => by cases h) hd hlocks
theorem retRz {post : Int32 → Prop} {v : Int32} (hx : p.tables.exec = Jvm.exec) (hb : c.code = cc) (hr : meth.sig.returnType = some .boolean) (hlocks : meth.locks = false) (hd : decode cc pc = .ok (.ireturn, 1)) (hn : narrow .boolean (.int v) = .int v) (hp : post v) : W p l e R s m args below meth c s.heap [] 0 0 (MQ below (vp_Si post) args s 0 0 (fun _ => False)) (F0 m pc ls [.int v]) :=
  W.zret hx hb hr hn (fun t ht _ => ⟨v, rfl, hp, ht⟩) (fun q h => by cases h) hd hlocks
theorem retRl {post : Int64 → Prop} {v : Int64} (hx : p.tables.exec = Jvm.exec) (hb : c.code = cc) (hr : meth.sig.returnType = some .long) (hlocks : meth.locks = false) (hd : decode cc pc = .ok (.lreturn, 1)) (hp : post v) : W p l e R s m args below meth c s.heap [] 0 0 (MQ below (vp_Sl post) args s 0 0 (fun _ => False)) (F0 m pc ls [.long v]) :=
  W.lret hx hb hr (fun t ht _ => ⟨v, rfl, hp, ht⟩) (fun q h => by cases h) hd hlocks
theorem retWi {S : Type} {post : Int32 → S → Prop} {wo : S → va_W} {v : Int32} (hx : p.tables.exec = Jvm.exec) (hb : c.code = cc) (hr : meth.sig.returnType = some .int) (hlocks : meth.locks = false) (hd : decode cc pc = .ok (.ireturn, 1)) (hS : va_S A s.heap H locs) (u : S) (hP : va_P E.1 vwCl (wo u) H) (hp : post v u) : W p l e R s m args below meth c H locs cells slots (MQ below (QWi E post wo A) args s cells slots A) (F0 m pc ls [.int v]) :=
  W.iret hx hb hr (fun t ht _ => ⟨⟨v, u, rfl, hp, by show va_P _ _ _ _; rw [ht]; exact hP⟩, hS.F ht⟩) hS.2.2 hd hlocks
theorem retWz {S : Type} {post : Int32 → S → Prop} {wo : S → va_W} {v : Int32} (hx : p.tables.exec = Jvm.exec) (hb : c.code = cc) (hr : meth.sig.returnType = some .boolean) (hlocks : meth.locks = false) (hd : decode cc pc = .ok (.ireturn, 1)) (hn : narrow .boolean (.int v) = .int v) (hS : va_S A s.heap H locs) (u : S) (hP : va_P E.1 vwCl (wo u) H) (hp : post v u) : W p l e R s m args below meth c H locs cells slots (MQ below (QWi E post wo A) args s cells slots A) (F0 m pc ls [.int v]) :=
  W.zret hx hb hr hn (fun t ht _ => ⟨⟨v, u, rfl, hp, by show va_P _ _ _ _; rw [ht]; exact hP⟩, hS.F ht⟩) hS.2.2 hd hlocks
theorem retWl {S : Type} {post : Int64 → S → Prop} {wo : S → va_W} {v : Int64} (hx : p.tables.exec = Jvm.exec) (hb : c.code = cc) (hr : meth.sig.returnType = some .long) (hlocks : meth.locks = false) (hd : decode cc pc = .ok (.lreturn, 1)) (hS : va_S A s.heap H locs) (u : S) (hP : va_P E.1 vwCl (wo u) H) (hp : post v u) : W p l e R s m args below meth c H locs cells slots (MQ below (QWl E post wo A) args s cells slots A) (F0 m pc ls [.long v]) :=
  W.lret hx hb hr (fun t ht _ => ⟨⟨v, u, rfl, hp, by show va_P _ _ _ _; rw [ht]; exact hP⟩, hS.F ht⟩) hS.2.2 hd hlocks
theorem retWv {S : Type} {post : S → Prop} {wo : S → va_W} (hx : p.tables.exec = Jvm.exec) (hb : c.code = cc) (hr : meth.sig.returnType = none) (hlocks : meth.locks = false) (hd : decode cc pc = .ok (.return_, 1)) (hS : va_S A s.heap H locs) (u : S) (hP : va_P E.1 vwCl (wo u) H) (hp : post u) : W p l e R s m args below meth c H locs cells slots (MQ below (QWv E post wo A) args s cells slots A) (F0 m pc ls []) :=
  W.vret hx hb hr (fun t ht _ => ⟨⟨u, rfl, hp, by show va_P _ _ _ _; rw [ht]; exact hP⟩, hS.F ht⟩) hS.2.2 hd hlocks
end GRET
section GENTRY
variable {l : Launch} {y : MethodName} {wsy ws' : List Cond} {rm : Room} {E : gE} {av : List Value} {ws : va_W} {cc : ByteArray} {maxL : Nat}
theorem mkRi {post : Int32 → Prop} (hy : plainName y.cls = true) (hw : wsy = Cond.code y cc maxL (some .int) :: ws') (hlen : (lg_sl av).length ≤ maxL)
    (body : ∀ (p : Program) (e : Env) (s : State) (m : MethodId) (args : Array Value) (below : List Frame) (meth : Method) (c : Code) (QQ : State → Prop), p.tables.exec = Jvm.exec → c.code = cc → c.maxLocals = maxL → s.vm.findClass y.cls = some m.cls → meth.name = y.name → (∀ w ∈ wsy, w.before args s = true) → KK E s → va_P E.1 vwCl ws s.heap → (∀ (pc : Nat) (ls : Array Slot) (v : Int32), decode cc pc = .ok (.ireturn, 1) → post v → W p l e rm s m args below meth c s.heap [] 0 0 QQ (F0 m pc ls [.int v])) → ∀ ls : Array Slot, lv_has ls maxL (lv_args 0 av) →
      W p l e rm s m args below meth c s.heap [] 0 0 QQ (F0 m 0 ls [])) : Met l y wsy rm (PR E av ws) (vp_Si post) 0 0 (fun _ => False) := by
  refine Met.ofW (cc := cc) (maxL := maxL) (ret := (some .int)) hy hw ?_
  intro p e s m args below meth c s₁ B hml hv
  obtain ⟨rfl, hP, hK⟩ := hv
  have hl := lv_entry av (n := maxL) hlen
  rw [lg_entry_eq]
  exact body p e s m _ below meth c _ B.exec B.bytes hml (findClass_of_methodNamed B.named) (name_of_methodNamed B.named B.method).1 (atoms_spec (ws := wsy) B.pre) hK hP (fun pc ls v hd hp => retRi B.exec B.bytes B.returns B.notSynchronized hd hp) _ hl
theorem mkRz {post : Int32 → Prop} (hy : plainName y.cls = true) (hw : wsy = Cond.code y cc maxL (some .boolean) :: ws') (hlen : (lg_sl av).length ≤ maxL)
    (body : ∀ (p : Program) (e : Env) (s : State) (m : MethodId) (args : Array Value) (below : List Frame) (meth : Method) (c : Code) (QQ : State → Prop), p.tables.exec = Jvm.exec → c.code = cc → c.maxLocals = maxL → s.vm.findClass y.cls = some m.cls → meth.name = y.name → (∀ w ∈ wsy, w.before args s = true) → KK E s → va_P E.1 vwCl ws s.heap → (∀ (pc : Nat) (ls : Array Slot) (v : Int32), decode cc pc = .ok (.ireturn, 1) → narrow .boolean (.int v) = .int v → post v → W p l e rm s m args below meth c s.heap [] 0 0 QQ (F0 m pc ls [.int v])) → ∀ ls : Array Slot, lv_has ls maxL (lv_args 0 av) →
      W p l e rm s m args below meth c s.heap [] 0 0 QQ (F0 m 0 ls [])) : Met l y wsy rm (PR E av ws) (vp_Si post) 0 0 (fun _ => False) := by
  refine Met.ofW (cc := cc) (maxL := maxL) (ret := (some .boolean)) hy hw ?_
  intro p e s m args below meth c s₁ B hml hv
  obtain ⟨rfl, hP, hK⟩ := hv
  have hl := lv_entry av (n := maxL) hlen
  rw [lg_entry_eq]
  exact body p e s m _ below meth c _ B.exec B.bytes hml (findClass_of_methodNamed B.named) (name_of_methodNamed B.named B.method).1 (atoms_spec (ws := wsy) B.pre) hK hP (fun pc ls v hd hn hp => retRz B.exec B.bytes B.returns B.notSynchronized hd hn hp) _ hl
theorem mkRl {post : Int64 → Prop} (hy : plainName y.cls = true) (hw : wsy = Cond.code y cc maxL (some .long) :: ws') (hlen : (lg_sl av).length ≤ maxL)
    (body : ∀ (p : Program) (e : Env) (s : State) (m : MethodId) (args : Array Value) (below : List Frame) (meth : Method) (c : Code) (QQ : State → Prop), p.tables.exec = Jvm.exec → c.code = cc → c.maxLocals = maxL → s.vm.findClass y.cls = some m.cls → meth.name = y.name → (∀ w ∈ wsy, w.before args s = true) → KK E s → va_P E.1 vwCl ws s.heap → (∀ (pc : Nat) (ls : Array Slot) (v : Int64), decode cc pc = .ok (.lreturn, 1) → post v → W p l e rm s m args below meth c s.heap [] 0 0 QQ (F0 m pc ls [.long v])) → ∀ ls : Array Slot, lv_has ls maxL (lv_args 0 av) →
      W p l e rm s m args below meth c s.heap [] 0 0 QQ (F0 m 0 ls [])) : Met l y wsy rm (PR E av ws) (vp_Sl post) 0 0 (fun _ => False) := by
  refine Met.ofW (cc := cc) (maxL := maxL) (ret := (some .long)) hy hw ?_
  intro p e s m args below meth c s₁ B hml hv
  obtain ⟨rfl, hP, hK⟩ := hv
  have hl := lv_entry av (n := maxL) hlen
  rw [lg_entry_eq]
  exact body p e s m _ below meth c _ B.exec B.bytes hml (findClass_of_methodNamed B.named) (name_of_methodNamed B.named B.method).1 (atoms_spec (ws := wsy) B.pre) hK hP (fun pc ls v hd hp => retRl B.exec B.bytes B.returns B.notSynchronized hd hp) _ hl
theorem mkWi {sz : Nat} {S : Type} {post : Int32 → S → Prop} {wo : S → va_W} (hy : plainName y.cls = true) (hw : wsy = Cond.code y cc maxL (some .int) :: ws') (hlen : (lg_sl av).length ≤ maxL)
    (body : ∀ (p : Program) (e : Env) (s : State) (m : MethodId) (args : Array Value) (below : List Frame) (meth : Method) (c : Code) (QQ : State → Prop) (A : Nat → Prop), p.tables.exec = Jvm.exec → c.code = cc → c.maxLocals = maxL → s.vm.findClass y.cls = some m.cls → meth.name = y.name → (∀ w ∈ wsy, w.before args s = true) → KK E s → (∀ q : Nat, s.heap.size ≤ q → A q) → va_P E.1 vwCl ws s.heap → va_D A ws → va_S A s.heap s.heap [] → (∀ (pc : Nat) (ls : Array Slot) (v : Int32) (H : Heap) (locs : List Loc) (u : S), decode cc pc = .ok (.ireturn, 1) → va_S A s.heap H locs → va_P E.1 vwCl (wo u) H → post v u → W p l e rm s m args below meth c H locs 0 0 QQ (F0 m pc ls [.int v])) → ∀ ls : Array Slot, lv_has ls maxL (lv_args 0 av) →
      W p l e rm s m args below meth c s.heap [] 0 0 QQ (F0 m 0 ls [])) : Met l y wsy rm (PW E av ws sz) (QWi E post wo (va_A ws sz)) 0 0 (va_A ws sz) := by
  refine Met.ofW (cc := cc) (maxL := maxL) (ret := (some .int)) hy hw ?_
  intro p e s m args below meth c s₁ B hml hv
  obtain ⟨rfl, rfl, hP, hK, hD⟩ := hv
  have hl := lv_entry av (n := maxL) hlen
  rw [lg_entry_eq]
  exact body p e s m _ below meth c _ _ B.exec B.bytes hml (findClass_of_methodNamed B.named) (name_of_methodNamed B.named B.method).1 (atoms_spec (ws := wsy) B.pre) hK (fun q h => Or.inr h) hP hD.self va_S.rf (fun pc ls v H locs u hd hS hP hp => retWi B.exec B.bytes B.returns B.notSynchronized hd hS u hP hp) _ hl
theorem mkWz {sz : Nat} {S : Type} {post : Int32 → S → Prop} {wo : S → va_W} (hy : plainName y.cls = true) (hw : wsy = Cond.code y cc maxL (some .boolean) :: ws') (hlen : (lg_sl av).length ≤ maxL)
    (body : ∀ (p : Program) (e : Env) (s : State) (m : MethodId) (args : Array Value) (below : List Frame) (meth : Method) (c : Code) (QQ : State → Prop) (A : Nat → Prop), p.tables.exec = Jvm.exec → c.code = cc → c.maxLocals = maxL → s.vm.findClass y.cls = some m.cls → meth.name = y.name → (∀ w ∈ wsy, w.before args s = true) → KK E s → (∀ q : Nat, s.heap.size ≤ q → A q) → va_P E.1 vwCl ws s.heap → va_D A ws → va_S A s.heap s.heap [] → (∀ (pc : Nat) (ls : Array Slot) (v : Int32) (H : Heap) (locs : List Loc) (u : S), decode cc pc = .ok (.ireturn, 1) → narrow .boolean (.int v) = .int v → va_S A s.heap H locs → va_P E.1 vwCl (wo u) H → post v u → W p l e rm s m args below meth c H locs 0 0 QQ (F0 m pc ls [.int v])) → ∀ ls : Array Slot, lv_has ls maxL (lv_args 0 av) →
      W p l e rm s m args below meth c s.heap [] 0 0 QQ (F0 m 0 ls [])) : Met l y wsy rm (PW E av ws sz) (QWi E post wo (va_A ws sz)) 0 0 (va_A ws sz) := by
  refine Met.ofW (cc := cc) (maxL := maxL) (ret := (some .boolean)) hy hw ?_
  intro p e s m args below meth c s₁ B hml hv
  obtain ⟨rfl, rfl, hP, hK, hD⟩ := hv
  have hl := lv_entry av (n := maxL) hlen
  rw [lg_entry_eq]
  exact body p e s m _ below meth c _ _ B.exec B.bytes hml (findClass_of_methodNamed B.named) (name_of_methodNamed B.named B.method).1 (atoms_spec (ws := wsy) B.pre) hK (fun q h => Or.inr h) hP hD.self va_S.rf (fun pc ls v H locs u hd hn hS hP hp => retWz B.exec B.bytes B.returns B.notSynchronized hd hn hS u hP hp) _ hl
theorem mkWl {sz : Nat} {S : Type} {post : Int64 → S → Prop} {wo : S → va_W} (hy : plainName y.cls = true) (hw : wsy = Cond.code y cc maxL (some .long) :: ws') (hlen : (lg_sl av).length ≤ maxL)
    (body : ∀ (p : Program) (e : Env) (s : State) (m : MethodId) (args : Array Value) (below : List Frame) (meth : Method) (c : Code) (QQ : State → Prop) (A : Nat → Prop), p.tables.exec = Jvm.exec → c.code = cc → c.maxLocals = maxL → s.vm.findClass y.cls = some m.cls → meth.name = y.name → (∀ w ∈ wsy, w.before args s = true) → KK E s → (∀ q : Nat, s.heap.size ≤ q → A q) → va_P E.1 vwCl ws s.heap → va_D A ws → va_S A s.heap s.heap [] → (∀ (pc : Nat) (ls : Array Slot) (v : Int64) (H : Heap) (locs : List Loc) (u : S), decode cc pc = .ok (.lreturn, 1) → va_S A s.heap H locs → va_P E.1 vwCl (wo u) H → post v u → W p l e rm s m args below meth c H locs 0 0 QQ (F0 m pc ls [.long v])) → ∀ ls : Array Slot, lv_has ls maxL (lv_args 0 av) →
      W p l e rm s m args below meth c s.heap [] 0 0 QQ (F0 m 0 ls [])) : Met l y wsy rm (PW E av ws sz) (QWl E post wo (va_A ws sz)) 0 0 (va_A ws sz) := by
  refine Met.ofW (cc := cc) (maxL := maxL) (ret := (some .long)) hy hw ?_
  intro p e s m args below meth c s₁ B hml hv
  obtain ⟨rfl, rfl, hP, hK, hD⟩ := hv
  have hl := lv_entry av (n := maxL) hlen
  rw [lg_entry_eq]
  exact body p e s m _ below meth c _ _ B.exec B.bytes hml (findClass_of_methodNamed B.named) (name_of_methodNamed B.named B.method).1 (atoms_spec (ws := wsy) B.pre) hK (fun q h => Or.inr h) hP hD.self va_S.rf (fun pc ls v H locs u hd hS hP hp => retWl B.exec B.bytes B.returns B.notSynchronized hd hS u hP hp) _ hl
theorem mkWv {sz : Nat} {S : Type} {post : S → Prop} {wo : S → va_W} (hy : plainName y.cls = true) (hw : wsy = Cond.code y cc maxL none :: ws') (hlen : (lg_sl av).length ≤ maxL)
    (body : ∀ (p : Program) (e : Env) (s : State) (m : MethodId) (args : Array Value) (below : List Frame) (meth : Method) (c : Code) (QQ : State → Prop) (A : Nat → Prop), p.tables.exec = Jvm.exec → c.code = cc → c.maxLocals = maxL → s.vm.findClass y.cls = some m.cls → meth.name = y.name → (∀ w ∈ wsy, w.before args s = true) → KK E s → (∀ q : Nat, s.heap.size ≤ q → A q) → va_P E.1 vwCl ws s.heap → va_D A ws → va_S A s.heap s.heap [] → (∀ (pc : Nat) (ls : Array Slot) (H : Heap) (locs : List Loc) (u : S), decode cc pc = .ok (.return_, 1) → va_S A s.heap H locs → va_P E.1 vwCl (wo u) H → post u → W p l e rm s m args below meth c H locs 0 0 QQ (F0 m pc ls [])) → ∀ ls : Array Slot, lv_has ls maxL (lv_args 0 av) →
      W p l e rm s m args below meth c s.heap [] 0 0 QQ (F0 m 0 ls [])) : Met l y wsy rm (PW E av ws sz) (QWv E post wo (va_A ws sz)) 0 0 (va_A ws sz) := by
  refine Met.ofW (cc := cc) (maxL := maxL) (ret := none) hy hw ?_
  intro p e s m args below meth c s₁ B hml hv
  obtain ⟨rfl, rfl, hP, hK, hD⟩ := hv
  have hl := lv_entry av (n := maxL) hlen
  rw [lg_entry_eq]
  exact body p e s m _ below meth c _ _ B.exec B.bytes hml (findClass_of_methodNamed B.named) (name_of_methodNamed B.named B.method).1 (atoms_spec (ws := wsy) B.pre) hK (fun q h => Or.inr h) hP hD.self va_S.rf (fun pc ls H locs u hd hS hP hp => retWv B.exec B.bytes B.returns B.notSynchronized hd hS u hP hp) _ hl
end GENTRY
/-! worlds with some cells set -/
def setAll : va_W → List Nat → va_W → va_W
  | ws, i :: is, x :: xs => setAll (ws.set i x) is xs
  | ws, _, _ => ws
theorem setAll_length : ∀ (is : List Nat) (ws xs : va_W), (setAll ws is xs).length = ws.length
  | [], _, _ => by simp [setAll]
  | _ :: _, _, [] => by simp [setAll]
  | i :: is, ws, x :: xs => by rw [setAll, setAll_length is]; simp
theorem setAll_out : ∀ (is : List Nat) (ws xs : va_W) (k : Nat), k ∉ is → (setAll ws is xs)[k]? = ws[k]?
  | [], _, _, _, _ => by simp [setAll]
  | _ :: _, _, [], _, _ => by simp [setAll]
  | i :: is, ws, x :: xs, k, h => by
    rw [setAll, setAll_out is _ _ k (fun q => h (List.mem_cons_of_mem _ q)), List.getElem?_set_ne]
    intro q; exact h (q ▸ List.mem_cons_self)
theorem setAll_in : ∀ (is : List Nat) (ws xs : va_W) (j k : Nat) (x : Nat × va_E), is.Nodup → is[j]? = some k → xs[j]? = some x → k < ws.length → (setAll ws is xs)[k]? = some x
  | [], _, _, _, _, _, _, h, _, _ => by simp at h
  | _ :: _, _, [], _, _, _, _, _, h, _ => by simp at h
  | i :: is, ws, x0 :: xs, 0, k, x, hn, h1, h2, h3 => by
    simp at h1 h2
    subst h1; subst h2
    rw [setAll, setAll_out is _ _ i (List.nodup_cons.mp hn).1, List.getElem?_set_self h3]
  | i :: is, ws, x0 :: xs, j + 1, k, x, hn, h1, h2, h3 => by
    rw [setAll]
    exact setAll_in is _ xs j k x (List.nodup_cons.mp hn).2 (by simpa using h1) (by simpa using h2) (by simpa using h3)
theorem va_nd_nodup : ∀ (l : List Nat), va_nd l = true → l.Nodup
  | [], _ => List.nodup_nil
  | a :: l, h => by
    simp only [va_nd, Bool.and_eq_true] at h
    refine List.nodup_cons.mpr ⟨?_, va_nd_nodup l h.2⟩
    simpa using h.1
/-- the addresses stay -/
theorem setAll_addr {wl wc wo : va_W} {is : List Nat} (hn : is.Nodup) (hC : is.map (fun i => wl[i]?) = wc.map some) (ho : wo.map Prod.fst = wc.map Prod.fst) : ∀ (k : Nat) (q : Nat × va_E), (setAll wl is wo)[k]? = some q → ∃ q0 : Nat × va_E, wl[k]? = some q0 ∧ q0.1 = q.1 := by
  intro k q hq
  have hlen : is.length = wc.length := by have := congrArg List.length hC; simpa using this
  have hlo : wo.length = wc.length := by have := congrArg List.length ho; simpa using this
  by_cases hk : k ∈ is
  · obtain ⟨j, hj, e⟩ := List.getElem_of_mem hk
    have hj' : is[j]? = some k := by rw [List.getElem?_eq_getElem hj, e]
    have hjo : j < wo.length := by omega
    have hjc : j < wc.length := by omega
    have h1 : (is.map (fun i => wl[i]?))[j]? = (wc.map some)[j]? := by rw [hC]
    rw [List.getElem?_map, hj', List.getElem?_map, List.getElem?_eq_getElem hjc] at h1
    simp at h1
    have hkl : k < wl.length := (List.getElem?_eq_some_iff.mp h1).1
    rw [setAll_in is wl wo j k wo[j] hn hj' (List.getElem?_eq_getElem hjo) hkl] at hq
    cases hq
    refine ⟨wc[j], h1, ?_⟩
    have h2 : (wo.map Prod.fst)[j]? = (wc.map Prod.fst)[j]? := by rw [ho]
    rw [List.getElem?_map, List.getElem?_map, List.getElem?_eq_getElem hjc, List.getElem?_eq_getElem hjo] at h2
    simp at h2
    exact h2.symm
  · rw [setAll_out is wl wo k hk] at hq
    exact ⟨q, hq, rfl⟩
theorem setAll_D {A : Nat → Prop} {wl wc wo : va_W} {is : List Nat} (hD : va_D A wl) (hn : is.Nodup) (hC : is.map (fun i => wl[i]?) = wc.map some) (ho : wo.map Prod.fst = wc.map Prod.fst) : va_D A (setAll wl is wo) := by
  refine ⟨fun i j p q hi hj e => ?_, fun k q hk => ?_⟩
  · obtain ⟨p0, h1, h2⟩ := setAll_addr hn hC ho i p hi
    obtain ⟨q0, h3, h4⟩ := setAll_addr hn hC ho j q hj
    exact hD.1 i j p0 q0 h1 h3 (by rw [h2, h4, e])
  · obtain ⟨q0, h1, h2⟩ := setAll_addr hn hC ho k q hk
    rw [← h2]; exact hD.2 k q0 h1
theorem setAll_P {D : va_G} {cl : List vw_C} {A : Nat → Prop} {wl wc wo : va_W} {is : List Nat} {H H1 : Heap} (hP : va_P D cl wl H) (hD : va_D A wl) (hn : is.Nodup) (hC : is.map (fun i => wl[i]?) = wc.map some) (hlo : wo.length = wc.length) (hP1 : va_P D cl wo H1) (hk1 : ∀ q : Nat, q < H.size → ¬ va_A wc H.size q → H1[q]? = H[q]?) : va_P D cl (setAll wl is wo) H1 := by
  intro k q hq
  have hlen : is.length = wc.length := by have := congrArg List.length hC; simpa using this
  by_cases hk : k ∈ is
  · obtain ⟨j, hj, e⟩ := List.getElem_of_mem hk
    have hj' : is[j]? = some k := by rw [List.getElem?_eq_getElem hj, e]
    have hjo : j < wo.length := by omega
    have hjc : j < wc.length := by omega
    have h1 : (is.map (fun i => wl[i]?))[j]? = (wc.map some)[j]? := by rw [hC]
    rw [List.getElem?_map, hj', List.getElem?_map, List.getElem?_eq_getElem hjc] at h1
    simp at h1
    have hkl : k < wl.length := (List.getElem?_eq_some_iff.mp h1).1
    rw [setAll_in is wl wo j k wo[j] hn hj' (List.getElem?_eq_getElem hjo) hkl] at hq
    exact hP1 j q (by rw [List.getElem?_eq_getElem hjo]; exact hq)
  · rw [setAll_out is wl wo k hk] at hq
    have h0 := hP k q hq
    refine h0.kept (hk1 q.1 h0.lt ?_)
    rintro (⟨j, e, h2⟩ | h2)
    · have hjc : j < wc.length := (List.getElem?_eq_some_iff.mp h2).1
      have hji : j < is.length := by omega
      have h1 : (is.map (fun i => wl[i]?))[j]? = (wc.map some)[j]? := by rw [hC]
      rw [List.getElem?_map, List.getElem?_map, h2, List.getElem?_eq_getElem hji] at h1
      simp at h1
      have := hD.1 k is[j] q _ hq h1 rfl
      exact hk (this ▸ List.getElem_mem hji)
    · exact absurd h0.lt (Nat.not_lt.mpr h2)
theorem fm_of {wl wc : va_W} {is : List Nat} (hC : is.map (fun i => wl[i]?) = wc.map some) : is.filterMap (fun i => wl[i]?) = wc := by
  have h : is.filterMap (fun i => wl[i]?) = (is.map (fun i => wl[i]?)).filterMap id := by rw [List.filterMap_map]; rfl
  rw [h, hC, List.filterMap_map]
  simp
theorem catLe {rest : List Value} (h : rest.length ≤ 4) : (rest.map fun v => v.category).sum ≤ 8 := by
  have key : ∀ l : List Value, (l.map fun v => v.category).sum ≤ 2 * l.length := by
    intro l
    induction l with
    | nil => simp
    | cons v l ih =>
      rcases lv_cat v with q | q <;> simp [q] <;> omega
  have := key rest
  omega
section GCALL
variable {p : Program} {l : Launch} {e : Env} {R : Room} {s : State} {m : MethodId} {args : Array Value} {below : List Frame} {meth : Method} {c : Code} {H : Heap} {locs : List Loc} {cells slots : Nat} {Q : State → Prop}
variable {y : MethodName} {bytes cc : ByteArray} {maxL nL n index pc : Nat} {ret : Option FieldType} {wsy Ts : List Cond} {rm : Room} {own C : String} {b : Addr} {As rest st0 : List Value} {ls : Array Slot} {E : gE} {wl wc : va_W}
theorem crV {post : Int32 → Prop} (S : CallFix p m c cc nL s args Ts own) (hM : Met l y wsy rm (PR E (.ref b :: As) wc) (vp_Si post) 0 0 (fun _ => False)) (cw : CallW R s args own C index y bytes maxL ret wsy rm 0 0 n) (hK : KK E s) (hP : va_P E.1 vwCl wl H) (is : List Nat) (hC : is.filterMap (fun i => wl[i]?) = wc) (q0 : Nat) {ci : Nat} {fs : List Value} {qc : vw_C} (he : wc[q0]? = some (b, .inr (ci, fs))) (hc : vwCl[ci]? = some qc) (hCC : qc.1 = C) (hn : As.length = n) (hsize : ls.size = nL) (hst : st0 = As.reverse ++ .ref b :: rest) (hW : (rest.map fun v => v.category).sum ≤ 8) (hdg : decode cc pc = .ok (.invokevirtual index, 3)) (hf : cells ≤ R.cells ∧ slots ≤ R.slots)
    (kk : ∀ r : Int32, post r → W p l e R s m args below meth c H locs cells slots Q (F0 m (pc + 3) ls (.int r :: rest))) : W p l e R s m args below meth c H locs cells slots Q (F0 m pc ls st0) := by
  have hPc := hP.sub is hC
  subst hst
  refine vp_callSi (W.runV S hM cw ⟨PR.blind, ?_, fun U hU hW => ⟨rfl, by rw [hU]; exact hPc, hK.warm hW⟩⟩ rfl hn hsize rfl (lv_room hW) hdg hf) kk
  rw [← hCC]
  exact va_recv hK.1 hPc hc he
theorem crS {post : Int32 → Prop} (S : CallFix p m c cc nL s args Ts own) (hM : Met l y wsy rm (PR E As wc) (vp_Si post) 0 0 (fun _ => False)) (cw : CallB R s args own index y bytes maxL ret wsy rm 0 0 n ∧ (Cond.static y).before args s = true) (hK : KK E s) (hP : va_P E.1 vwCl wl H) (is : List Nat) (hC : is.filterMap (fun i => wl[i]?) = wc) (hn : As.length = n) (hsize : ls.size = nL) (hst : st0 = As.reverse ++ rest) (hW : (rest.map fun v => v.category).sum ≤ 8) (hdg : decode cc pc = .ok (.invokestatic index, 3)) (hf : cells ≤ R.cells ∧ slots ≤ R.slots)
    (kk : ∀ r : Int32, post r → W p l e R s m args below meth c H locs cells slots Q (F0 m (pc + 3) ls (.int r :: rest))) : W p l e R s m args below meth c H locs cells slots Q (F0 m pc ls st0) := by
  have hPc := hP.sub is hC
  subst hst
  exact vp_callSi (W.runS S hM cw ⟨PR.blind, fun U hU hW => ⟨rfl, by rw [hU]; exact hPc, hK.warm hW⟩⟩ rfl hn hsize rfl (lv_room hW) hdg hf) kk
theorem crSl {post : Int64 → Prop} (S : CallFix p m c cc nL s args Ts own) (hM : Met l y wsy rm (PR E As wc) (vp_Sl post) 0 0 (fun _ => False)) (cw : CallB R s args own index y bytes maxL ret wsy rm 0 0 n ∧ (Cond.static y).before args s = true) (hK : KK E s) (hP : va_P E.1 vwCl wl H) (is : List Nat) (hC : is.filterMap (fun i => wl[i]?) = wc) (hn : As.length = n) (hsize : ls.size = nL) (hst : st0 = As.reverse ++ rest) (hW : (rest.map fun v => v.category).sum ≤ 8) (hdg : decode cc pc = .ok (.invokestatic index, 3)) (hf : cells ≤ R.cells ∧ slots ≤ R.slots)
    (kk : ∀ r : Int64, post r → W p l e R s m args below meth c H locs cells slots Q (F0 m (pc + 3) ls (.long r :: rest))) : W p l e R s m args below meth c H locs cells slots Q (F0 m pc ls st0) := by
  have hPc := hP.sub is hC
  subst hst
  exact vp_callSl (W.runS S hM cw ⟨PR.blind, fun U hU hW => ⟨rfl, by rw [hU]; exact hPc, hK.warm hW⟩⟩ rfl hn hsize rfl (lv_room hW) hdg hf) kk
theorem crSN {post : Int32 → Prop} {host : String} (S : CallFix p m c cc nL s args Ts own) (hM : Met l y wsy rm (PR E As wc) (vp_Si post) 0 0 (fun _ => False)) (cw : va_CN R s args own index y host bytes maxL ret wsy rm 0 0 n ∧ (Cond.static y).before args s = true ∧ True) (hK : KK E s) (hP : va_P E.1 vwCl wl H) (is : List Nat) (hC : is.filterMap (fun i => wl[i]?) = wc) (hn : As.length = n) (hsize : ls.size = nL) (hst : st0 = As.reverse ++ rest) (hW : (rest.map fun v => v.category).sum ≤ 8) (hdg : decode cc pc = .ok (.invokestatic index, 3)) (hf : cells ≤ R.cells ∧ slots ≤ R.slots)
    (kk : ∀ r : Int32, post r → W p l e R s m args below meth c H locs cells slots Q (F0 m (pc + 3) ls (.int r :: rest))) : W p l e R s m args below meth c H locs cells slots Q (F0 m pc ls st0) := by
  have hPc := hP.sub is hC
  subst hst
  exact vp_callSi (va_Run.run (va_runSN S hM cw ⟨PR.blind, fun U hU hW => ⟨rfl, by rw [hU]; exact hPc, hK.warm hW⟩⟩ rfl hn hsize rfl (lv_room hW) hdg hf)) kk
variable {A : Nat → Prop} {H0 : Heap}
theorem cwVi {S : Type} {post : Int32 → S → Prop} {wo : S → va_W} (S0 : CallFix p m c cc nL s args Ts own) (hM : Met l y wsy rm (PW E (.ref b :: As) wc H.size) (QWi E post wo (va_A wc H.size)) 0 0 (va_A wc H.size)) (cw : CallW R s args own C index y bytes maxL ret wsy rm 0 0 n) (hK : KK E s) (hP : va_P E.1 vwCl wl H) (hD : va_D A wl) (hS : va_S A H0 H locs) (hA : ∀ q, H0.size ≤ q → A q) (is : List Nat) (hnd : va_nd is = true) (hC : is.map (fun i => wl[i]?) = wc.map some) (ad : List Nat) (ho1 : ∀ u, (wo u).map Prod.fst = ad) (ho2 : wc.map Prod.fst = ad) (q0 : Nat) {ci : Nat} {fs : List Value} {qc : vw_C} (he : wc[q0]? = some (b, .inr (ci, fs))) (hc : vwCl[ci]? = some qc) (hCC : qc.1 = C) (hn : As.length = n) (hsize : ls.size = nL) (hst : st0 = As.reverse ++ .ref b :: rest) (hW : (rest.map fun v => v.category).sum ≤ 8) (hdg : decode cc pc = .ok (.invokevirtual index, 3)) (hf : cells ≤ R.cells ∧ slots ≤ R.slots)
    (kk : ∀ (r : Int32) (u : S) (H1 : Heap) (locs1 : List Loc), post r u → va_P E.1 vwCl (setAll wl is (wo u)) H1 → va_D A (setAll wl is (wo u)) → va_S A H0 H1 locs1 → W p l e R s m args below meth c H1 locs1 cells slots Q (F0 m (pc + 3) ls (.int r :: rest))) : W p l e R s m args below meth c H locs cells slots Q (F0 m pc ls st0) := by
  have ho : ∀ u, (wo u).map Prod.fst = wc.map Prod.fst := fun u => (ho1 u).trans ho2.symm
  have hPc := hP.sub is (fm_of hC)
  have hDc := hD.sub is hnd hC
  have hFc := va_free hD hS hA is hC
  have hr : ∃ cellB : Cell, H[b]? = some cellB ∧ cellB.vm.isStatics = false ∧ s.vm.findClass C = some cellB.cls := by
    rw [← hCC]
    exact va_recv hK.1 hPc hc he
  subst hst
  refine va_calli (va_runV S0 hM cw ⟨PW.blind, hr, fun U hU hW => ⟨rfl, by rw [hU], by rw [hU]; exact hPc, hK.warm hW, hDc.weaken (fun _ _ _ _ => trivial)⟩⟩ rfl hn hsize rfl (lv_room hW) hdg hf) hS (fun q _ h => hFc q h) hFc (fun r u t H1 locs1 ht hvm hw hB hz1 hk1 hS1 => ?_)
  have hB' : va_P E.1 vwCl (wo u) H1 := by rw [← ht]; exact hB
  exact kk r u H1 locs1 hw (setAll_P hP hD (va_nd_nodup _ hnd) hC (by have := congrArg List.length (ho u); simpa using this) hB' hk1) (setAll_D hD (va_nd_nodup _ hnd) hC (ho u)) hS1
theorem cwVl {S : Type} {post : Int64 → S → Prop} {wo : S → va_W} (S0 : CallFix p m c cc nL s args Ts own) (hM : Met l y wsy rm (PW E (.ref b :: As) wc H.size) (QWl E post wo (va_A wc H.size)) 0 0 (va_A wc H.size)) (cw : CallW R s args own C index y bytes maxL ret wsy rm 0 0 n) (hK : KK E s) (hP : va_P E.1 vwCl wl H) (hD : va_D A wl) (hS : va_S A H0 H locs) (hA : ∀ q, H0.size ≤ q → A q) (is : List Nat) (hnd : va_nd is = true) (hC : is.map (fun i => wl[i]?) = wc.map some) (ad : List Nat) (ho1 : ∀ u, (wo u).map Prod.fst = ad) (ho2 : wc.map Prod.fst = ad) (q0 : Nat) {ci : Nat} {fs : List Value} {qc : vw_C} (he : wc[q0]? = some (b, .inr (ci, fs))) (hc : vwCl[ci]? = some qc) (hCC : qc.1 = C) (hn : As.length = n) (hsize : ls.size = nL) (hst : st0 = As.reverse ++ .ref b :: rest) (hW : (rest.map fun v => v.category).sum ≤ 8) (hdg : decode cc pc = .ok (.invokevirtual index, 3)) (hf : cells ≤ R.cells ∧ slots ≤ R.slots)
    (kk : ∀ (r : Int64) (u : S) (H1 : Heap) (locs1 : List Loc), post r u → va_P E.1 vwCl (setAll wl is (wo u)) H1 → va_D A (setAll wl is (wo u)) → va_S A H0 H1 locs1 → W p l e R s m args below meth c H1 locs1 cells slots Q (F0 m (pc + 3) ls (.long r :: rest))) : W p l e R s m args below meth c H locs cells slots Q (F0 m pc ls st0) := by
  have ho : ∀ u, (wo u).map Prod.fst = wc.map Prod.fst := fun u => (ho1 u).trans ho2.symm
  have hPc := hP.sub is (fm_of hC)
  have hDc := hD.sub is hnd hC
  have hFc := va_free hD hS hA is hC
  have hr : ∃ cellB : Cell, H[b]? = some cellB ∧ cellB.vm.isStatics = false ∧ s.vm.findClass C = some cellB.cls := by
    rw [← hCC]
    exact va_recv hK.1 hPc hc he
  subst hst
  refine va_calll (va_runV S0 hM cw ⟨PW.blind, hr, fun U hU hW => ⟨rfl, by rw [hU], by rw [hU]; exact hPc, hK.warm hW, hDc.weaken (fun _ _ _ _ => trivial)⟩⟩ rfl hn hsize rfl (lv_room hW) hdg hf) hS (fun q _ h => hFc q h) hFc (fun r u t H1 locs1 ht hvm hw hB hz1 hk1 hS1 => ?_)
  have hB' : va_P E.1 vwCl (wo u) H1 := by rw [← ht]; exact hB
  exact kk r u H1 locs1 hw (setAll_P hP hD (va_nd_nodup _ hnd) hC (by have := congrArg List.length (ho u); simpa using this) hB' hk1) (setAll_D hD (va_nd_nodup _ hnd) hC (ho u)) hS1
theorem cwVv {S : Type} {post : S → Prop} {wo : S → va_W} (S0 : CallFix p m c cc nL s args Ts own) (hM : Met l y wsy rm (PW E (.ref b :: As) wc H.size) (QWv E post wo (va_A wc H.size)) 0 0 (va_A wc H.size)) (cw : CallW R s args own C index y bytes maxL ret wsy rm 0 0 n) (hK : KK E s) (hP : va_P E.1 vwCl wl H) (hD : va_D A wl) (hS : va_S A H0 H locs) (hA : ∀ q, H0.size ≤ q → A q) (is : List Nat) (hnd : va_nd is = true) (hC : is.map (fun i => wl[i]?) = wc.map some) (ad : List Nat) (ho1 : ∀ u, (wo u).map Prod.fst = ad) (ho2 : wc.map Prod.fst = ad) (q0 : Nat) {ci : Nat} {fs : List Value} {qc : vw_C} (he : wc[q0]? = some (b, .inr (ci, fs))) (hc : vwCl[ci]? = some qc) (hCC : qc.1 = C) (hn : As.length = n) (hsize : ls.size = nL) (hst : st0 = As.reverse ++ .ref b :: rest) (hW : (rest.map fun v => v.category).sum ≤ 8) (hdg : decode cc pc = .ok (.invokevirtual index, 3)) (hf : cells ≤ R.cells ∧ slots ≤ R.slots)
    (kk : ∀ (u : S) (H1 : Heap) (locs1 : List Loc), post u → va_P E.1 vwCl (setAll wl is (wo u)) H1 → va_D A (setAll wl is (wo u)) → va_S A H0 H1 locs1 → W p l e R s m args below meth c H1 locs1 cells slots Q (F0 m (pc + 3) ls rest)) : W p l e R s m args below meth c H locs cells slots Q (F0 m pc ls st0) := by
  have ho : ∀ u, (wo u).map Prod.fst = wc.map Prod.fst := fun u => (ho1 u).trans ho2.symm
  have hPc := hP.sub is (fm_of hC)
  have hDc := hD.sub is hnd hC
  have hFc := va_free hD hS hA is hC
  have hr : ∃ cellB : Cell, H[b]? = some cellB ∧ cellB.vm.isStatics = false ∧ s.vm.findClass C = some cellB.cls := by
    rw [← hCC]
    exact va_recv hK.1 hPc hc he
  subst hst
  refine va_callv (va_runV S0 hM cw ⟨PW.blind, hr, fun U hU hW => ⟨rfl, by rw [hU], by rw [hU]; exact hPc, hK.warm hW, hDc.weaken (fun _ _ _ _ => trivial)⟩⟩ rfl hn hsize rfl (lv_room hW) hdg hf) hS (fun q _ h => hFc q h) hFc (fun u t H1 locs1 ht hvm hw hB hz1 hk1 hS1 => ?_)
  have hB' : va_P E.1 vwCl (wo u) H1 := by rw [← ht]; exact hB
  exact kk u H1 locs1 hw (setAll_P hP hD (va_nd_nodup _ hnd) hC (by have := congrArg List.length (ho u); simpa using this) hB' hk1) (setAll_D hD (va_nd_nodup _ hnd) hC (ho u)) hS1
end GCALL
theorem nI_inc (k : Nat) : nI k + Int32.ofInt 1 = nI (k + 1) := nI_1 k
theorem nI_dec (k : Nat) : nI (k + 1) + Int32.ofInt (-1) = nI k := pk_m1 k
section GBR
variable {p : Program} {l : Launch} {e : Env} {R : Room} {s : State} {m : MethodId} {args : Array Value} {below : List Frame} {meth : Method} {c : Code} {H : Heap} {locs : List Loc} {cells slots : Nat} {Q : State → Prop} {cc : ByteArray} {pc : Nat} {ls : Array Slot} {rest : List Value}
theorem icmpN_ge (hexec : p.tables.exec = Jvm.exec) (hb : c.code = cc) {x y : Int32} {a b : Nat} (hxa : x = nI a) (hyb : y = nI b) (ha1 : a < 2 ^ 31) (hb1 : b < 2 ^ 31) {off : Int} {tgt : Nat} (hdg : decode cc pc = .ok (.if_icmp .ge off, 3)) (ht : (pc : Int) + off = (tgt : Int))
    (kt : b ≤ a → W p l e R s m args below meth c H locs cells slots Q (F0 m tgt ls rest)) (kf : a < b → W p l e R s m args below meth c H locs cells slots Q (F0 m (pc + 3) ls rest)) : W p l e R s m args below meth c H locs cells slots Q (F0 m pc ls (.int y :: .int x :: rest)) := by
  subst hxa; subst hyb
  exact lv_icmp_ge hexec hb hdg ht (fun h => kt ((nI_leI hb1 ha1).mp h)) (fun h => kf (Nat.not_le.mp (fun q => h ((nI_leI hb1 ha1).mpr q))))
theorem icmpN_lt (hexec : p.tables.exec = Jvm.exec) (hb : c.code = cc) {x y : Int32} {a b : Nat} (hxa : x = nI a) (hyb : y = nI b) (ha1 : a < 2 ^ 31) (hb1 : b < 2 ^ 31) {off : Int} {tgt : Nat} (hdg : decode cc pc = .ok (.if_icmp .lt off, 3)) (ht : (pc : Int) + off = (tgt : Int))
    (kt : a < b → W p l e R s m args below meth c H locs cells slots Q (F0 m tgt ls rest)) (kf : b ≤ a → W p l e R s m args below meth c H locs cells slots Q (F0 m (pc + 3) ls rest)) : W p l e R s m args below meth c H locs cells slots Q (F0 m pc ls (.int y :: .int x :: rest)) := by
  subst hxa; subst hyb
  exact lv_icmp_lt hexec hb hdg ht (fun h => kt ((nI_ltI ha1 hb1).mp h)) (fun h => kf (Nat.not_lt.mp (fun q => h ((nI_ltI ha1 hb1).mpr q))))
theorem icmpN_gt (hexec : p.tables.exec = Jvm.exec) (hb : c.code = cc) {x y : Int32} {a b : Nat} (hxa : x = nI a) (hyb : y = nI b) (ha1 : a < 2 ^ 31) (hb1 : b < 2 ^ 31) {off : Int} {tgt : Nat} (hdg : decode cc pc = .ok (.if_icmp .gt off, 3)) (ht : (pc : Int) + off = (tgt : Int))
    (kt : b < a → W p l e R s m args below meth c H locs cells slots Q (F0 m tgt ls rest)) (kf : a ≤ b → W p l e R s m args below meth c H locs cells slots Q (F0 m (pc + 3) ls rest)) : W p l e R s m args below meth c H locs cells slots Q (F0 m pc ls (.int y :: .int x :: rest)) := by
  subst hxa; subst hyb
  exact lv_icmp_gt hexec hb hdg ht (fun h => kt ((nI_ltI hb1 ha1).mp h)) (fun h => kf (Nat.not_lt.mp (fun q => h ((nI_ltI hb1 ha1).mpr q))))
theorem icmpN_le (hexec : p.tables.exec = Jvm.exec) (hb : c.code = cc) {x y : Int32} {a b : Nat} (hxa : x = nI a) (hyb : y = nI b) (ha1 : a < 2 ^ 31) (hb1 : b < 2 ^ 31) {off : Int} {tgt : Nat} (hdg : decode cc pc = .ok (.if_icmp .le off, 3)) (ht : (pc : Int) + off = (tgt : Int))
    (kt : a ≤ b → W p l e R s m args below meth c H locs cells slots Q (F0 m tgt ls rest)) (kf : b < a → W p l e R s m args below meth c H locs cells slots Q (F0 m (pc + 3) ls rest)) : W p l e R s m args below meth c H locs cells slots Q (F0 m pc ls (.int y :: .int x :: rest)) := by
  subst hxa; subst hyb
  exact lv_icmp_le hexec hb hdg ht (fun h => kt ((nI_leI ha1 hb1).mp h)) (fun h => kf (Nat.not_le.mp (fun q => h ((nI_leI ha1 hb1).mpr q))))
theorem icmpN_eq (hexec : p.tables.exec = Jvm.exec) (hb : c.code = cc) {x y : Int32} {a b : Nat} (hxa : x = nI a) (hyb : y = nI b) (ha1 : a < 2 ^ 31) (hb1 : b < 2 ^ 31) {off : Int} {tgt : Nat} (hdg : decode cc pc = .ok (.if_icmp .eq off, 3)) (ht : (pc : Int) + off = (tgt : Int))
    (kt : a = b → W p l e R s m args below meth c H locs cells slots Q (F0 m tgt ls rest)) (kf : a ≠ b → W p l e R s m args below meth c H locs cells slots Q (F0 m (pc + 3) ls rest)) : W p l e R s m args below meth c H locs cells slots Q (F0 m pc ls (.int y :: .int x :: rest)) := by
  subst hxa; subst hyb
  exact lv_icmp_eq hexec hb hdg ht (fun h => kt ((nI_eq ha1 hb1).mp h)) (fun h => kf (fun q => h ((nI_eq ha1 hb1).mpr q)))
theorem icmpN_ne (hexec : p.tables.exec = Jvm.exec) (hb : c.code = cc) {x y : Int32} {a b : Nat} (hxa : x = nI a) (hyb : y = nI b) (ha1 : a < 2 ^ 31) (hb1 : b < 2 ^ 31) {off : Int} {tgt : Nat} (hdg : decode cc pc = .ok (.if_icmp .ne off, 3)) (ht : (pc : Int) + off = (tgt : Int))
    (kt : a ≠ b → W p l e R s m args below meth c H locs cells slots Q (F0 m tgt ls rest)) (kf : a = b → W p l e R s m args below meth c H locs cells slots Q (F0 m (pc + 3) ls rest)) : W p l e R s m args below meth c H locs cells slots Q (F0 m pc ls (.int y :: .int x :: rest)) := by
  subst hxa; subst hyb
  exact lv_icmp_ne hexec hb hdg ht (fun h => kt (fun q => h ((nI_eq ha1 hb1).mpr q))) (fun h => kf ((nI_eq ha1 hb1).mp h))
theorem ifN_ge (hexec : p.tables.exec = Jvm.exec) (hb : c.code = cc) {x : Int32} {a : Nat} (hxa : x = nI a) (ha1 : a < 2 ^ 31) {off : Int} {tgt : Nat} (hdg : decode cc pc = .ok (.ifCond .ge off, 3)) (ht : (pc : Int) + off = (tgt : Int)) (kt : W p l e R s m args below meth c H locs cells slots Q (F0 m tgt ls rest)) : W p l e R s m args below meth c H locs cells slots Q (F0 m pc ls (.int x :: rest)) := by
  subst hxa
  exact lv_if_ge hexec hb hdg ht (fun _ => kt) (fun h => absurd (nI_pos' ha1) h)
theorem ifN_lt (hexec : p.tables.exec = Jvm.exec) (hb : c.code = cc) {x : Int32} {a : Nat} (hxa : x = nI a) (ha1 : a < 2 ^ 31) {off : Int} {tgt : Nat} (hdg : decode cc pc = .ok (.ifCond .lt off, 3)) (ht : (pc : Int) + off = (tgt : Int)) (kf : W p l e R s m args below meth c H locs cells slots Q (F0 m (pc + 3) ls rest)) : W p l e R s m args below meth c H locs cells slots Q (F0 m pc ls (.int x :: rest)) := by
  subst hxa
  exact lv_if_lt hexec hb hdg ht (fun h => absurd h (nI_pos ha1)) (fun _ => kf)
theorem ifN_gt (hexec : p.tables.exec = Jvm.exec) (hb : c.code = cc) {x : Int32} {a : Nat} (hxa : x = nI a) (ha1 : a < 2 ^ 31) {off : Int} {tgt : Nat} (hdg : decode cc pc = .ok (.ifCond .gt off, 3)) (ht : (pc : Int) + off = (tgt : Int)) (kt : 0 < a → W p l e R s m args below meth c H locs cells slots Q (F0 m tgt ls rest)) (kf : a = 0 → W p l e R s m args below meth c H locs cells slots Q (F0 m (pc + 3) ls rest)) : W p l e R s m args below meth c H locs cells slots Q (F0 m pc ls (.int x :: rest)) := by
  subst hxa
  exact lv_if_gt hexec hb hdg ht (fun h => kt (Nat.pos_of_ne_zero (fun q => by subst q; exact absurd h (by decide)))) (fun h => kf (Nat.eq_zero_of_not_pos (fun q => h ((nI_ltI (by decide) ha1).mpr q))))
theorem ifN_le (hexec : p.tables.exec = Jvm.exec) (hb : c.code = cc) {x : Int32} {a : Nat} (hxa : x = nI a) (ha1 : a < 2 ^ 31) {off : Int} {tgt : Nat} (hdg : decode cc pc = .ok (.ifCond .le off, 3)) (ht : (pc : Int) + off = (tgt : Int)) (kt : a = 0 → W p l e R s m args below meth c H locs cells slots Q (F0 m tgt ls rest)) (kf : 0 < a → W p l e R s m args below meth c H locs cells slots Q (F0 m (pc + 3) ls rest)) : W p l e R s m args below meth c H locs cells slots Q (F0 m pc ls (.int x :: rest)) := by
  subst hxa
  refine lv_if_le hexec hb hdg ht (fun h => kt (Nat.eq_zero_of_not_pos (fun q => nI_nle q ha1 h))) (fun h => kf (Nat.pos_of_ne_zero (fun q => ?_)))
  subst q; exact absurd (by decide) h
theorem ifN_eq (hexec : p.tables.exec = Jvm.exec) (hb : c.code = cc) {x : Int32} {a : Nat} (hxa : x = nI a) (ha1 : a < 2 ^ 31) {off : Int} {tgt : Nat} (hdg : decode cc pc = .ok (.ifCond .eq off, 3)) (ht : (pc : Int) + off = (tgt : Int)) (kt : a = 0 → W p l e R s m args below meth c H locs cells slots Q (F0 m tgt ls rest)) (kf : 0 < a → W p l e R s m args below meth c H locs cells slots Q (F0 m (pc + 3) ls rest)) : W p l e R s m args below meth c H locs cells slots Q (F0 m pc ls (.int x :: rest)) := by
  subst hxa
  refine lv_if_eq hexec hb hdg ht (fun h => kt (Nat.eq_zero_of_not_pos (fun q => nI_ne0 q ha1 h))) (fun h => kf (Nat.pos_of_ne_zero (fun q => ?_)))
  subst q; exact absurd (by decide) h
theorem ifN_ne (hexec : p.tables.exec = Jvm.exec) (hb : c.code = cc) {x : Int32} {a : Nat} (hxa : x = nI a) (ha1 : a < 2 ^ 31) {off : Int} {tgt : Nat} (hdg : decode cc pc = .ok (.ifCond .ne off, 3)) (ht : (pc : Int) + off = (tgt : Int)) (kt : 0 < a → W p l e R s m args below meth c H locs cells slots Q (F0 m tgt ls rest)) (kf : a = 0 → W p l e R s m args below meth c H locs cells slots Q (F0 m (pc + 3) ls rest)) : W p l e R s m args below meth c H locs cells slots Q (F0 m pc ls (.int x :: rest)) := by
  subst hxa
  refine lv_if_ne hexec hb hdg ht (fun h => kt (Nat.pos_of_ne_zero (fun q => ?_))) (fun h => kf (Nat.eq_zero_of_not_pos (fun q => nI_ne0 q ha1 h)))
  subst q; exact absurd (by decide) h
/-- a condition that a program answered as 1 or 0 -/
theorem ifB_eq (hexec : p.tables.exec = Jvm.exec) (hb : c.code = cc) {P : Prop} [Decidable P] {off : Int} {tgt : Nat} (hdg : decode cc pc = .ok (.ifCond .eq off, 3)) (ht : (pc : Int) + off = (tgt : Int)) (kt : ¬ P → W p l e R s m args below meth c H locs cells slots Q (F0 m tgt ls rest)) (kf : P → W p l e R s m args below meth c H locs cells slots Q (F0 m (pc + 3) ls rest)) : W p l e R s m args below meth c H locs cells slots Q (F0 m pc ls (.int (if P then 1 else 0) :: rest)) := by
  by_cases h : P
  · rw [if_pos h]; exact lv_if_eq hexec hb hdg ht (fun q => absurd q (by decide)) (fun _ => kf h)
  · rw [if_neg h]; exact lv_if_eq hexec hb hdg ht (fun _ => kt h) (fun q => absurd rfl q)
theorem ifB_ne (hexec : p.tables.exec = Jvm.exec) (hb : c.code = cc) {P : Prop} [Decidable P] {off : Int} {tgt : Nat} (hdg : decode cc pc = .ok (.ifCond .ne off, 3)) (ht : (pc : Int) + off = (tgt : Int)) (kt : P → W p l e R s m args below meth c H locs cells slots Q (F0 m tgt ls rest)) (kf : ¬ P → W p l e R s m args below meth c H locs cells slots Q (F0 m (pc + 3) ls rest)) : W p l e R s m args below meth c H locs cells slots Q (F0 m pc ls (.int (if P then 1 else 0) :: rest)) := by
  by_cases h : P
  · rw [if_pos h]; exact lv_if_ne hexec hb hdg ht (fun _ => kt h) (fun q => absurd q (by decide))
  · rw [if_neg h]; exact lv_if_ne hexec hb hdg ht (fun q => absurd rfl q) (fun _ => kf h)
theorem N_iadd (hexec : p.tables.exec = Jvm.exec) (hb : c.code = cc) {x y : Int32} {a b : Nat} (hxa : x = nI a) (hyb : y = nI b) (hdg : decode cc pc = .ok (.iadd, 1)) (k : W p l e R s m args below meth c H locs cells slots Q (F0 m (pc + 1) ls (.int (nI (a + b)) :: rest))) : W p l e R s m args below meth c H locs cells slots Q (F0 m pc ls (.int y :: .int x :: rest)) := by
  subst hxa; subst hyb
  refine lv_iadd hexec hb hdg ?_
  rw [nI_add]
  exact k
theorem N_imul (hexec : p.tables.exec = Jvm.exec) (hb : c.code = cc) {x y : Int32} {a b : Nat} (hxa : x = nI a) (hyb : y = nI b) (hdg : decode cc pc = .ok (.imul, 1)) (k : W p l e R s m args below meth c H locs cells slots Q (F0 m (pc + 1) ls (.int (nI (a * b)) :: rest))) : W p l e R s m args below meth c H locs cells slots Q (F0 m pc ls (.int y :: .int x :: rest)) := by
  subst hxa; subst hyb
  refine lv_imul hexec hb hdg ?_
  rw [pk_mul]
  exact k
theorem N_isub (hexec : p.tables.exec = Jvm.exec) (hb : c.code = cc) {x y : Int32} {a b : Nat} (hxa : x = nI a) (hyb : y = nI b) (h : b ≤ a) (hdg : decode cc pc = .ok (.isub, 1)) (k : W p l e R s m args below meth c H locs cells slots Q (F0 m (pc + 1) ls (.int (nI (a - b)) :: rest))) : W p l e R s m args below meth c H locs cells slots Q (F0 m pc ls (.int y :: .int x :: rest)) := by
  subst hxa; subst hyb
  refine lv_isub hexec hb hdg ?_
  rw [pk_sub h]
  exact k
end GBR
section GARR
variable {p : Program} {l : Launch} {e : Env} {R : Room} {s : State} {m : MethodId} {args : Array Value} {below : List Frame} {meth : Method} {c : Code} {H : Heap} {locs : List Loc} {cells slots : Nat} {Q : State → Prop} {cc : ByteArray} {pc : Nat} {ls : Array Slot} {rest : List Value} {E : gE} {ws : va_W} {a : Nat} {A : Nat → Prop} {H0 : Heap}
theorem ild (hexec : p.tables.exec = Jvm.exec) (hb : c.code = cc) (hK : KK E s) (hP : va_P E.1 vwCl ws H) (q0 : Nat) {n : Nat} {f : Nat → Int32} (ha : ws[q0]? = some (ar E a n f)) {i : Int32} {j : Nat} (hi : i = nI j) (hj : j < n) (hn : n < 2 ^ 31) (hdg : decode cc pc = .ok (.iaload, 1))
    (kk : W p l e R s m args below meth c H locs cells slots Q (F0 m (pc + 1) ls (.int (f j) :: rest))) : W p l e R s m args below meth c H locs cells slots Q (F0 m pc ls (.int i :: .ref a :: rest)) := by
  subst hi
  refine va_iald hexec hb hK.1 hP q0 0 ha rfl (vp_in_nI hj hn) hdg ?_
  rw [nI_clamp (Nat.lt_trans hj hn)]
  exact kk
theorem lld (hexec : p.tables.exec = Jvm.exec) (hb : c.code = cc) (hK : KK E s) (hP : va_P E.1 vwCl ws H) (q0 : Nat) {n : Nat} {f : Nat → Int64} (ha : ws[q0]? = some (al E a n f)) {i : Int32} {j : Nat} (hi : i = nI j) (hj : j < n) (hn : n < 2 ^ 31) (hdg : decode cc pc = .ok (.laload, 1))
    (kk : W p l e R s m args below meth c H locs cells slots Q (F0 m (pc + 1) ls (.long (f j) :: rest))) : W p l e R s m args below meth c H locs cells slots Q (F0 m pc ls (.int i :: .ref a :: rest)) := by
  subst hi
  refine va_lald hexec hb hK.1 hP q0 1 ha rfl (vp_in_nI hj hn) hdg ?_
  rw [nI_clamp (Nat.lt_trans hj hn)]
  exact kk
theorem ald (hexec : p.tables.exec = Jvm.exec) (hb : c.code = cc) (hK : KK E s) (hP : va_P E.1 vwCl ws H) (q0 : Nat) {n : Nat} {f : Nat → Option Nat} (ha : ws[q0]? = some (aq E a n f)) {i : Int32} {j : Nat} (hi : i = nI j) (hj : j < n) (hn : n < 2 ^ 31) {v : Nat} (hv : f j = some v) (hdg : decode cc pc = .ok (.aaload, 1))
    (kk : W p l e R s m args below meth c H locs cells slots Q (F0 m (pc + 1) ls (.ref v :: rest))) : W p l e R s m args below meth c H locs cells slots Q (F0 m pc ls (.int i :: .ref a :: rest)) := by
  subst hi
  refine va_aldq hexec hb hK.1 hP q0 2 (C := RX3) ha rfl (vp_in_nI hj hn) hdg ?_
  rw [nI_clamp (Nat.lt_trans hj hn), hv]
  exact kk
theorem ist (hexec : p.tables.exec = Jvm.exec) (hb : c.code = cc) (hK : KK E s) (hP : va_P E.1 vwCl ws H) (hD : va_D A ws) (hS : va_S A H0 H locs) (q0 : Nat) {n : Nat} {f : Nat → Int32} (ha : ws[q0]? = some (ar E a n f)) {i x : Int32} {j : Nat} (hi : i = nI j) (hj : j < n) (hn : n < 2 ^ 31) (hdg : decode cc pc = .ok (.iastore, 1))
    (kk : ∀ (H1 : Heap) (locs1 : List Loc), va_P E.1 vwCl (ws.set q0 (ar E a n (upd f j x))) H1 → va_D A (ws.set q0 (ar E a n (upd f j x))) → va_S A H0 H1 locs1 → W p l e R s m args below meth c H1 locs1 cells slots Q (F0 m (pc + 1) ls rest)) : W p l e R s m args below meth c H locs cells slots Q (F0 m pc ls (.int x :: .int i :: .ref a :: rest)) := by
  subst hi
  have hc := nI_clamp (Nat.lt_trans hj hn)
  refine va_iast hexec hb hK.1 hP hD hS q0 0 ha rfl (vp_in_nI hj hn) hdg ?_
  rw [hc]
  exact kk
theorem lst (hexec : p.tables.exec = Jvm.exec) (hb : c.code = cc) (hK : KK E s) (hP : va_P E.1 vwCl ws H) (hD : va_D A ws) (hS : va_S A H0 H locs) (q0 : Nat) {n : Nat} {f : Nat → Int64} (ha : ws[q0]? = some (al E a n f)) {i : Int32} {x : Int64} {j : Nat} (hi : i = nI j) (hj : j < n) (hn : n < 2 ^ 31) (hdg : decode cc pc = .ok (.lastore, 1))
    (kk : ∀ (H1 : Heap) (locs1 : List Loc), va_P E.1 vwCl (ws.set q0 (al E a n (vp_updL f j x))) H1 → va_D A (ws.set q0 (al E a n (vp_updL f j x))) → va_S A H0 H1 locs1 → W p l e R s m args below meth c H1 locs1 cells slots Q (F0 m (pc + 1) ls rest)) : W p l e R s m args below meth c H locs cells slots Q (F0 m pc ls (.long x :: .int i :: .ref a :: rest)) := by
  subst hi
  have hc := nI_clamp (Nat.lt_trans hj hn)
  refine va_last hexec hb hK.1 hP hD hS q0 1 ha rfl (vp_in_nI hj hn) hdg ?_
  rw [hc]
  exact kk
end GARR
