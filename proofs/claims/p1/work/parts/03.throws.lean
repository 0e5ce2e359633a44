/-! ===== methods that throw, calls of such methods, and the rows that catch ===== -/
/-- the end of a method that throws x -/
def MQT (below : List Frame) (Qt : Array Value → State → Addr → State → Prop) (a : Array Value) (s : State) (mc ms : Nat) (free : Addr → Prop) : State → Prop := fun t =>
  ∃ x, t.status = .running ∧ Ended t below (.threw x) ∧ Qt a s x t ∧ ∃ L, (s.WarmedH t.vm ∧ s.sameButNew ({ t with vm := s.vm } : State) L mc ms) ∧ ∀ q ∈ L, free q.base
/-- the contract of a method that throws -/
def MetT (l : Launch) (y : MethodName) (ws : List Cond) (rm : Room) (Pc : Array Value → State → Prop) (Qt : Array Value → State → Addr → State → Prop) (mc ms : Nat) (free : Addr → Prop) : Prop :=
  MetFree l y (headSpec ws rm) Pc (fun _ _ _ _ _ => True) (fun a st o t => ∃ x, o = .threw x ∧ Qt a st x t ∧ ∃ L, (st.WarmedH t.vm ∧ st.sameButNew ({ t with vm := st.vm } : State) L mc ms) ∧ ∀ q ∈ L, free q.base)
section XT1
variable {l : Launch}
theorem MetT.ofW {y : MethodName} {ws ws' : List Cond} {rm : Room} {Pc : Array Value → State → Prop} {Qt : Array Value → State → Addr → State → Prop} {mc ms : Nat} {free : Addr → Prop} {cc : ByteArray} {maxL : Nat} {ret : Option FieldType}
    (hy : plainName y.cls = true) (hw : ws = Cond.code y cc maxL ret :: ws')
    (body : ∀ p e s m args below meth c s₁, BodyLoose p l y (headSpec ws rm) cc maxL ret e s m args below meth c s₁ → c.maxLocals = maxL → (∀ x ∈ c.exceptionTable.toList, ∀ k : Nat, covers x k = false) → Pc args s →
      W p l e (headSpec ws rm).room s m args below meth c s.heap [] 0 0 (MQT below Qt args s mc ms free) (entryFrame m args maxL)) : MetT l y ws rm Pc Qt mc ms free := by
  refine MetFree.of_bodyS (code := cc) (maxLocals := maxL) (ret := ret) hy ?_ ?_
  · intro args s m h hn
    obtain ⟨meth, c, h1, h2, h3, h4, h5, h6, -, -⟩ := Cond.code_spec hn (atoms_spec (ws := ws) h _ (by rw [hw]; exact List.mem_cons_self))
    exact ⟨meth, c, h1, h2, h3, h4, h5, h6⟩
  · intro p e s m args below meth c s₁ B hml hP _
    have hh0 : s₁.heap = s.heap := by rw [B.state]; rfl
    have hnone : c.exceptionTable.isEmpty = true := B.noHandlers (atoms_spec (ws := ws) B.pre _ (by rw [hw]; exact List.mem_cons_self))
    have hno : ∀ x ∈ c.exceptionTable.toList, ∀ k : Nat, covers x k = false := fun x hx k => by
      have h0 : c.exceptionTable = #[] := Array.isEmpty_iff.mp hnone
      rw [h0] at hx
      exact absurd hx (by simp)
    obtain ⟨t, a1, x, b1, b2, b3⟩ := body p e s m args below meth c s₁ B hml hno hP s₁ hh0 (Stand.of_body B)
    exact ⟨t, .threw x, a1, b1, b2, x, rfl, b3⟩
end XT1
section XT2
variable {p : Program} {l : Launch} {e : Env} {R : Room} {s : State} {m : MethodId} {args : Array Value} {below : List Frame} {meth : Method} {c : Code} {H : Heap} {locs : List Loc} {cells slots : Nat} {Q : State → Prop}
/-- an exception x is on its way through the frame g -/
def WT (p : Program) (l : Launch) (e : Env) (R : Room) (s : State) (m : MethodId) (args : Array Value) (below : List Frame) (meth : Method) (c : Code) (H : Heap) (locs : List Loc) (cells slots : Nat) (Q : State → Prop) (g : JFrame) (x : Addr) : Prop :=
  ∀ T : State, T.heap = H → Stand p l e R s m args below meth c T locs cells slots → ∃ t, Steps p.tables e below ((T.setTop g).pushFrame (.throwing x)) t ∧ Q t
/-- nobody catches it here -/
theorem WT.out {Qt : Array Value → State → Addr → State → Prop} {free : Addr → Prop} {x : Addr} {pc : Nat} {ls : Array Slot} {st : List Value} (hno : ∀ x ∈ c.exceptionTable.toList, ∀ k : Nat, covers x k = false) (hlocks : meth.locks = false)
    (hq : ∀ t : State, t.heap = H → s.WarmedH t.vm → Qt args s x t) (hf : ∀ q ∈ locs, free q.base) :
    WT p l e R s m args below meth c H locs cells slots (MQT below Qt args s cells slots free) (F0 m pc ls st) x := by
  intro T hT X
  obtain ⟨h1, h2, h3, h4, h5⟩ := X.leaveThrown x (g := F0 m pc ls st) rfl rfl rfl (fun y hy => hno y hy pc) hlocks
  exact ⟨_, h1, x, h2, h3, hq _ hT h4, locs, ⟨h4, h5⟩, hf⟩
variable {y : MethodName} {ws : List Cond} {rm : Room} {Pc : Array Value → State → Prop} {Qt : Array Value → State → Addr → State → Prop} {mc ms : Nat} {free : Addr → Prop} {bytes : ByteArray} {maxL : Nat} {ret : Option FieldType}
/-- at the call itself: the callee's contract, laid at the caller's point -/
theorem MetT.at {T : State} {g : JFrame} {ig : Instr} {len Wd : Nat} {mk : MethodId} {a : Array Value} (hM : MetT l y ws rm Pc Qt mc ms free) (hblind : FrameBlind Pc) (hrc : rm.cells = mc) (hrs : rm.slots = ms)
    (hframes : rm.frames + 1 ≤ R.frames) (hlocals : Wd + (maxL + 11) + rm.locals ≤ R.locals)
    (hws : ∀ w ∈ ws, ∀ a' U, s.WarmedH U.vm → w.before a' U = true) (hcode : Cond.code y bytes maxL ret ∈ ws) (hinit : ∀ a' U, s.WarmedH U.vm → (Cond.initialized y.cls).before a' U = true)
    (X : Stand p l e R s m args below meth c T locs cells slots) (hg : g.method = m) (hsize : g.locals.size = c.maxLocals) (hdg : decode c.code g.pc = .ok (ig, len))
    (hW : 2 * g.monitorRoom + (g.stack.map fun v => v.category).sum ≤ Wd) (hn : T.methodNamed? y = some mk) (hc : cells + mc ≤ R.cells) (hs : slots + ms ≤ R.slots) (hp : Pc a T) :
    ∃ (x : Addr) (T' t : State) (L : List Loc), Stand p l e R s m args below meth c T' (locs ++ L) (cells + mc) (slots + ms) ∧ (∀ q ∈ L, free q.base) ∧ T'.heap = t.heap ∧ T'.vm = t.vm ∧ Qt a (T.calling g mk a) x t ∧
      Steps p.tables e below (doInvoke e (T.setTop g) [] mk a).1 ((T'.setTop g).pushFrame (.throwing x)) := by
  have h1 : (headSpec ws rm).pre.before a T = true := atoms_intro fun w hw => hws w hw _ _ X.warmed
  obtain ⟨methY, cY, hmY, hcY, -, hlY, -, -, -, -⟩ := Cond.code_spec hn (hws _ hcode a T X.warmed)
  obtain ⟨kY, hkY, -⟩ := className_of_methodNamed hn
  have hinitY : kY.init = .initialized := Cond.initialized_spec (findClass_of_methodNamed hn) hkY (hinit a T X.warmed)
  have h : At T g.method c below := by rw [hg]; exact X.here
  have happ : (headSpec ws rm).appliesLoose y e.platform (T.calling g mk a) = true :=
    Spec.appliesLoose_calling (g := g) h hdg hn hkY hinitY
      (X.room_calling (g := g) (R' := rm) hsize hmY hcY hframes (by rw [hlY]; omega) (by rw [hrc]; exact hc) (by rw [hrs]; exact hs)) h1
  obtain ⟨mid, hmid⟩ := h.above
  have hfr : (T.setTop g).frames = (.java g :: mid) ++ below := by rw [State.frames_setTop' g h.top, hmid]; rfl
  obtain ⟨o, t, hsteps, -, hend, hq⟩ := Steps.callFree hM p X.admits X.cas X.clock (acts := []) hfr happ (hblind _ _ _ _ hp) trivial
  obtain ⟨x, rfl, hq, L, ⟨hW2, hsame⟩, hL⟩ := hq
  rw [State.frames_setTop' g h.top, X.tail] at hend
  obtain ⟨T', X', -, -, ht⟩ := X.outOfThrown (g := g) hg (mk := mk) (a := a) (t := t) (x := x) hend hW2 hsame
  refine ⟨x, T', t, L, X', hL, ?_, ?_, hq, ?_⟩
  · rw [ht]; rfl
  · rw [ht]; rfl
  · rw [ht] at hsteps; exact hsteps
end XT2
section XT3
variable {Q : Handler → Pre} {E : CtlPost} {e : Env} {d : Bool} {acts : List Action} {s : State} {f : JFrame} {a : Addr}
/-- the search at a row whose class may be linked only now -/
theorem xk_row {x : ExceptionTableEntry} {rows : List ExceptionTableEntry} {k : ClassId} {cell : Cell} (hx : covers x f.pc = true) (h0 : x.catchType ≠ 0)
    (hl : s.vm.ClassLinks e.platform f.method.cls x.catchType k) (hcell : s.heap[a]? = some cell) (hobj : ∀ z, cell.vm ≠ .statics z)
    (hk : ∃ z, s.vm.classes[cell.cls]? = some z) (hc : ∃ z, s.vm.classes[k]? = some z) :
    wp (findHandler.go f a (x :: rows)) Q E e d acts s ↔ if s.vm.assignable cell.cls k = true then Q (.found x.handlerPc) d acts (s.setVm (s.vm.noted f.method.cls x.catchType (.cls k))) else wp (findHandler.go f a rows) Q E e d acts (s.setVm (s.vm.noted f.method.cls x.catchType (.cls k))) := by
  simp only [covers] at hx
  have hR := (resolveClass_links e.toSetting hl).op (op := VmOp.resolveClass f.method.cls x.catchType) rfl
  have hA : s.vm.Alike (s.vm.noted f.method.cls x.catchType (.cls k)) := (Vm.Alike.refl s.vm).noted _ _ _
  obtain ⟨z1, hz1⟩ := hk
  obtain ⟨z2, hz2⟩ := hc
  obtain ⟨w1, hw1, -⟩ := hA.2.2 _ _ hz1
  obtain ⟨w2, hw2, -⟩ := hA.2.2 _ _ hz2
  have hv : (s.vm.noted f.method.cls x.catchType (.cls k)).assignable cell.cls k = s.vm.assignable cell.cls k := hA.assignable _ _
  cases hfit : s.vm.assignable cell.cls k <;> rw [hfit] at hv <;> simp [findHandler.go, hx, h0, hR.1, hR.2, hcell, hobj, hw1, hw2, hv, VmOp.dirties, VmOp.acts]
end XT3
section XT4
variable {p : Program} {l : Launch} {e : Env} {R : Room} {s : State} {m : MethodId} {args : Array Value} {below : List Frame} {meth : Method} {c : Code} {H : Heap} {locs : List Loc} {cells slots : Nat} {Q : State → Prop}
/-- the search has found a handler, with the tables vm' behind it: the walk goes on there -/
theorem xk_go {T : State} {g : JFrame} {x : Addr} {pc : Nat} {vm' : Vm} {target : State} (X : Stand p l e R s m args below meth c T locs cells slots) (hg : g.method = m)
    (hfind : ∀ (Q : Handler → Pre) (E : CtlPost) (d : Bool) (acts : List Action), wp (findHandler g x) Q E e d acts ((T.setTop g).pushFrame (.throwing x)) ↔ Q (.found pc) d acts (((T.setTop g).pushFrame (.throwing x)).setVm vm'))
    (hrest : Steps p.tables e below ((T.setVm vm').setTop { g with pc := pc, stack := [.ref x] }) target) : Steps p.tables e below ((T.setTop g).pushFrame (.throwing x)) target := by
  have h : At T g.method c below := by rw [hg]; exact X.here
  obtain ⟨hgo, hw⟩ := h.throwing x
  refine Steps.head hgo hw ?_
  have hstep : ∀ r : List Frame, (stepThrowing e ((T.setTop g).pushFrame (.throwing x)) x (.java g :: r)).1 = (((T.setTop g).pushFrame (.throwing x)).setVm vm').setFrames (.java { g with pc := pc, stack := [.ref x] } :: r) := by
    intro r
    simp only [stepThrowing, searchFrame, vmDo]
    generalize hr : Sem.go _ e false [] ((T.setTop g).pushFrame (.throwing x)) = res
    obtain ⟨as, rfl, -⟩ := Sem.eq_ok_of hr (a := Handler.found pc) (s' := ((T.setTop g).pushFrame (.throwing x)).setVm vm') (acts' := []) (by simp [hfind _ _ _ _])
    rfl
  rw [stepThread_throwing (frames_entered h.top _), hstep]
  obtain ⟨g₀, hg0⟩ := Option.isSome_iff_exists.mp h.top
  obtain ⟨r, hr⟩ := State.topJava?_eq_some.mp hg0
  have hr' : (T.setVm vm').frames = .java g₀ :: r := hr
  rw [State.setTop_of_frames _ hr'] at hrest
  rw [State.setTop_of_frames _ hr, State.pushFrame, State.setFrames_setFrames, hr, show ∀ F : List Frame, (T.setFrames F).setVm vm' = (T.setVm vm').setFrames F from fun _ => rfl, State.setFrames_setFrames]
  exact hrest
/-- the first row catches -/
theorem WT.catch1 {x : Addr} {pc pc' : Nat} {ls : Array Slot} {st : List Value} {own nm : String} {x0 : ExceptionTableEntry} {rows : List ExceptionTableEntry} (hown : s.vm.findClass own = some m.cls) (hrows : c.exceptionTable.toList = x0 :: rows)
    (hcov : covers x0 pc = true) (h0 : x0.catchType ≠ 0) (hpc : x0.handlerPc = pc') (hlink : (Cond.classLink own x0.catchType nm).before args s = true)
    (hcell : ∃ cell : Cell, H[x]? = some cell ∧ cell.vm.isStatics = false ∧ s.vm.findClass nm = some cell.cls) (hself : (Cond.castable nm nm).before args s = true)
    (kk : W p l e R s m args below meth c H locs cells slots Q (F0 m pc' ls [.ref x])) : WT p l e R s m args below meth c H locs cells slots Q (F0 m pc ls st) x := by
  intro T hT X
  subst hpc
  have hpl : e.platform.magicAccessors = ({} : Platform).magicAccessors := by rw [X.admits.platform]
  obtain ⟨cell, hH, hobj, hcls⟩ := hcell
  obtain ⟨k, hk, hl⟩ := Cond.classLink_spec hown hlink e.platform hpl
  cases hk.symm.trans hcls
  obtain ⟨c3, c4, hc3, hc4, hasg⟩ := Cond.castable_spec hself
  cases hc3.symm.trans hcls
  cases hc4.symm.trans hcls
  obtain ⟨dk, _, _, kt, hd, _, _, _, _, hkt, _, hopen⟩ := hl.here
  have hW := X.warmed
  have hW' : s.WarmedH (T.vm.noted m.cls x0.catchType (.cls cell.cls)) := hW.noted hd hopen (State.rightAt_cls hl)
  obtain ⟨kt', hkt', -⟩ := hW.alike.2.2 _ _ hkt
  obtain ⟨t, a1, b1⟩ := kk (T.setVm (T.vm.noted m.cls x0.catchType (.cls cell.cls))) hT (X.noted hW')
  refine ⟨t, xk_go X rfl (vm' := T.vm.noted m.cls x0.catchType (.cls cell.cls)) (fun Q E d acts => ?_) a1, b1⟩
  have hvm : (((T.setTop (F0 m pc ls st)).pushFrame (.throwing x)) : State).vm = T.vm := Stand.throwing_vm T _ x
  have hhp : (((T.setTop (F0 m pc ls st)).pushFrame (.throwing x)) : State).heap = T.heap := Stand.throwing_heap T _ x
  rw [W.findHandler_eq (meth := meth) (code := c) (by rw [hvm]; exact X.method') X.code, hrows]
  rw [xk_row (cell := cell) hcov h0 (by rw [hvm]; exact hW.classLinks hl) (by rw [hhp, hT]; exact hH) (fun z hz => by rw [hz] at hobj; cases hobj) (by rw [hvm]; exact ⟨_, hkt'⟩) (by rw [hvm]; exact ⟨_, hkt'⟩), hvm, if_pos (by rw [hW.alike.assignable]; exact hasg)]
/-- the first row lets it pass, the second one catches -/
theorem WT.catch2 {x : Addr} {pc pc' : Nat} {ls : Array Slot} {st : List Value} {own nm other : String} {x0 x1 : ExceptionTableEntry} {rows : List ExceptionTableEntry} (hown : s.vm.findClass own = some m.cls) (hrows : c.exceptionTable.toList = x0 :: x1 :: rows)
    (hcov0 : covers x0 pc = true) (h00 : x0.catchType ≠ 0) (hlink0 : (Cond.classLink own x0.catchType other).before args s = true) (hnot : (Cond.not (.castable nm other)).before args s = true)
    (hcov : covers x1 pc = true) (h0 : x1.catchType ≠ 0) (hpc : x1.handlerPc = pc') (hlink : (Cond.classLink own x1.catchType nm).before args s = true)
    (hcell : ∃ cell : Cell, H[x]? = some cell ∧ cell.vm.isStatics = false ∧ s.vm.findClass nm = some cell.cls) (hself : (Cond.castable nm nm).before args s = true)
    (kk : W p l e R s m args below meth c H locs cells slots Q (F0 m pc' ls [.ref x])) : WT p l e R s m args below meth c H locs cells slots Q (F0 m pc ls st) x := by
  intro T hT X
  subst hpc
  have hpl : e.platform.magicAccessors = ({} : Platform).magicAccessors := by rw [X.admits.platform]
  obtain ⟨cell, hH, hobj, hcls⟩ := hcell
  obtain ⟨k0, hk0, hl0⟩ := Cond.classLink_spec hown hlink0 e.platform hpl
  have hno : s.vm.assignable cell.cls k0 = false := by
    have hv := Cond.holds_not_iff.mp hnot
    simp only [Cond.value, hcls, hk0] at hv
    exact Option.some.inj hv
  obtain ⟨k, hk, hl⟩ := Cond.classLink_spec hown hlink e.platform hpl
  cases hk.symm.trans hcls
  obtain ⟨c3, c4, hc3, hc4, hasg⟩ := Cond.castable_spec hself
  cases hc3.symm.trans hcls
  cases hc4.symm.trans hcls
  obtain ⟨dk0, _, _, kt0, hd0, _, _, _, _, hkt0, _, hopen0⟩ := hl0.here
  obtain ⟨dk, _, _, kt, hd, _, _, _, _, hkt, _, hopen⟩ := hl.here
  have hW := X.warmed
  have hW0 : s.WarmedH (T.vm.noted m.cls x0.catchType (.cls k0)) := hW.noted hd0 hopen0 (State.rightAt_cls hl0)
  have hW1 : s.WarmedH ((T.vm.noted m.cls x0.catchType (.cls k0)).noted m.cls x1.catchType (.cls cell.cls)) := hW0.noted hd hopen (State.rightAt_cls hl)
  obtain ⟨kt0', hkt0', -⟩ := hW.alike.2.2 _ _ hkt0
  obtain ⟨kt', hkt', -⟩ := hW.alike.2.2 _ _ hkt
  obtain ⟨kt'', hkt'', -⟩ := hW0.alike.2.2 _ _ hkt
  obtain ⟨t, a1, b1⟩ := kk (T.setVm ((T.vm.noted m.cls x0.catchType (.cls k0)).noted m.cls x1.catchType (.cls cell.cls))) hT (X.noted hW1)
  refine ⟨t, xk_go X rfl (vm' := (T.vm.noted m.cls x0.catchType (.cls k0)).noted m.cls x1.catchType (.cls cell.cls)) (fun Q E d acts => ?_) a1, b1⟩
  have hvm : (((T.setTop (F0 m pc ls st)).pushFrame (.throwing x)) : State).vm = T.vm := Stand.throwing_vm T _ x
  have hhp : (((T.setTop (F0 m pc ls st)).pushFrame (.throwing x)) : State).heap = T.heap := Stand.throwing_heap T _ x
  rw [W.findHandler_eq (meth := meth) (code := c) (by rw [hvm]; exact X.method') X.code, hrows]
  rw [xk_row (cell := cell) hcov0 h00 (by rw [hvm]; exact hW.classLinks hl0) (by rw [hhp, hT]; exact hH) (fun z hz => by rw [hz] at hobj; cases hobj) (by rw [hvm]; exact ⟨_, hkt'⟩) (by rw [hvm]; exact ⟨_, hkt0'⟩), hvm, if_neg (by rw [hW.alike.assignable, hno]; decide)]
  rw [xk_row (cell := cell) hcov h0 (hW0.classLinks hl) (by show (((T.setTop (F0 m pc ls st)).pushFrame (.throwing x)) : State).heap[x]? = some cell; rw [hhp, hT]; exact hH) (fun z hz => by rw [hz] at hobj; cases hobj) ⟨_, hkt''⟩ ⟨_, hkt''⟩, if_pos (by rw [show ((((T.setTop (F0 m pc ls st)).pushFrame (.throwing x)) : State).setVm (T.vm.noted m.cls x0.catchType (.cls k0))).vm = T.vm.noted m.cls x0.catchType (.cls k0) from rfl, hW0.alike.assignable]; exact hasg)]
  rfl
end XT4
