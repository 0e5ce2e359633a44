/-! ===== new T[2][n]: a row of my own (the outer array and its two rows are not looked at again) ===== -/
def x_o0 (c : ClassId) : Cell := { cls := c, slots := Array.replicate 2 .null, vm := .none }
def x_in (c : ClassId) (n : Nat) (v : Value) : Cell := { cls := c, slots := Array.replicate n v, vm := .none }
def x_g1 (s : State) (c comp : ClassId) (n : Nat) (v : Value) : State := ((s.pushCell (x_o0 c)).pushCell (x_in comp n v)).setCell s.heap.size ((x_o0 c).setSlot 0 (.ref (s.heap.size + 1)))
def x_g2 (s : State) (c comp : ClassId) (n : Nat) (v : Value) : State := ((x_g1 s c comp n v).pushCell (x_in comp n v)).setCell s.heap.size (((x_o0 c).setSlot 0 (.ref (s.heap.size + 1))).setSlot 1 (.ref (s.heap.size + 2)))
section XM1
variable {E : CtlPost} {e : Env} {d : Bool} {acts : List Action} {s : State}
theorem x_make1 {comp cc : ClassId} {kc : Class} {ty : FieldType} {n : Int32} {Q : Addr → Pre} (hkc : s.vm.classes[comp]? = some kc) (hkindc : kc.kind = .array cc ty) (hn : ¬ n < 0)
    (hl2 : ¬ n.toNatClampNeg > e.platform.arrayLengthLimit) (hh2 : ¬ n.toNatClampNeg * componentBytes ty > e.platform.maxHeapBytes) (hc : s.heap.size < e.platform.maxCells) (hs : s.slotsUsed + n.toNatClampNeg ≤ e.platform.maxSlots)
    (hdf : fits ty (defaultValue ty) = true) (hq : ∀ acts', Q s.heap.size d acts' (s.pushCell (x_in comp n.toNatClampNeg (defaultValue ty)))) : wp (multianewarray.make comp [n]) Q E e d acts s := by
  rw [multianewarray.make]
  simp only [wp_bind', W.ite, hn, if_false, wp_pure', W.theClass, hkc, hkindc, Option.some.injEq, exists_eq_left']
  exact W.newArray_of hkc hkindc hl2 hh2 hc hs hdf hq
/-- 'make' of two dimensions, the outer one of two rows -/
theorem x_make2 {c comp cc : ClassId} {k kc : Class} {t0 ty : FieldType} {n : Int32} {Q : Addr → Pre} (hk : s.vm.classes[c]? = some k) (hkind : k.kind = .array comp t0) (href : ∀ v : Value, v.isRef = true → fits t0 v = true)
    (hkc : s.vm.classes[comp]? = some kc) (hkindc : kc.kind = .array cc ty) (hn : ¬ n < 0)
    (hl1 : ¬ 2 > e.platform.arrayLengthLimit) (hh1 : ¬ 2 * componentBytes t0 > e.platform.maxHeapBytes)
    (hl2 : ¬ n.toNatClampNeg > e.platform.arrayLengthLimit) (hh2 : ¬ n.toNatClampNeg * componentBytes ty > e.platform.maxHeapBytes)
    (hdf : fits ty (defaultValue ty) = true) (hc : s.heap.size + 3 ≤ e.platform.maxCells) (hs : s.slotsUsed + (2 + 2 * n.toNatClampNeg) ≤ e.platform.maxSlots)
    (hq : ∀ d' acts', Q s.heap.size d' acts' (x_g2 s c comp n.toNatClampNeg (defaultValue ty))) : wp (multianewarray.make c [2, n]) Q E e d acts s := by
  rw [multianewarray.make]
  simp only [wp_bind', W.ite, show ¬ (2 : Int32) < 0 by decide, if_false, wp_pure', W.theClass, hk, hkind, Option.some.injEq, exists_eq_left']
  refine W.newArray_of hk hkind (howMany := 2) hl1 hh1 (by omega) (by omega) (href _ rfl) (fun a1 => ?_)
  simp only [show ((2 : Int32) == 0) = false by decide, Bool.false_eq_true, if_false, wp_bind', wp_pure', W.ite]
  rw [Std.Legacy.Range.forIn_eq_forIn_range']
  simp only [show (2 : Int32).toNatClampNeg = 2 by decide, Std.Legacy.Range.size, List.range', Nat.sub_zero, Nat.add_sub_cancel, Nat.div_one, List.forIn_cons, List.forIn_nil, wp_bind', wp_pure']
  have hsz : s.heap.size < (s.pushCell (x_o0 c)).heap.size := by simp
  refine x_make1 (s := s.pushCell (x_o0 c)) hkc hkindc hn hl2 hh2 (by simp; omega) (by simp [x_o0]; omega) hdf (fun a2 => ?_)
  simp only [wp_bind', W.writeLoc, wp_pure']
  refine ⟨x_o0 c, by rw [State.heap_pushCell_of_lt (h := hsz)]; exact State.heap_pushCell_size _ _, by simp [x_o0], by simp [x_o0], by simp [x_o0, State.fitsSlot, State.slotType?, hk, hkind]; exact href _ rfl, ?_⟩
  have hg : ((s.pushCell (x_o0 c)).pushCell (x_in comp n.toNatClampNeg (defaultValue ty))).setCell s.heap.size ((x_o0 c).setSlot 0 (.ref (s.pushCell (x_o0 c)).heap.size)) = x_g1 s c comp n.toNatClampNeg (defaultValue ty) := by
    rw [show (s.pushCell (x_o0 c)).heap.size = s.heap.size + 1 by simp]; rfl
  rw [hg]
  have h1 : (x_g1 s c comp n.toNatClampNeg (defaultValue ty)).heap.size = s.heap.size + 2 := by simp [x_g1, State.setCell]
  have h2 : (x_g1 s c comp n.toNatClampNeg (defaultValue ty)).slotsUsed = s.slotsUsed + 2 + n.toNatClampNeg := by simp [x_g1, x_o0, x_in]
  have h3 : (x_g1 s c comp n.toNatClampNeg (defaultValue ty)).vm = s.vm := rfl
  have h4 : (x_g1 s c comp n.toNatClampNeg (defaultValue ty)).heap[s.heap.size]? = some ((x_o0 c).setSlot 0 (.ref (s.heap.size + 1))) :=
    State.heap_setCell_self (c := x_o0 c) (by rw [State.heap_pushCell_of_lt (h := hsz)]; exact State.heap_pushCell_size _ _)
  refine x_make1 (s := x_g1 s c comp n.toNatClampNeg (defaultValue ty)) (by rw [h3]; exact hkc) hkindc hn hl2 hh2 (by rw [h1]; omega) (by rw [h2]; omega) hdf (fun a3 => ?_)
  simp only [wp_bind', W.writeLoc, wp_pure']
  refine ⟨(x_o0 c).setSlot 0 (.ref (s.heap.size + 1)), by rw [State.heap_pushCell_of_lt (h := show s.heap.size < (x_g1 s c comp n.toNatClampNeg (defaultValue ty)).heap.size by rw [h1]; omega)]; exact h4, by simp [x_o0, Cell.setSlot], by simp [x_o0, Cell.setSlot], by simp [x_o0, Cell.setSlot, State.fitsSlot, State.slotType?, h3, hk, hkind]; exact href _ rfl, ?_⟩
  rw [h1]
  exact hq _ _
end XM1
/-- the class of an array of arrays, out of the tables' word -/
theorem x_over {args : Array Value} {s : State} {t : FieldType} (h : (Cond.arrayOver (.array t)).before args s = true) :
    ∃ comp c k, s.vm.findClass (FieldType.array t).toString = some comp ∧ s.vm.classes[c]? = some k ∧ k.kind = .array comp (.array t) ∧ s.vm.findClass ("[" ++ (FieldType.array t).toString) = some c := by
  have h : (Cond.arrayOver (.array t)).holds args s none s [] = true := h
  simp only [Cond.holds, Cond.value, beq_iff_eq] at h
  cases hc : s.vm.findClass (FieldType.array t).toString with
  | none => simp [hc] at h
  | some comp =>
    simp only [hc, Option.bind_some, Option.bind_eq_some_iff, Option.map_eq_some_iff] at h
    obtain ⟨c, hi, k, hk, hb⟩ := h
    have hp := (Array.findIdx?_eq_some_iff_getElem.mp hi).2.1
    rw [(Array.getElem?_eq_some_iff.mp hk).2] at hp
    cases hkind : k.kind <;> rw [hkind] at hb hp <;> simp at hb hp
    exact ⟨comp, c, k, rfl, hk, by rw [hkind, hp, hb.1], hb.2⟩
/-- the three classes' facts, that stay as the tables grow warm -/
def va_OA (U : State) : Prop := ∃ comp cA kA kC cc, U.vm.findClass "[B" = some comp ∧ U.vm.classes[cA]? = some kA ∧ kA.kind = .array comp (.array .byte) ∧ U.vm.findClass "[[B" = some cA ∧ U.vm.classes[comp]? = some kC ∧ kC.kind = .array cc .byte
theorem va_OA.of {args : Array Value} {s : State} (h : (Cond.arrayOver (.array .byte)).before args s = true) (h2 : (Cond.arrayClass .byte).before args s = true) : va_OA s := by
  obtain ⟨comp, cA, kA, h3, h4, h5, h6⟩ := x_over h
  obtain ⟨comp', kC, cc, h7, h8, h9⟩ := Cond.arrayClass_spec h2
  cases Option.some.inj (h7.symm.trans h3)
  exact ⟨comp, cA, kA, kC, cc, h3, h4, h5, h6, h8, h9⟩
theorem va_OA.moved {u U : State} (hvm : u.vm.Alike U.vm) (h : va_OA u) : va_OA U := by
  obtain ⟨comp, cA, kA, kC, cc, h3, h4, h5, h6, h8, h9⟩ := h
  obtain ⟨k1, q1, e1⟩ := hvm.2.2 _ _ h4
  obtain ⟨k2, q2, e2⟩ := hvm.2.2 _ _ h8
  exact ⟨comp, cA, k1, k2, cc, by rw [hvm.findClass]; exact h3, q1, by rw [e1]; exact h5, by rw [hvm.findClass]; exact h6, q2, by rw [e2]; exact h9⟩
theorem x_g2_top (s : State) (f : JFrame) (c comp : ClassId) (n : Nat) (v : Value) : x_g2 (s.setTop f) c comp n v = (x_g2 s c comp n v).setTop f := by
  simp only [x_g2, x_g1, State.heap_setTop, State.pushCell_setTop, State.setCell_setTop]
section XM2
variable {p : Program} {l : Launch} {e : Env} {R : Room} {s : State} {m : MethodId} {args : Array Value} {below : List Frame} {meth : Method} {c : Code} {H : Heap} {locs : List Loc} {cells slots : Nat} {Q : State → Prop}
variable {cc : ByteArray} {pc : Nat} {ls : Array Slot} {rest : List Value} {D : va_G} {cl : List vw_C} {A : Nat → Prop} {tys : List (ClassId × FieldType)} {ws : va_W} {H0 : Heap}
/-- new byte[2][n]: a reference to something new; the world stays -/
theorem x_grid (hexec : p.tables.exec = Jvm.exec) (hb : c.code = cc) {own : String} {index : Nat} (hown : s.vm.findClass own = some m.cls) (hclink : (Cond.classLink own index "[[B").before args s = true) (hO : va_OA s)
    (hP : va_P D cl ws H) (hS : va_S A s.heap H locs) {n : Int32} {N : Nat} (hn : ¬ n < 0) (hN : n.toNatClampNeg = N) (hN2 : N ≤ 536870912) (hcells : cells + 3 ≤ R.cells) (hslots : slots + (2 + 2 * N) ≤ R.slots) (hdg : decode cc pc = .ok (.multianewarray index 2, 4))
    (kk : ∀ (q : Nat) (H1 : Heap), va_P D cl ws H1 → va_S A s.heap H1 locs → W p l e R s m args below meth c H1 locs (cells + 3) (slots + (2 + 2 * N)) Q (F0 m (pc + 4) ls (.ref q :: rest))) : W p l e R s m args below meth c H locs cells slots Q (F0 m pc ls (.int n :: .int 2 :: rest)) := by
  subst hN
  intro T hT X
  have hpl : e.platform.magicAccessors = ({} : Platform).magicAccessors := by rw [X.admits.platform]
  obtain ⟨comp, cA, kA, kC, c3, hcomp, hkA, hkindA, hnameA, hkC, hkindC⟩ := hO
  obtain ⟨c0, hfc0, hcl⟩ := Cond.classLink_spec hown hclink e.platform hpl
  cases hnameA.symm.trans hfc0
  obtain ⟨hg1, hwarm, hready⟩ := State.classEntry (e := e) X.warmed hcl
  generalize T.vm.noted m.cls index (.cls cA) = vm1 at hg1 hwarm hready
  obtain ⟨k1, hk1, e1⟩ := hwarm.alike.2.2 _ _ hkA
  obtain ⟨k2, hk2, e2⟩ := hwarm.alike.2.2 _ _ hkC
  have X1 := X.noted hwarm
  obtain ⟨hr1, hr2⟩ := X.roomAbove hcells hslots
  have Xa := X1.pushed (x_o0 cA)
  have Xb := Xa.pushed (x_in comp n.toNatClampNeg (defaultValue .byte))
  have hsz : T.heap.size < ((T.setVm vm1).pushCell (x_o0 cA)).heap.size := by simp
  have hb0 : (((T.setVm vm1).pushCell (x_o0 cA)).pushCell (x_in comp n.toNatClampNeg (defaultValue .byte))).heap[T.heap.size]? = some (x_o0 cA) := by rw [State.heap_pushCell_of_lt (h := hsz)]; exact State.heap_pushCell_size _ _
  have Xc := Xb.stored hb0 0 (.ref (T.heap.size + 1))
  have hgT : (((T.setVm vm1).pushCell (x_o0 cA)).pushCell (x_in comp n.toNatClampNeg (defaultValue .byte))).setCell T.heap.size ((x_o0 cA).setSlot 0 (.ref (T.heap.size + 1))) = x_g1 (T.setVm vm1) cA comp n.toNatClampNeg (defaultValue .byte) := rfl
  rw [hgT] at Xc
  have h1 : (x_g1 (T.setVm vm1) cA comp n.toNatClampNeg (defaultValue .byte)).heap.size = T.heap.size + 2 := by simp [x_g1, State.setCell]
  have h4 : (x_g1 (T.setVm vm1) cA comp n.toNatClampNeg (defaultValue .byte)).heap[T.heap.size]? = some ((x_o0 cA).setSlot 0 (.ref (T.heap.size + 1))) := State.heap_setCell_self (c := x_o0 cA) hb0
  have Xd := Xc.pushed (x_in comp n.toNatClampNeg (defaultValue .byte))
  have hb1 : ((x_g1 (T.setVm vm1) cA comp n.toNatClampNeg (defaultValue .byte)).pushCell (x_in comp n.toNatClampNeg (defaultValue .byte))).heap[T.heap.size]? = some ((x_o0 cA).setSlot 0 (.ref (T.heap.size + 1))) := by rw [State.heap_pushCell_of_lt (h := show T.heap.size < (x_g1 (T.setVm vm1) cA comp n.toNatClampNeg (defaultValue .byte)).heap.size by rw [h1]; omega)]; exact h4
  have Xe := Xd.stored hb1 1 (.ref (T.heap.size + 2))
  have hgT2 : ((x_g1 (T.setVm vm1) cA comp n.toNatClampNeg (defaultValue .byte)).pushCell (x_in comp n.toNatClampNeg (defaultValue .byte))).setCell T.heap.size (((x_o0 cA).setSlot 0 (.ref (T.heap.size + 1))).setSlot 1 (.ref (T.heap.size + 2))) = x_g2 (T.setVm vm1) cA comp n.toNatClampNeg (defaultValue .byte) := rfl
  rw [hgT2] at Xe
  have hold : ∀ q : Nat, q < T.heap.size → (x_g2 (T.setVm vm1) cA comp n.toNatClampNeg (defaultValue .byte)).heap[q]? = T.heap[q]? := by
    intro q hq
    show (((x_g1 (T.setVm vm1) cA comp n.toNatClampNeg (defaultValue .byte)).pushCell _).setCell T.heap.size _).heap[q]? = _
    rw [State.heap_setCell_other (Nat.ne_of_gt hq), State.heap_pushCell_of_lt (h := show q < (x_g1 (T.setVm vm1) cA comp n.toNatClampNeg (defaultValue .byte)).heap.size by rw [h1]; omega)]
    show ((((T.setVm vm1).pushCell (x_o0 cA)).pushCell _).setCell T.heap.size _).heap[q]? = _
    rw [State.heap_setCell_other (Nat.ne_of_gt hq), State.heap_pushCell_of_lt (h := Nat.lt_trans hq hsz), State.heap_pushCell_of_lt (h := show q < (T.setVm vm1).heap.size from hq)]
    rfl
  have hsz2 : (x_g2 (T.setVm vm1) cA comp n.toNatClampNeg (defaultValue .byte)).heap.size = T.heap.size + 3 := by simp [x_g2, x_g1, State.setCell]
  have hge : s.heap.size ≤ T.heap.size := X.same.2.1
  have Xf : Stand p l e R s m args below meth c (x_g2 (T.setVm vm1) cA comp n.toNatClampNeg (defaultValue .byte)) locs (cells + 3) (slots + (2 + 2 * n.toNatClampNeg)) := by
    have Xe' := Stand.forget (extra := [⟨T.heap.size, 0⟩, ⟨T.heap.size, 1⟩]) (locs := locs) (by simpa [List.append_assoc] using Xe) (fun q hq => by
      simp only [List.mem_cons, List.not_mem_nil, or_false] at hq
      rcases hq with rfl | rfl <;> exact hge)
    have ec : cells + 1 + 1 + 1 = cells + 3 := by omega
    have es : slots + (x_o0 cA).slots.size + (x_in comp n.toNatClampNeg (defaultValue .byte)).slots.size + (x_in comp n.toNatClampNeg (defaultValue .byte)).slots.size = slots + (2 + 2 * n.toNatClampNeg) := by simp [x_o0, x_in]; omega
    rw [← ec, ← es]
    exact Xe'
  obtain ⟨t, a1, b1⟩ := kk T.heap.size _ (hP.kept (fun k x hx => by rw [hold x.1 (by rw [hT]; exact (hP k x hx).lt), hT])) ⟨by rw [hsz2]; omega, fun q h1 h2 => by rw [hold q (Nat.lt_of_lt_of_le h1 hge), hT]; exact hS.2.1 q h1 h2, hS.2.2⟩ _ rfl Xf
  refine ⟨t, ?_, b1⟩
  have hl1 : ¬ 2 > e.platform.arrayLengthLimit := by rw [Launch.admits_arrayLengthLimit X.admits]; omega
  have hh1 : ¬ 2 * componentBytes (.array .byte) > e.platform.maxHeapBytes := by
    rw [Launch.admits_maxHeapBytes X.admits]; show ¬ 2 * 4 > 536870912; omega
  have hl2 : ¬ n.toNatClampNeg > e.platform.arrayLengthLimit := by rw [Launch.admits_arrayLengthLimit X.admits]; omega
  have hh2 : ¬ n.toNatClampNeg * componentBytes .byte > e.platform.maxHeapBytes := by rw [Launch.admits_maxHeapBytes X.admits]; show ¬ n.toNatClampNeg * 1 > 536870912; omega
  jvm_step X.here [hexec, hb, hdg]
  simp only [multianewarray.sem, wp_bind', W.resolveClassAt_links (State.method?_setTop (F0 m pc ls (.int n :: .int 2 :: rest)) X.here.top) hg1]
  rw [W.popN, if_neg (by decide)]
  refine ⟨F0 m pc ls (.int n :: .int 2 :: rest), State.topJava?_setTop' (s := T.setVm vm1) _ X.here.top, [.int 2, .int n], rest, rfl, rfl, ?_⟩
  simp only [List.mapM_cons, List.mapM_nil, wp_bind', wp_pure']
  refine x_make2 (k := k1) (kc := k2) (comp := comp) (cc := c3) (t0 := .array .byte) (ty := .byte) hk1 (by rw [e1]; exact hkindA) (fun v hv => by cases v <;> first | rfl | cases hv) hk2 (by rw [e2]; exact hkindC) hn hl1 hh1 hl2 hh2 rfl (by show T.heap.size + 3 ≤ _; omega) (by show T.slotsUsed + _ ≤ _; omega) (fun d' acts' => ?_)
  have eS : ((T.setTop (F0 m pc ls (.int n :: .int 2 :: rest))).setVm vm1).setTop (F0 m pc ls rest) = (T.setVm vm1).setTop (F0 m pc ls rest) := by
    show ((T.setVm vm1).setTop (F0 m pc ls (.int n :: .int 2 :: rest))).setTop _ = _
    rw [State.setTop_setTop]
  rw [show ({ method := m, pc := pc, locals := ls, stack := rest, locked := none } : JFrame) = F0 m pc ls rest from rfl, eS, x_g2_top]
  simp only [wp_bind', W.mark, W.pushRef, State.topJava?_setTop' _ Xf.here.top, Option.some.injEq, exists_eq_left', State.setTop_setTop, State.heap_setTop]
  intro acts
  simp [jvm, Xf.here.top]
  exact a1
end XM2
