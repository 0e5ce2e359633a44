/-! ===== calls, ends and throws over the common words ===== -/
/-- the end of a method that throws an X, a new one -/
def xQT (X : String) (A : Nat → Prop) : Array Value → State → Addr → State → Prop := fun _ st x t => (st.heap.size ≤ x ∧ ∃ cell : Cell, t.heap[x]? = some cell ∧ cell.vm.isStatics = false ∧ t.vm.findClass X = some cell.cls) ∧ va_F A st t
abbrev xMH (y : MethodName) (n : Nat) : Prop := y.cls ≠ "java/lang/invoke/MethodHandle" ∧ y.cls ≠ "java/lang/invoke/VarHandle" ∧ (parseMethodDescriptor y.desc).map (fun d => d.parameters.length) = some n
section XD
variable {p : Program} {l : Launch} {e : Env} {R : Room} {s : State} {m : MethodId} {args : Array Value} {below : List Frame} {meth : Method} {c : Code} {H : Heap} {locs : List Loc} {cells slots : Nat} {Q : State → Prop}
variable {pc : Nat} {ls : Array Slot} {rest st0 : List Value} {D : va_G} {A : Nat → Prop} {ws wc wr : va_W} {tys tc tr : List (ClassId × FieldType)} {mc ms : Nat}
variable {S : Type} {vf : S → Option Value} {w1 : S → va_W} {t1 : S → List (ClassId × FieldType)} {y : MethodName} {bytes cc : ByteArray} {maxL nL n index ci q0 : Nat} {ret : Option FieldType} {rm : Room} {own C : String} {b : Addr} {As : List Value} {q : vw_C} {fs : List Value}
theorem xc_V (F : CallFix p m c cc nL s args bw own) (hM : Met l y (Cond.code y bytes maxL ret :: bw) rm (va_Pc (.ref b :: As) (xP D tc H.size wc)) (xQ vf w1 t1 D (va_A wc H.size)) mc ms (va_A wc H.size)) (hrc : rm.cells = mc) (hrs : rm.slots = ms)
    (k1 : Cond.code y bytes maxL ret ∈ bw) (k2 : Cond.methodLink own index y ∈ bw) (k3 : Cond.instanceMethod y ∈ bw) (k4 : Cond.selects y.cls y y ∈ bw) (k5 : Cond.initialized y.cls ∈ bw) (hd : xMH y n) (hR : rm.frames + 1 ≤ R.frames ∧ 8 + (maxL + 11) + rm.locals ≤ R.locals)
    (hP : va_P D cls ws H) (hD : va_D A ws) (hK : va_K D cls tys s) (hS : va_S A s.heap H locs) (hA : ∀ q, s.heap.size ≤ q → A q) (hN : xN s) (hZ : xZ A s s.heap) (isC isR : List Nat) (hC : isC.map (fun i => ws[i]?) = wc.map some) (hR' : isR.map (fun i => ws[i]?) = wr.map some) (hnC : va_nd isC = true) (hnR : va_nd isR = true) (hdis : ∀ i ∈ isR, i ∉ isC) (ktC ktR : List Nat) (htC : ktC.filterMap (fun i => tys[i]?) = tc) (htR : ktR.filterMap (fun i => tys[i]?) = tr)
    (hc : cls[ci]? = some q) (hq : q.1 = y.cls) (he : wc[q0]? = some (b, .inr (ci, fs)))
    (hn : As.length = n) (hsize : ls.size = nL) (hst : st0 = As.reverse ++ .ref b :: rest) (hW : (rest.map fun v => v.category).sum ≤ 8) (hdg : decode cc pc = .ok (.invokevirtual index, 3)) (hf : cells + mc ≤ R.cells ∧ slots + ms ≤ R.slots)
    (kk : ∀ (u : S) (H1 : Heap) (locs1 : List Loc), va_P D cls (wr ++ w1 u) H1 → va_D A (wr ++ w1 u) → va_K D cls (tr ++ t1 u) s → va_S A s.heap H1 locs1 → W p l e R s m args below meth c H1 locs1 (cells + mc) (slots + ms) Q (F0 m (pc + 3) ls ((vf u).toList ++ rest))) : W p l e R s m args below meth c H locs cells slots Q (F0 m pc ls st0) := by
  subst hst
  obtain ⟨hx, hb, hml, hown, hts⟩ := F
  have hF := va_free (wc := wc) hD hS hA isC hC
  have hpre := xP.at (av := .ref b :: As) hP hD hK hS hN hZ hF isC hC hnC ktC htC
  have hPc : va_P D cls wc H := by
    intro k x hk
    have h1 : (isC.map (fun i => ws[i]?))[k]? = some (some x) := by rw [hC, List.getElem?_map, hk]; rfl
    rw [List.getElem?_map] at h1
    cases hi : isC[k]? with
    | none => rw [hi] at h1; cases h1
    | some i => rw [hi] at h1; exact hP i x (Option.some.inj h1)
  have cw : CallW R s args own y.cls index y bytes maxL ret (Cond.code y bytes maxL ret :: bw) rm mc ms n :=
    ⟨callB_of n hts (xg k1) rfl hrc hrs (hts _ k5) (hts _ k2) hd hR, hts _ k3, hts _ k4⟩
  exact xc_go (va_runV (C := y.cls) (As := As) (rest := rest) ⟨hx, hb, hml, hown, hts⟩ hM cw ⟨xP.blind, hq ▸ va_recv hK hPc hc he, hpre⟩ rfl hn hsize rfl (lv_room hW) hdg hf) hP hD hK hS hA isC isR hC hR' hnR hdis ktR htR kk
theorem xc_S (F : CallFix p m c cc nL s args bw own) (hM : Met l y (Cond.code y bytes maxL ret :: bw) rm (va_Pc As (xP D tc H.size wc)) (xQ vf w1 t1 D (va_A wc H.size)) mc ms (va_A wc H.size)) (hrc : rm.cells = mc) (hrs : rm.slots = ms)
    (k1 : Cond.code y bytes maxL ret ∈ bw) (k2 : Cond.methodLink own index y ∈ bw) (k3 : Cond.static y ∈ bw) (k5 : Cond.initialized y.cls ∈ bw) (hd : xMH y n) (hR : rm.frames + 1 ≤ R.frames ∧ 8 + (maxL + 11) + rm.locals ≤ R.locals)
    (hP : va_P D cls ws H) (hD : va_D A ws) (hK : va_K D cls tys s) (hS : va_S A s.heap H locs) (hA : ∀ q, s.heap.size ≤ q → A q) (hN : xN s) (hZ : xZ A s s.heap) (isC isR : List Nat) (hC : isC.map (fun i => ws[i]?) = wc.map some) (hR' : isR.map (fun i => ws[i]?) = wr.map some) (hnC : va_nd isC = true) (hnR : va_nd isR = true) (hdis : ∀ i ∈ isR, i ∉ isC) (ktC ktR : List Nat) (htC : ktC.filterMap (fun i => tys[i]?) = tc) (htR : ktR.filterMap (fun i => tys[i]?) = tr)
    (hn : As.length = n) (hsize : ls.size = nL) (hst : st0 = As.reverse ++ rest) (hW : (rest.map fun v => v.category).sum ≤ 8) (hdg : decode cc pc = .ok (.invokestatic index, 3)) (hf : cells + mc ≤ R.cells ∧ slots + ms ≤ R.slots)
    (kk : ∀ (u : S) (H1 : Heap) (locs1 : List Loc), va_P D cls (wr ++ w1 u) H1 → va_D A (wr ++ w1 u) → va_K D cls (tr ++ t1 u) s → va_S A s.heap H1 locs1 → W p l e R s m args below meth c H1 locs1 (cells + mc) (slots + ms) Q (F0 m (pc + 3) ls ((vf u).toList ++ rest))) : W p l e R s m args below meth c H locs cells slots Q (F0 m pc ls st0) := by
  subst hst
  obtain ⟨hx, hb, hml, hown, hts⟩ := F
  have hF := va_free (wc := wc) hD hS hA isC hC
  have hpre := xP.at (av := As) hP hD hK hS hN hZ hF isC hC hnC ktC htC
  exact xc_go (va_runS (As := As) (rest := rest) ⟨hx, hb, hml, hown, hts⟩ hM ⟨callB_of n hts (xg k1) rfl hrc hrs (hts _ k5) (hts _ k2) hd hR, hts _ k3⟩ ⟨xP.blind, hpre⟩ rfl hn hsize rfl (lv_room hW) hdg hf) hP hD hK hS hA isC isR hC hR' hnR hdis ktR htR kk
theorem xc_I (F : CallFix p m c cc nL s args bw own) (hM : Met l y (Cond.code y bytes maxL none :: bw) rm (va_Pc (.ref b :: As) (xP D tc H.size wc)) (xQ vf w1 t1 D (va_A wc H.size)) mc ms (va_A wc H.size)) (hrc : rm.cells = mc) (hrs : rm.slots = ms) (hy : y.name = "<init>")
    (k1 : Cond.code y bytes maxL none ∈ bw) (k2 : Cond.methodLink own index y ∈ bw) (k3 : Cond.instanceMethod y ∈ bw) (k5 : Cond.initialized y.cls ∈ bw) (hd : xMH y n) (hR : rm.frames + 1 ≤ R.frames ∧ 8 + (maxL + 11) + rm.locals ≤ R.locals)
    (hP : va_P D cls ws H) (hD : va_D A ws) (hK : va_K D cls tys s) (hS : va_S A s.heap H locs) (hA : ∀ q, s.heap.size ≤ q → A q) (hN : xN s) (hZ : xZ A s s.heap) (isC isR : List Nat) (hC : isC.map (fun i => ws[i]?) = wc.map some) (hR' : isR.map (fun i => ws[i]?) = wr.map some) (hnC : va_nd isC = true) (hnR : va_nd isR = true) (hdis : ∀ i ∈ isR, i ∉ isC) (ktC ktR : List Nat) (htC : ktC.filterMap (fun i => tys[i]?) = tc) (htR : ktR.filterMap (fun i => tys[i]?) = tr)
    (hn : As.length = n) (hsize : ls.size = nL) (hst : st0 = As.reverse ++ .ref b :: rest) (hW : (rest.map fun v => v.category).sum ≤ 8) (hdg : decode cc pc = .ok (.invokespecial index, 3)) (hf : cells + mc ≤ R.cells ∧ slots + ms ≤ R.slots)
    (kk : ∀ (u : S) (H1 : Heap) (locs1 : List Loc), va_P D cls (wr ++ w1 u) H1 → va_D A (wr ++ w1 u) → va_K D cls (tr ++ t1 u) s → va_S A s.heap H1 locs1 → W p l e R s m args below meth c H1 locs1 (cells + mc) (slots + ms) Q (F0 m (pc + 3) ls ((vf u).toList ++ rest))) : W p l e R s m args below meth c H locs cells slots Q (F0 m pc ls st0) := by
  subst hst
  obtain ⟨hx, hb, hml, hown, hts⟩ := F
  have hF := va_free (wc := wc) hD hS hA isC hC
  have hpre := xP.at (av := .ref b :: As) hP hD hK hS hN hZ hF isC hC hnC ktC htC
  exact xc_go (va_runI (As := As) (rest := rest) ⟨hx, hb, hml, hown, hts⟩ hM ⟨callB_of n hts (xg k1) rfl hrc hrs (hts _ k5) (hts _ k2) hd hR, hy, hts _ k3⟩ ⟨xP.blind, hpre⟩ rfl hn hsize rfl (lv_room hW) hdg hf) hP hD hK hS hA isC isR hC hR' hnR hdis ktR htR kk
theorem xc_IN (F : CallFix p m c cc nL s args bw own) (hM : Met l y (Cond.code y bytes maxL none :: bw) rm (va_Pc (.ref b :: As) (xP D tc H.size wc)) (xQ vf w1 t1 D (va_A wc H.size)) mc ms (va_A wc H.size)) (hrc : rm.cells = mc) (hrs : rm.slots = ms) (hy : y.name = "<init>")
    (k1 : Cond.code y bytes maxL none ∈ bw) (k2 : (own, index, y) ∈ xnM) (k3 : Cond.instanceMethod y ∈ bw) (k5 : Cond.initialized y.cls ∈ bw) (hd : xMH y n) (hR : rm.frames + 1 ≤ R.frames ∧ 8 + (maxL + 11) + rm.locals ≤ R.locals)
    (hP : va_P D cls ws H) (hD : va_D A ws) (hK : va_K D cls tys s) (hS : va_S A s.heap H locs) (hA : ∀ q, s.heap.size ≤ q → A q) (hN : xN s) (hZ : xZ A s s.heap) (isC isR : List Nat) (hC : isC.map (fun i => ws[i]?) = wc.map some) (hR' : isR.map (fun i => ws[i]?) = wr.map some) (hnC : va_nd isC = true) (hnR : va_nd isR = true) (hdis : ∀ i ∈ isR, i ∉ isC) (ktC ktR : List Nat) (htC : ktC.filterMap (fun i => tys[i]?) = tc) (htR : ktR.filterMap (fun i => tys[i]?) = tr)
    (hn : As.length = n) (hsize : ls.size = nL) (hst : st0 = As.reverse ++ .ref b :: rest) (hW : (rest.map fun v => v.category).sum ≤ 8) (hdg : decode cc pc = .ok (.invokespecial index, 3)) (hf : cells + mc ≤ R.cells ∧ slots + ms ≤ R.slots)
    (kk : ∀ (u : S) (H1 : Heap) (locs1 : List Loc), va_P D cls (wr ++ w1 u) H1 → va_D A (wr ++ w1 u) → va_K D cls (tr ++ t1 u) s → va_S A s.heap H1 locs1 → W p l e R s m args below meth c H1 locs1 (cells + mc) (slots + ms) Q (F0 m (pc + 3) ls ((vf u).toList ++ rest))) : W p l e R s m args below meth c H locs cells slots Q (F0 m pc ls st0) := by
  subst hst
  obtain ⟨hx, hb, hml, hown, hts⟩ := F
  have hF := va_free (wc := wc) hD hS hA isC hC
  have hpre := xP.at (av := .ref b :: As) hP hD hK hS hN hZ hF isC hC hnC ktC htC
  exact xc_go (va_runIN (host := "ObjectForge") (As := As) (rest := rest) ⟨hx, hb, hml, hown, hts⟩ hM ⟨va_cnB n hts (xg k1) rfl hrc hrs (hN.2.1 _ k2) (hts _ k5) hd hR, hy, hts _ k3⟩ ⟨xP.blind, hpre⟩ rfl hn hsize rfl (lv_room hW) hdg hf) hP hD hK hS hA isC isR hC hR' hnR hdis ktR htR kk
/-- the ends -/
theorem xr_i {v : Int32} (hx : p.tables.exec = Jvm.exec) (hb : c.code = cc) (hr : meth.sig.returnType = some .int) (hlocks : meth.locks = false) (hP : va_P D cls ws H) (hD : va_D A ws) (hK : va_K D cls tys s) (hS : va_S A s.heap H locs) (u : S) (isC : List Nat) (hC : isC.map (fun i => ws[i]?) = (w1 u).map some) (hC' : isC.filterMap (fun i => ws[i]?) = w1 u) (hnC : va_nd isC = true) (ktC : List Nat) (htC : ktC.filterMap (fun i => tys[i]?) = t1 u) (hv : vf u = some (.int v)) (hdg : decode cc pc = .ok (.ireturn, 1)) :
    W p l e R s m args below meth c H locs cells slots (MQ below (xQ vf w1 t1 D A) args s cells slots A) (F0 m pc ls [.int v]) :=
  W.iret (v := v) hx hb hr (fun t ht hW => ⟨⟨u, by rw [hv], by rw [ht]; exact hP.sub isC hC', va_K.moved hW.alike (hK.sub ktC htC), hD.sub isC hnC hC⟩, hS.F ht⟩) hS.2.2 hdg hlocks
theorem xr_z {v : Int32} {ty : FieldType} (hx : p.tables.exec = Jvm.exec) (hb : c.code = cc) (hr : meth.sig.returnType = some ty) (hnar : narrow ty (.int v) = .int v) (hlocks : meth.locks = false) (hP : va_P D cls ws H) (hD : va_D A ws) (hK : va_K D cls tys s) (hS : va_S A s.heap H locs) (u : S) (isC : List Nat) (hC : isC.map (fun i => ws[i]?) = (w1 u).map some) (hC' : isC.filterMap (fun i => ws[i]?) = w1 u) (hnC : va_nd isC = true) (ktC : List Nat) (htC : ktC.filterMap (fun i => tys[i]?) = t1 u) (hv : vf u = some (.int v)) (hdg : decode cc pc = .ok (.ireturn, 1)) :
    W p l e R s m args below meth c H locs cells slots (MQ below (xQ vf w1 t1 D A) args s cells slots A) (F0 m pc ls [.int v]) :=
  W.zret (v := v) hx hb hr hnar (fun t ht hW => ⟨⟨u, by rw [hv], by rw [ht]; exact hP.sub isC hC', va_K.moved hW.alike (hK.sub ktC htC), hD.sub isC hnC hC⟩, hS.F ht⟩) hS.2.2 hdg
theorem xr_v (hx : p.tables.exec = Jvm.exec) (hb : c.code = cc) (hr : meth.sig.returnType = none) (hlocks : meth.locks = false) (hP : va_P D cls ws H) (hD : va_D A ws) (hK : va_K D cls tys s) (hS : va_S A s.heap H locs) (u : S) (isC : List Nat) (hC : isC.map (fun i => ws[i]?) = (w1 u).map some) (hC' : isC.filterMap (fun i => ws[i]?) = w1 u) (hnC : va_nd isC = true) (ktC : List Nat) (htC : ktC.filterMap (fun i => tys[i]?) = t1 u) (hv : vf u = none) (hdg : decode cc pc = .ok (.return_, 1)) :
    W p l e R s m args below meth c H locs cells slots (MQ below (xQ vf w1 t1 D A) args s cells slots A) (F0 m pc ls []) :=
  W.vret hx hb hr (fun t ht hW => ⟨⟨u, by rw [hv], by rw [ht]; exact hP.sub isC hC', va_K.moved hW.alike (hK.sub ktC htC), hD.sub isC hnC hC⟩, hS.F ht⟩) hS.2.2 hdg
end XD
