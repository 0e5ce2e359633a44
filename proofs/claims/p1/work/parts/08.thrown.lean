theorem x_locs {D : va_G} {cl : List vw_C} {ws : va_W} {s : State} {H : Heap} {locs : List Loc} (hP : va_P D cl ws s.heap) (hS : va_S (va_A ws s.heap.size) s.heap H locs) : ∀ x ∈ locs, ∀ cell, s.heap[x.base]? = some cell → cell.vm.isStatics = false := by
  intro x hx cell hc
  rcases hS.2.2 x hx with ⟨k, e, hk⟩ | h
  · have h1 := hP k _ hk
    cases e with
    | inl a =>
      have h2 : s.heap[x.base]? = some (vp_cell a.1 a.2) := h1
      rw [hc] at h2
      cases h2
      obtain ⟨a1, a2, a3⟩ := a
      rcases a3 with f | f | f | f | f <;> rfl
    | inr o =>
      obtain ⟨r, -, cell', h2, -, h3, -⟩ := h1
      rw [hc] at h2
      cases h2
      rw [h3]
      rfl
  · have := (Array.getElem?_eq_some_iff.mp hc).1
    exact absurd h (by omega)
section XE
variable {p : Program} {l : Launch} {e : Env} {R : Room} {s : State} {m : MethodId} {args : Array Value} {below : List Frame} {meth : Method} {c : Code} {H : Heap} {locs : List Loc} {cells slots : Nat} {Q : State → Prop}
variable {pc : Nat} {ls : Array Slot} {rest st0 : List Value} {D : va_G} {A : Nat → Prop} {ws wc wr : va_W} {tys tc tr : List (ClassId × FieldType)} {mc ms : Nat}
variable {y : MethodName} {bytes cc : ByteArray} {maxL nL n index ci q0 : Nat} {ret : Option FieldType} {rm : Room} {own C : String} {b : Addr} {As : List Value} {q : vw_C} {fs : List Value}
/-- throw new X("..."): new, dup, ldc, invokespecial, athrow -/
theorem x_throw {X : String} {ixC ixS ixI : Nat} {tx : String} (hx : p.tables.exec = Jvm.exec) (hb : c.code = cc) (hml : c.maxLocals = nL) (hown : s.vm.findClass "ObjectForge" = some m.cls) (hts : ∀ w ∈ bw, w.before args s = true) (hN : xN s) (hZ : xZ A s s.heap) (htr : l.stackTraces = false)
    (hno : ∀ x ∈ c.exceptionTable.toList, ∀ k : Nat, covers x k = false) (hlocks : meth.locks = false) (hOwn : xOwn ixI X) (hfit : Bundle.fit X = true) (k1 : Cond.classLink "ObjectForge" ixC X ∈ bw) (k2 : Cond.instantiable X 6 ∈ bw) (k3 : Cond.initialized X ∈ bw) (k4 : (ixS, tx) ∈ xnS)
    (hS : va_S A s.heap H locs) (hlocs : ∀ x ∈ locs, ∀ cell, s.heap[x.base]? = some cell → cell.vm.isStatics = false) (hsize : ls.size = nL) (hcells : cells + 1 ≤ R.cells) (hslots : slots + 6 ≤ R.slots) (hfr : 6 ≤ R.frames) (hlo : 100 ≤ R.locals)
    (d0 : decode cc pc = .ok (.new ixC, 3)) (d3 : decode cc (pc + 3) = .ok (.dup, 1)) (d4 : decode cc (pc + 4) = .ok (.ldc ixS, 2)) (d6 : decode cc (pc + 6) = .ok (.invokespecial ixI, 3)) (d9 : decode cc (pc + 9) = .ok (.athrow, 1)) :
    W p l e R s m args below meth c H locs cells slots (MQT below (xQT X A) args s (cells + 1) (slots + 6) A) (F0 m pc ls []) := by
  obtain ⟨qs, hq⟩ := hN.2.2.1 _ k4
  have hge : s.heap.size ≤ H.size := hS.1
  refine W.newc hx hb hown (hts _ k1) (hts _ k2) (hts _ k3) rfl d0 hcells hslots (fun cC kC hfc hkC hkind hsz => ?_)
  refine W.eq (g2 := F0 m (pc + 3) ls [.ref H.size]) rfl ?_
  refine lv_dup hx hb d3 rfl ?_
  refine va_ldcS hx hb hown hq d4 ?_
  intro T hT X0
  have htr' : e.platform.stackTraces = false := by rw [X0.admits.platform]; exact htr
  obtain ⟨U, h1, h2, h3, h4, h5, ce, h6, h7⟩ := X0.ctorThrowS hx htr' (own := "ObjectForge") (cls := X) (names := xUp) (ic := ixI) hown hfit (by decide) (hOwn.use hts hN hZ) hlocs (a := H.size) (cX := cC) (kX := kC) hfc hkC
    (by rw [hT]; simp [freshCell]) hge (msg := .ref qs) rfl (g := F0 m (pc + 6) ls [.ref qs, .ref H.size, .ref H.size]) rfl (hsize.trans hml.symm) rfl rfl (rest := []) rfl (by rw [hb]; exact d6) (by rw [hb]; exact d9) (fun x hx' => hno x hx' _) (by show 2 + 3 < R.frames; omega) (by show 2 * 0 + 1 + (13 * 3 + 42) ≤ R.locals; omega) hlocks
  refine ⟨U, h1, H.size, h2, h3, ⟨⟨hge, ce, h6, by rw [h7.vm]; rfl, ?_⟩, ?_⟩, locs, ⟨h4, h5⟩, hS.2.2⟩
  · rw [h4.alike.findClass]; exact h7.cls
  · refine ⟨h5.2.1, fun q hq1 hq2 => ?_⟩
    have hkeep : ∀ cell, s.heap[q]? = some cell → U.heap[q]? = some cell := fun cell hcell => by
      obtain ⟨cell', hc', he, hsz', hk⟩ := h5.2.2.2.2.2 q cell hcell
      have hc'' : U.heap[q]? = some cell' := hc'
      have hs : cell'.slots = cell.slots := Array.ext_getElem? (fun i => hk i (fun hmem => hq2 (hS.2.2 _ hmem)))
      rw [hc'', he, hs]
    cases hcell : s.heap[q]? with
    | none => exact absurd (Array.getElem?_eq_none_iff.mp hcell) (by omega)
    | some cell => exact hkeep cell hcell
/-- invokevirtual of a method that throws -/
theorem xt_V {X : String} (F : CallFix p m c cc nL s args bw own) (hM : MetT l y (Cond.code y bytes maxL ret :: bw) rm (va_Pc (.ref b :: As) (xP D tc H.size wc)) (xQT X (va_A wc H.size)) mc ms (va_A wc H.size)) (hrc : rm.cells = mc) (hrs : rm.slots = ms)
    (k1 : Cond.code y bytes maxL ret ∈ bw) (k2 : Cond.methodLink own index y ∈ bw) (k3 : Cond.instanceMethod y ∈ bw) (k4 : Cond.selects y.cls y y ∈ bw) (k5 : Cond.initialized y.cls ∈ bw) (hd : xMH y n) (hR : rm.frames + 1 ≤ R.frames ∧ 8 + (maxL + 11) + rm.locals ≤ R.locals)
    (hP : va_P D cls ws H) (hD : va_D A ws) (hK : va_K D cls tys s) (hS : va_S A s.heap H locs) (hA : ∀ q, s.heap.size ≤ q → A q) (hN : xN s) (hZ : xZ A s s.heap) (isC isR : List Nat) (hC : isC.map (fun i => ws[i]?) = wc.map some) (hR' : isR.map (fun i => ws[i]?) = wr.map some) (hnC : va_nd isC = true) (hnR : va_nd isR = true) (hdis : ∀ i ∈ isR, i ∉ isC) (ktC : List Nat) (htC : ktC.filterMap (fun i => tys[i]?) = tc)
    (hc : cls[ci]? = some q) (hq : q.1 = y.cls) (he : wc[q0]? = some (b, .inr (ci, fs)))
    (hn : As.length = n) (hsize : ls.size = nL) (hst : st0 = As.reverse ++ .ref b :: rest) (hW : (rest.map fun v => v.category).sum ≤ 8) (hdg : decode cc pc = .ok (.invokevirtual index, 3)) (hf : cells + mc ≤ R.cells ∧ slots + ms ≤ R.slots)
    (kk : ∀ (x : Addr) (H1 : Heap) (locs1 : List Loc), s.heap.size ≤ x → (∃ cell : Cell, H1[x]? = some cell ∧ cell.vm.isStatics = false ∧ s.vm.findClass X = some cell.cls) → va_P D cls wr H1 → va_D A wr → va_S A s.heap H1 locs1 → WT p l e R s m args below meth c H1 locs1 (cells + mc) (slots + ms) Q (F0 m pc ls rest) x) : W p l e R s m args below meth c H locs cells slots Q (F0 m pc ls st0) := by
  subst hst
  obtain ⟨hx, hb, hml, hown, hts⟩ := F
  have hF := va_free (wc := wc) hD hS hA isC hC
  have hpre := xP.at (av := .ref b :: As) hP hD hK hS hN hZ hF isC hC hnC ktC htC
  have hPc : va_P D cls wc H := by
    intro k x hk
    have h1 : (isC.map (fun i => ws[i]?))[k]? = some (some x) := by rw [hC, List.getElem?_map, hk]; rfl
    rw [List.getElem?_map] at h1
    cases hi : isC[k]? with
    | none => rw [hi] at h1; cases h1
    | some i => rw [hi] at h1; exact hP i x (Option.some.inj h1)
  obtain ⟨cellB, hcB, hoB, hclB⟩ := hq ▸ va_recv hK hPc hc he
  intro T hT X0
  obtain ⟨mk, methM, hnamed, hmethM, hstM, habM⟩ := Cond.instanceMethod_spec (hts _ k3)
  obtain ⟨methM', cM, hmethM', -, -, -, -, -, -, hsigM⟩ := Cond.code_spec hnamed (hts _ k1)
  cases hmethM.symm.trans hmethM'
  obtain ⟨c2, r2, m2, q1, q2, q3, q4, kP, hkP, hkPi⟩ := Cond.selects_spec (hts _ k4)
  cases hclB.symm.trans q1
  cases (State.methodFound?_of_named hnamed ⟨hd.1, hd.2.1⟩).symm.trans q2
  cases hnamed.symm.trans q3
  have hselP : selectMethod e.platform s.vm cellB.cls mk = .method mk := by rw [Launch.admits_selectMethod X0.admits]; exact q4
  have hlen : As.length = methM.sig.parameters.length := by
    have h2 := hd.2.2
    rw [hsigM] at h2
    rw [hn]
    exact (Option.some.inj h2).symm
  obtain ⟨vm₁, X₁, hstep₁⟩ := X0.invokevirtual hx hown (hts _ k2) hnamed hmethM hstM hkP hkPi ⟨hd.1, hd.2.1⟩ (a := b) (cell := cellB) (by rw [hT]; exact hcB)
    (fun z h => by rw [h] at hoB; cases hoB) hselP hmethM habM hkP hkPi (g := F0 m pc ls (As.reverse ++ .ref b :: rest)) rfl (argsL := As) (rest := rest) hlen rfl (by rw [hb]; exact hdg)
  obtain ⟨x, T', t, L, X', hL, e1, e2, ⟨⟨hxn, cell, hcx, hcs, hcc⟩, hz, hk⟩, hsteps⟩ := hM.at (T := T.setVm vm₁) (g := F0 m pc ls rest) (mk := mk) (a := (Value.ref b :: As).toArray) (Wd := 8) (bytes := bytes) (maxL := maxL) (ret := ret) xP.blind hrc hrs hR.1 hR.2 (pay_in hts (xg k1)) List.mem_cons_self
    (fun a' U hW => word_at hW (Or.inl (by first | rfl | simp [Cond.onTables, Cond.keeps, Cond.steady])) (hts _ k5)) X₁ rfl (hsize.trans hml.symm) (by rw [hb]; exact hdg) (lv_room hW) (X₁.named hnamed) hf.1 hf.2 (hpre (T.setVm vm₁) hT X₁.warmed)
  have hz : H.size ≤ t.heap.size := by rw [← hT]; exact hz
  have hk : ∀ q : Nat, q < H.size → ¬ va_A wc H.size q → t.heap[q]? = H[q]? := fun q h1 h2 => by rw [← hT]; exact hk q (by rw [← hT] at h1; exact h1) h2
  obtain ⟨hP2, hD2⟩ := va_join (wr := wr) (w1 := []) hP hD isC isR hC hR' hnR hdis hk hF (fun k x h => by simp at h) ⟨fun i j p q h => by simp at h, fun k q h => by simp at h⟩
  rw [List.append_nil] at hP2 hD2
  have hxH : H.size ≤ x := by rw [← hT]; exact hxn
  obtain ⟨t2, a1, b1⟩ := kk x t.heap (locs ++ L) (Nat.le_trans hS.1 hxH) ⟨cell, hcx, hcs, by rw [← hcc, ← e2, X'.warmed.alike.findClass]⟩ hP2 hD2 ⟨Nat.le_trans hS.1 hz, fun q h1 h2 => by rw [hk q (Nat.lt_of_lt_of_le h1 hS.1) (fun z => h2 (hF q z))]; exact hS.2.1 q h1 h2, fun q hq => by
    rcases List.mem_append.mp hq with h | h
    · exact hS.2.2 q h
    · exact hF _ (hL q h)⟩ T' e1 X'
  exact ⟨t2, hstep₁ _ (fun acts => by rw [doInvoke_state]; exact hsteps.trans a1), b1⟩
/-- invokestatic of a method that throws -/
theorem xt_S {X : String} (F : CallFix p m c cc nL s args bw own) (hM : MetT l y (Cond.code y bytes maxL ret :: bw) rm (va_Pc As (xP D tc H.size wc)) (xQT X (va_A wc H.size)) mc ms (va_A wc H.size)) (hrc : rm.cells = mc) (hrs : rm.slots = ms)
    (k1 : Cond.code y bytes maxL ret ∈ bw) (k2 : Cond.methodLink own index y ∈ bw) (k3 : Cond.static y ∈ bw) (k5 : Cond.initialized y.cls ∈ bw) (hd : xMH y n) (hR : rm.frames + 1 ≤ R.frames ∧ 8 + (maxL + 11) + rm.locals ≤ R.locals)
    (hP : va_P D cls ws H) (hD : va_D A ws) (hK : va_K D cls tys s) (hS : va_S A s.heap H locs) (hA : ∀ q, s.heap.size ≤ q → A q) (hN : xN s) (hZ : xZ A s s.heap) (isC isR : List Nat) (hC : isC.map (fun i => ws[i]?) = wc.map some) (hR' : isR.map (fun i => ws[i]?) = wr.map some) (hnC : va_nd isC = true) (hnR : va_nd isR = true) (hdis : ∀ i ∈ isR, i ∉ isC) (ktC : List Nat) (htC : ktC.filterMap (fun i => tys[i]?) = tc)
    (hn : As.length = n) (hsize : ls.size = nL) (hst : st0 = As.reverse ++ rest) (hW : (rest.map fun v => v.category).sum ≤ 8) (hdg : decode cc pc = .ok (.invokestatic index, 3)) (hf : cells + mc ≤ R.cells ∧ slots + ms ≤ R.slots)
    (kk : ∀ (x : Addr) (H1 : Heap) (locs1 : List Loc), s.heap.size ≤ x → (∃ cell : Cell, H1[x]? = some cell ∧ cell.vm.isStatics = false ∧ s.vm.findClass X = some cell.cls) → va_P D cls wr H1 → va_D A wr → va_S A s.heap H1 locs1 → WT p l e R s m args below meth c H1 locs1 (cells + mc) (slots + ms) Q (F0 m pc ls rest) x) : W p l e R s m args below meth c H locs cells slots Q (F0 m pc ls st0) := by
  subst hst
  obtain ⟨hx, hb, hml, hown, hts⟩ := F
  have hF := va_free (wc := wc) hD hS hA isC hC
  have hpre := xP.at (av := As) hP hD hK hS hN hZ hF isC hC hnC ktC htC
  intro T hT X0
  obtain ⟨mk, hnamed⟩ := Cond.code_named (hts _ k1)
  obtain ⟨methM, cM, hmethM, -, -, -, -, -, -, hsigM⟩ := Cond.code_spec hnamed (hts _ k1)
  have hstatic : methM.isStatic = true := Cond.static_spec hnamed hmethM (hts _ k3)
  obtain ⟨kP, hkP, -⟩ := className_of_methodNamed hnamed
  have hinitP : kP.init = .initialized := Cond.initialized_spec (findClass_of_methodNamed hnamed) hkP (hts _ k5)
  have hlen : As.length = methM.sig.parameters.length := by
    have h2 := hd.2.2
    rw [hsigM] at h2
    rw [hn]
    exact (Option.some.inj h2).symm
  obtain ⟨vm₁, X₁, hstep₁⟩ := X0.invokestatic hx hown (hts _ k2) hnamed hmethM hstatic hkP hinitP ⟨hd.1, hd.2.1⟩ (g := F0 m pc ls (As.reverse ++ rest)) rfl (argsL := As) (rest := rest) hlen rfl (by rw [hb]; exact hdg)
  obtain ⟨x, T', t, L, X', hL, e1, e2, ⟨⟨hxn, cell, hcx, hcs, hcc⟩, hz, hk⟩, hsteps⟩ := hM.at (T := T.setVm vm₁) (g := F0 m pc ls rest) (mk := mk) (a := As.toArray) (Wd := 8) (bytes := bytes) (maxL := maxL) (ret := ret) xP.blind hrc hrs hR.1 hR.2 (pay_in hts (xg k1)) List.mem_cons_self
    (fun a' U hW => word_at hW (Or.inl (by first | rfl | simp [Cond.onTables, Cond.keeps, Cond.steady])) (hts _ k5)) X₁ rfl (hsize.trans hml.symm) (by rw [hb]; exact hdg) (lv_room hW) (X₁.named hnamed) hf.1 hf.2 (hpre (T.setVm vm₁) hT X₁.warmed)
  have hz : H.size ≤ t.heap.size := by rw [← hT]; exact hz
  have hk : ∀ q : Nat, q < H.size → ¬ va_A wc H.size q → t.heap[q]? = H[q]? := fun q h1 h2 => by rw [← hT]; exact hk q (by rw [← hT] at h1; exact h1) h2
  obtain ⟨hP2, hD2⟩ := va_join (wr := wr) (w1 := []) hP hD isC isR hC hR' hnR hdis hk hF (fun k x h => by simp at h) ⟨fun i j p q h => by simp at h, fun k q h => by simp at h⟩
  rw [List.append_nil] at hP2 hD2
  have hxH : H.size ≤ x := by rw [← hT]; exact hxn
  obtain ⟨t2, a1, b1⟩ := kk x t.heap (locs ++ L) (Nat.le_trans hS.1 hxH) ⟨cell, hcx, hcs, by rw [← hcc, ← e2, X'.warmed.alike.findClass]⟩ hP2 hD2 ⟨Nat.le_trans hS.1 hz, fun q h1 h2 => by rw [hk q (Nat.lt_of_lt_of_le h1 hS.1) (fun z => h2 (hF q z))]; exact hS.2.1 q h1 h2, fun q hq => by
    rcases List.mem_append.mp hq with h | h
    · exact hS.2.2 q h
    · exact hF _ (hL q h)⟩ T' e1 X'
  exact ⟨t2, hstep₁ _ (fun acts => by rw [doInvoke_state]; exact hsteps.trans a1), b1⟩
end XE
