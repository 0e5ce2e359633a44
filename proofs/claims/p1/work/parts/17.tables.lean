/-! ===== methods with an exception table: their contracts, and calls of them ===== -/
theorem x_rows {l : List ExceptionTableEntry} {hh : List (Nat × Nat × Nat × Nat)} (h : l.map (fun h => (h.startPc, h.endPc, h.handlerPc, h.catchType)) = hh) : l = hh.map (fun q => ⟨q.1, q.2.1, q.2.2.1, q.2.2.2⟩) := by
  subst h
  induction l with
  | nil => rfl
  | cons a b ih => rw [List.map_cons, List.map_cons, ← ih]
section XG
variable {l : Launch}
theorem MetE.ofW {y : MethodName} {ws ws' : List Cond} {rm : Room} {Pc : Array Value → State → Prop} {Qc : Array Value → State → Outcome → State → Prop} {mc ms : Nat} {free : Addr → Prop} {cc : ByteArray} {maxL : Nat} {ret : Option FieldType} {hh : List (Nat × Nat × Nat × Nat)}
    (hy : plainName y.cls = true) (hw : ws = Cond.codeWith y cc maxL ret hh :: ws')
    (body : ∀ p e s m args below meth c s₁, BodyLoose p l y (headSpec ws rm) cc maxL ret e s m args below meth c s₁ → c.maxLocals = maxL → c.exceptionTable.toList = hh.map (fun q => ⟨q.1, q.2.1, q.2.2.1, q.2.2.2⟩) → Pc args s →
      W p l e (headSpec ws rm).room s m args below meth c s.heap [] 0 0 (MQ below Qc args s mc ms free) (entryFrame m args maxL)) : Met l y ws rm Pc Qc mc ms free := by
  refine va_MetW (hh := hh) hy hw (fun p e s m args below meth c s₁ B hml hP => body p e s m args below meth c s₁ B hml ?_ hP)
  obtain ⟨m9, meth9, c9, hn9, h1, h2, -, -, h3, -⟩ := Cond.codeWith_spec (atoms_spec (ws := ws) B.pre _ (by rw [hw]; exact List.mem_cons_self))
  cases B.named.symm.trans hn9
  cases B.method.symm.trans h1
  cases (Stand.of_body B).code.symm.trans h2
  exact x_rows h3
end XG
section XH
variable {p : Program} {l : Launch} {e : Env} {R : Room} {s : State} {m : MethodId} {args : Array Value} {below : List Frame} {meth : Method} {c : Code} {H : Heap} {locs : List Loc} {cells slots : Nat} {Q : State → Prop}
variable {pc : Nat} {ls : Array Slot} {rest st0 : List Value} {D : va_G} {A : Nat → Prop} {ws wc wr : va_W} {tys tc tr : List (ClassId × FieldType)} {mc ms : Nat}
variable {S : Type} {vf : S → Option Value} {w1 : S → va_W} {t1 : S → List (ClassId × FieldType)} {y : MethodName} {bytes cc : ByteArray} {maxL nL n index : Nat} {ret : Option FieldType} {hh : List (Nat × Nat × Nat × Nat)} {rm : Room} {own : String} {As : List Value}
theorem xc_SW (F : CallFix p m c cc nL s args bw own) (hM : Met l y (Cond.codeWith y bytes maxL ret hh :: bw) rm (va_Pc As (xP D tc H.size wc)) (xQ vf w1 t1 D (va_A wc H.size)) mc ms (va_A wc H.size)) (hrc : rm.cells = mc) (hrs : rm.slots = ms)
    (k1 : Cond.codeWith y bytes maxL ret hh ∈ bw) (k2 : Cond.methodLink own index y ∈ bw) (k3 : Cond.static y ∈ bw) (k5 : Cond.initialized y.cls ∈ bw) (hd : xMH y n) (hR : rm.frames + 1 ≤ R.frames ∧ 8 + (maxL + 11) + rm.locals ≤ R.locals)
    (hP : va_P D cls ws H) (hD : va_D A ws) (hK : va_K D cls tys s) (hS : va_S A s.heap H locs) (hA : ∀ q, s.heap.size ≤ q → A q) (hN : xN s) (hZ : xZ A s s.heap) (isC isR : List Nat) (hC : isC.map (fun i => ws[i]?) = wc.map some) (hR' : isR.map (fun i => ws[i]?) = wr.map some) (hnC : va_nd isC = true) (hnR : va_nd isR = true) (hdis : ∀ i ∈ isR, i ∉ isC) (ktC ktR : List Nat) (htC : ktC.filterMap (fun i => tys[i]?) = tc) (htR : ktR.filterMap (fun i => tys[i]?) = tr)
    (hn : As.length = n) (hsize : ls.size = nL) (hst : st0 = As.reverse ++ rest) (hW : (rest.map fun v => v.category).sum ≤ 8) (hdg : decode cc pc = .ok (.invokestatic index, 3)) (hf : cells + mc ≤ R.cells ∧ slots + ms ≤ R.slots)
    (kk : ∀ (u : S) (H1 : Heap) (locs1 : List Loc), va_P D cls (wr ++ w1 u) H1 → va_D A (wr ++ w1 u) → va_K D cls (tr ++ t1 u) s → va_S A s.heap H1 locs1 → W p l e R s m args below meth c H1 locs1 (cells + mc) (slots + ms) Q (F0 m (pc + 3) ls ((vf u).toList ++ rest))) : W p l e R s m args below meth c H locs cells slots Q (F0 m pc ls st0) := by
  subst hst
  obtain ⟨hx, hb, hml, hown, hts⟩ := F
  have hF := va_free (wc := wc) hD hS hA isC hC
  have hpre := xP.at (av := As) hP hD hK hS hN hZ hF isC hC hnC ktC htC
  have hB : Back l R p e below s args y 3 8 (PreOf R mc ms (va_Pc As (xP D tc H.size wc))) (PostOf (xQ vf w1 t1 D (va_A wc H.size)) mc ms (va_A wc H.size)) :=
    va_backW (bytes := bytes) (maxL := maxL) (ret := ret) (hh := hh) hM xP.blind hrc hrs hR.1 hR.2 (pay_in hts (xg k1)) List.mem_cons_self (fun a' U hW => word_at hW (Or.inl (by first | rfl | simp [Cond.onTables, Cond.keeps, Cond.steady])) (hts _ k5))
  refine xc_go (a := As.toArray) (rest := rest) (fun T hT X => ?_) hP hD hK hS hA isC isR hC hR' hnR hdis ktR htR kk
  obtain ⟨mk, methM, cM, hnamed, hmethM, -, -, -, -, -, -, hsigM⟩ := Cond.codeWith_spec (hts _ k1)
  have hstatic : methM.isStatic = true := Cond.static_spec hnamed hmethM (hts _ k3)
  obtain ⟨kP, hkP, -⟩ := className_of_methodNamed hnamed
  have hinitP : kP.init = .initialized := Cond.initialized_spec (findClass_of_methodNamed hnamed) hkP (hts _ k5)
  have hlen : As.length = methM.sig.parameters.length := by
    have h2 := hd.2.2
    rw [hsigM] at h2
    rw [hn]
    exact (Option.some.inj h2).symm
  obtain ⟨vm₁, X₁, hstep₁⟩ := X.invokestatic hx hown (hts _ k2) hnamed hmethM hstatic hkP hinitP ⟨hd.1, hd.2.1⟩ (g := F0 m pc ls (As.reverse ++ rest)) rfl (argsL := As) (rest := rest) hlen rfl (by rw [hb]; exact hdg)
  obtain ⟨v, ⟨U', l2, c2, s2⟩, X', ⟨g', mk', t, L, e1, e2, hq, h1, hL, h2, h3⟩, hsteps⟩ := hB m meth c ⟨T.setVm vm₁, locs, cells, slots⟩ (F0 m pc ls rest) (.invokestatic index) mk As.toArray X₁ rfl (hsize.trans hml.symm) (by rw [hb]; exact hdg) (lv_room hW) (X₁.named hnamed) ⟨hf.1, hf.2, hpre (T.setVm vm₁) hT X₁.warmed⟩
  dsimp only [Pt.U, Pt.locs, Pt.cells, Pt.slots] at X' e1 e2 h1 h2 h3 hsteps
  subst h1; subst h2; subst h3
  exact ⟨v, (T.setVm vm₁).calling g' mk' As.toArray, t, U', L, hT, X', hL, e1, e2, hq, fun target h => hstep₁ _ fun acts => by rw [doInvoke_state]; exact hsteps.trans h⟩
end XH
