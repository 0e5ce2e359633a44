/-! ===== what stands in every start of a contract beside its world: links, strings and statics ===== -/
def xnF : List Cond := [.castable "java/lang/IllegalStateException" "java/lang/IllegalStateException", .castable "java/lang/IllegalArgumentException" "java/lang/IllegalArgumentException", .castable "java/lang/IndexOutOfBoundsException" "java/lang/IndexOutOfBoundsException", .declares ⟨"java/lang/RuntimeException", "<init>", "(Ljava/lang/String;)V"⟩, .declares ⟨"java/lang/Exception", "<init>", "(Ljava/lang/String;)V"⟩, .declares ⟨"java/lang/Throwable", "<init>", "(Ljava/lang/String;)V"⟩]
def xnM : List (String × Nat × MethodName) := [("ObjectForge", 9, y_As_init), ("ObjectForge$Assembler", 11, y_So_init), ("ObjectForge$Assembler", 20, y_Un_init), ("ObjectForge$Unit", 25, y_Sy_init), ("ObjectForge$Unit", 32, y_Re_init), ("ObjectForge", 18, y_Li_init), ("ObjectForge", 33, y_Un_init)]
def xnS : List (Nat × String) := [(56, "not 0 to 15, or not so many"), (84, "what is not 0 to 4"), (179, "there is no such"), (125, "what is not 0 to 3"), (151, "the base is no multiple of 8"), (153, "there are no objects"), (162, "no word of the image")]
def xN (U : State) : Prop := (∀ w ∈ xnF, w.before #[] U = true) ∧ (∀ q ∈ xnM, va_Nw (.methodLinkNest q.1 q.2.1 q.2.2 "ObjectForge") U) ∧ (∀ q ∈ xnS, ∃ a, vk_R "ObjectForge" q.1 q.2 a U) ∧ va_Nc "java/lang/IllegalStateException" "java/lang/IllegalArgumentException" U ∧ va_AO "ObjectForge$Unit" U ∧ va_OA U
theorem xnF_face : ∀ w ∈ xnF, w.keepsFace = true ∧ w.onTables = true := by
  intro w hw
  simp only [xnF, List.mem_cons, List.not_mem_nil, or_false] at hw
  rcases hw with rfl | rfl | rfl | rfl | rfl | rfl <;> exact ⟨rfl, rfl⟩
theorem xN.warm {s U : State} (hW : s.WarmedH U.vm) (h : xN s) : xN U := by
  obtain ⟨h1, h2, h3, h4, h5, h6⟩ := h
  refine ⟨fun w hw => ?_, fun q hq => (h2 q hq).warmM hW, fun q hq => ?_, h4.moved hW.alike, h5.moved hW.alike, h6.moved hW.alike⟩
  · have h0 := Cond.before_shiftedFace (State.Shifted.of_warmed hW) w (xnF_face w hw).1 (h1 w hw)
    exact va_tabs (xnF_face w hw).2 (u := s.setVm U.vm) (U := U) rfl h0
  · obtain ⟨a, ha⟩ := h3 q hq
    exact ⟨a, ha.warm hW⟩
theorem xN.same {u U : State} (hv : u.vm = U.vm) (h : xN u) : xN U := by
  obtain ⟨h1, h2, h3, h4, h5, h6⟩ := h
  have ha : u.vm.Alike U.vm := by rw [hv]; exact Vm.Alike.refl _
  refine ⟨fun w hw => va_tabs (xnF_face w hw).2 hv (h1 w hw), fun q hq => ?_, fun q hq => ?_, h4.moved ha, h5.moved ha, h6.moved ha⟩
  · exact va_tabs rfl hv (h2 q hq)
  · obtain ⟨a, ha⟩ := h3 q hq
    exact ⟨a, vk_R.same hv.symm ha⟩
/-- a static that holds a reference, or null, in a cell that A does not have -/
def xz1 (n d : String) (A : Nat → Prop) (U : State) (H : Heap) : Prop := ∃ (c : ClassId) (k : Class) (i : Nat) (f : Field) (a : Nat) (cell : Cell) (v : Value), U.vm.findClass "java/lang/Throwable" = some c ∧ U.fieldFound? "java/lang/Throwable" n d = some (c, k, i, f) ∧ f.isStatic = true ∧ k.statics = some a ∧ H[a]? = some cell ∧ cell.vm.isStatics = true ∧ cell.cls = c ∧ f.slot < cell.slots.size ∧ k.staticTypes[f.slot]? = some f.type ∧ cell.slots[f.slot]? = some v ∧ (v = .null ∨ ∃ t, v = .ref t) ∧ ¬ A a
theorem xz1.moved {n d : String} {A : Nat → Prop} {u U : State} {H : Heap} (hvm : u.vm.Alike U.vm) (h : xz1 n d A u H) : xz1 n d A U H := by
  obtain ⟨c, k, i, f, a, cell, v, h1, h2, h3, h4, h5, h6, h7, h8, h9, h10⟩ := h
  obtain ⟨k', hi', he⟩ := State.fieldFound?_setVm hvm h2
  exact ⟨c, k', i, f, a, cell, v, by rw [hvm.findClass]; exact h1, hi', h3, by rw [he]; exact h4, h5, h6, h7, h8, by rw [he]; exact h9, h10⟩
theorem xz1.kept {n d : String} {A : Nat → Prop} {U : State} {H H1 : Heap} (h : xz1 n d A U H) (hq : ∀ a : Nat, a < H.size → ¬ A a → H1[a]? = H[a]?) : xz1 n d A U H1 := by
  obtain ⟨c, k, i, f, a, cell, v, h1, h2, h3, h4, h5, h6, h7, h8, h9, h10, h11, h12⟩ := h
  exact ⟨c, k, i, f, a, cell, v, h1, h2, h3, h4, by rw [hq a (Array.getElem?_eq_some_iff.mp h5).1 h12]; exact h5, h6, h7, h8, h9, h10, h11, h12⟩
theorem xz1.narrow {n d : String} {A B : Nat → Prop} {U : State} {H : Heap} (h : xz1 n d A U H) (hAB : ∀ q, B q → A q) : xz1 n d B U H := by
  obtain ⟨c, k, i, f, a, cell, v, h1, h2, h3, h4, h5, h6, h7, h8, h9, h10, h11, h12⟩ := h
  exact ⟨c, k, i, f, a, cell, v, h1, h2, h3, h4, h5, h6, h7, h8, h9, h10, h11, fun z => h12 (hAB a z)⟩
theorem xz1.lays {n d : String} {A : Nat → Prop} {U : State} {args : Array Value} (h : xz1 n d A U U.heap) : (Cond.laysStatic "java/lang/Throwable" n d).before args U = true := by
  obtain ⟨c, k, i, f, a, cell, v, h1, h2, h3, h4, h5, h6, h7, h8, h9, -⟩ := h
  simp [Cond.before, Cond.holds, Cond.value, h1, h2, h3, h4, h5, h6, h7, h8, h9]
theorem xz1.isRef {n d : String} {A : Nat → Prop} {U : State} {args : Array Value} (h : xz1 n d A U U.heap) : (Cond.isRef (.static "java/lang/Throwable" n d)).before args U = true := by
  obtain ⟨c, k, i, f, a, cell, v, h1, h2, h3, h4, h5, h6, h7, h8, h9, h10, h11, -⟩ := h
  have he : (Term.static "java/lang/Throwable" n d).eval args U none [] U = some v := by
    simp [Term.eval, State.fieldNamed?, h2, h3, h4, h5, h6, h10]
  simp only [Cond.before, Cond.holds, Cond.value, he]
  rcases h11 with rfl | ⟨x, rfl⟩ <;> simp
theorem xz1.of {n d : String} {A : Nat → Prop} {U : State} {args : Array Value} (h1 : (Cond.laysStatic "java/lang/Throwable" n d).before args U = true) (h2 : (Cond.isRef (.static "java/lang/Throwable" n d)).before args U = true) (hA : ∀ a : Nat, a < U.heap.size → ¬ A a) : xz1 n d A U U.heap := by
  obtain ⟨c, k, i, f, a, cell, q1, q2, q3, q4, q5, q6, q7, q8, q9⟩ := Cond.laysStatic_spec h1
  cases hv : (Term.static "java/lang/Throwable" n d).eval args U none [] U with
  | none => simp [Cond.before, Cond.holds, Cond.value, hv] at h2
  | some w =>
    obtain ⟨hst', a', cell', ha', hcell', -, hslot⟩ := Term.static_spec q2 hv
    cases q4.symm.trans ha'
    cases q5.symm.trans hcell'
    simp only [Cond.before, Cond.holds, Cond.value, hv] at h2
    refine ⟨c, k, i, f, a, cell, w, q1, q2, q3, q4, q5, q6, q7, q8, q9, hslot, ?_, hA a (Array.getElem?_eq_some_iff.mp q5).1⟩
    cases w with
    | null => exact Or.inl rfl
    | ref t => exact Or.inr ⟨t, rfl⟩
    | _ => simp at h2
def xZ (A : Nat → Prop) (U : State) (H : Heap) : Prop := xz1 "UNASSIGNED_STACK" "[Ljava/lang/StackTraceElement;" A U H ∧ xz1 "SUPPRESSED_SENTINEL" "Ljava/util/List;" A U H
theorem xZ.call {A : Nat → Prop} {s U : State} {H : Heap} {locs : List Loc} {wc : va_W} (h : xZ A s s.heap) (hS : va_S A s.heap H locs) (hF : ∀ q, va_A wc H.size q → A q) (hU : U.heap = H) (hvm : s.vm.Alike U.vm) : xZ (va_A wc H.size) U U.heap := by
  rw [hU]
  exact ⟨((h.1.kept hS.2.1).narrow hF).moved hvm, ((h.2.kept hS.2.1).narrow hF).moved hvm⟩
/-- the start of a contract: its world, and what stands beside it -/
def xP (D : va_G) (tys : List (ClassId × FieldType)) (sz : Nat) (ws : va_W) (U : State) : Prop := U.heap.size = sz ∧ va_P D cls ws U.heap ∧ va_K D cls tys U ∧ va_D (fun _ => True) ws ∧ xN U ∧ xZ (va_A ws sz) U U.heap
theorem xP.blind {D : va_G} {tys : List (ClassId × FieldType)} {sz : Nat} {ws : va_W} {av : List Value} : FrameBlind (va_Pc av (xP D tys sz ws)) := fun a U g mk q => by
  obtain ⟨q0, q1, q2, q3, q4, q5, q6⟩ := q
  exact ⟨q0, q1, q2, va_K.moved (u := U) (U := U.calling g mk a) (Vm.Alike.refl U.vm) q3, q4, q5.same (u := U) (U := U.calling g mk a) rfl, q6.1.moved (u := U) (U := U.calling g mk a) (Vm.Alike.refl U.vm), q6.2.moved (u := U) (U := U.calling g mk a) (Vm.Alike.refl U.vm)⟩
theorem xP.at {D : va_G} {A : Nat → Prop} {tys tc : List (ClassId × FieldType)} {ws wc : va_W} {s : State} {H : Heap} {locs : List Loc} {av : List Value} (hP : va_P D cls ws H) (hD : va_D A ws) (hK : va_K D cls tys s) (hS : va_S A s.heap H locs) (hN : xN s) (hZ : xZ A s s.heap) (hF : ∀ q, va_A wc H.size q → A q)
    (isC : List Nat) (hC : isC.map (fun i => ws[i]?) = wc.map some) (hnC : va_nd isC = true) (ktC : List Nat) (htC : ktC.filterMap (fun i => tys[i]?) = tc) : ∀ U : State, U.heap = H → s.WarmedH U.vm → va_Pc av (xP D tc H.size wc) av.toArray U := by
  intro U hU hW
  have hf : isC.filterMap (fun i => ws[i]?) = wc := by
    have : ∀ (l : List Nat) (w : va_W), l.map (fun i => ws[i]?) = w.map some → l.filterMap (fun i => ws[i]?) = w := by
      intro l
      induction l with
      | nil => intro w h; cases w with
        | nil => rfl
        | cons a b => simp at h
      | cons a b ih => intro w h; cases w with
        | nil => simp at h
        | cons c d =>
          simp only [List.map_cons, List.cons.injEq] at h
          rw [List.filterMap_cons, h.1, ih d h.2]
    exact this isC wc hC
  exact ⟨rfl, by rw [hU], by rw [hU]; exact hP.sub isC hf, va_K.moved hW.alike (hK.sub ktC htC), (hD.sub isC hnC hC).weaken (fun _ _ _ _ => trivial), hN.warm hW, hZ.call hS hF hU hW.alike⟩
/-- the end of a contract: an answer, a world -/
def xQ {S : Type} (vf : S → Option Value) (w1 : S → va_W) (t1 : S → List (ClassId × FieldType)) (D : va_G) (A : Nat → Prop) : Array Value → State → Outcome → State → Prop := fun _ st oc t => (∃ u : S, oc = .returned (vf u) ∧ va_P D cls (w1 u) t.heap ∧ va_K D cls (t1 u) t ∧ va_D A (w1 u)) ∧ va_F A st t
section XC
variable {p : Program} {l : Launch} {e : Env} {R : Room} {s : State} {m : MethodId} {args : Array Value} {below : List Frame} {meth : Method} {c : Code} {H : Heap} {locs : List Loc} {cells slots : Nat} {Q : State → Prop}
variable {pc : Nat} {ls : Array Slot} {rest st0 : List Value} {D : va_G} {A : Nat → Prop} {ws wc wr : va_W} {tys tc tr : List (ClassId × FieldType)} {mc ms : Nat}
/-- behind a call -/
theorem xc_go {S : Type} {vf : S → Option Value} {w1 : S → va_W} {t1 : S → List (ClassId × FieldType)} {a : Array Value} (hr : va_Run p l e R s m args below meth c H locs cells slots mc ms (F0 m pc ls st0) rest (xQ vf w1 t1 D (va_A wc H.size) a) (va_A wc H.size))
    (hP : va_P D cls ws H) (hD : va_D A ws) (hK : va_K D cls tys s) (hS : va_S A s.heap H locs) (hA : ∀ q, s.heap.size ≤ q → A q) (isC isR : List Nat) (hC : isC.map (fun i => ws[i]?) = wc.map some) (hR : isR.map (fun i => ws[i]?) = wr.map some) (hnR : va_nd isR = true) (hdis : ∀ i ∈ isR, i ∉ isC) (ktR : List Nat) (htR : ktR.filterMap (fun i => tys[i]?) = tr)
    (kk : ∀ (u : S) (H1 : Heap) (locs1 : List Loc), va_P D cls (wr ++ w1 u) H1 → va_D A (wr ++ w1 u) → va_K D cls (tr ++ t1 u) s → va_S A s.heap H1 locs1 → W p l e R s m args below meth c H1 locs1 (cells + mc) (slots + ms) Q (F0 m (pc + 3) ls ((vf u).toList ++ rest))) : W p l e R s m args below meth c H locs cells slots Q (F0 m pc ls st0) := by
  have hF := va_free (wc := wc) hD hS hA isC hC
  intro T hT X
  obtain ⟨v, st₀, t, T', L, h0, X', hL, e1, e2, ⟨⟨u, hv, hP1, hK1, hD1⟩, hz, hk⟩, st⟩ := hr T hT X
  cases hv
  rw [h0] at hz hk
  obtain ⟨hP2, hD2⟩ := va_join (wr := wr) (w1 := w1 u) hP hD isC isR hC hR hnR hdis hk hF hP1 hD1
  have ha : s.vm.Alike t.vm := by rw [← e2]; exact X'.warmed.alike
  have hK2 := (hK.sub ktR htR).app (va_K.moved ha.symm hK1)
  obtain ⟨t2, a1, b1⟩ := kk u t.heap (locs ++ L) hP2 hD2 hK2 ⟨Nat.le_trans hS.1 hz, fun q h1 h2 => by rw [hk q (Nat.lt_of_lt_of_le h1 hS.1) (fun z => h2 (hF q z))]; exact hS.2.1 q h1 h2, fun q hq => by
    rcases List.mem_append.mp hq with h | h
    · exact hS.2.2 q h
    · exact hF _ (hL q h)⟩ T' e1 X'
  exact ⟨t2, st t2 a1, b1⟩
end XC
