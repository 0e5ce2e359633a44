theorem d_OF_requireBelow_0 : decode b_OF_requireBelow 0 = .ok (.iload_n 0, 1) := by decide +kernel
theorem d_OF_requireBelow_1 : decode b_OF_requireBelow 1 = .ok (.ifCond .lt 8, 3) := by decide +kernel
theorem d_OF_requireBelow_9 : decode b_OF_requireBelow 9 = .ok (.new 82, 3) := by decide +kernel
theorem d_OF_requireBelow_12 : decode b_OF_requireBelow 12 = .ok (.dup, 1) := by decide +kernel
theorem d_OF_requireBelow_13 : decode b_OF_requireBelow 13 = .ok (.ldc 179, 2) := by decide +kernel
theorem d_OF_requireBelow_15 : decode b_OF_requireBelow 15 = .ok (.invokespecial 86, 3) := by decide +kernel
theorem d_OF_requireBelow_18 : decode b_OF_requireBelow 18 = .ok (.athrow, 1) := by decide +kernel
set_option maxHeartbeats 4000000 in
set_option maxRecDepth 100000 in
theorem c_OF_requireBelow_n (l : Launch) (htr : l.stackTraces = false) (D : va_G) (k n : Int32) (hk : k < 0) (sz : Nat) : MetT l y_OF_requireBelow (Cond.code y_OF_requireBelow b_OF_requireBelow 2 none :: bw) (xR 1 1 6) (va_Pc [.int k, .int n] (xP D [] sz [])) (xQT "java/lang/IndexOutOfBoundsException" (va_A [] sz)) 1 6 (va_A [] sz) := by
  refine MetT.ofW (cc := b_OF_requireBelow) (maxL := 2) (ret := none) (by decide) rfl ?_
  intro p e s m args below meth c s₁ B hml hno hv
  obtain ⟨rfl, hsz, hP, hK, hD0, hN, hZ⟩ := hv
  have hx := B.exec
  have hb := B.bytes
  have hr := B.returns
  have hlocks := B.notSynchronized
  have hts : ∀ w ∈ bw, w.before _ s = true := fun w h => atoms_spec (ws := Cond.code y_OF_requireBelow b_OF_requireBelow 2 none :: bw) B.pre w (List.mem_cons_of_mem _ h)
  have hown : s.vm.findClass "ObjectForge" = some m.cls := findClass_of_methodNamed B.named
  subst hsz
  have hP0 := hP
  have hD := hD0.self (sz := s.heap.size)
  generalize hAe : va_A [] s.heap.size = A at hD hZ ⊢
  have hA : ∀ q : Nat, s.heap.size ≤ q → A q := fun q h => by rw [← hAe]; exact Or.inr h
  have hS : va_S A s.heap s.heap [] := va_S.rf
  have hl := lv_entry ([.int k, .int n]) (n := 2) (Nat.le_of_ble_eq_true rfl)
  rw [lg_entry_eq]
  generalize (lg_sl ([.int k, .int n]) ++ List.replicate (2 - (lg_sl ([.int k, .int n])).length) Slot.unset).toArray = ls at hl ⊢
  have hl : lv_has ls 2 [(0, .int k), (1, .int n)] := hl
  refine lv_iload_n hx hb d_OF_requireBelow_0 rfl (lv_at hl 0 rfl) ?_
  refine lv_if_lt (tgt := 9) hx hb d_OF_requireBelow_1 (by decide) (fun _ => ?_) (fun q9 => absurd hk q9)
  exact x_throw (tx := "there is no such") hx hb hml hown hts hN hZ htr hno hlocks own_ioobe (by decide +kernel) w_303 w_304 w_15 (by simp [xnS]) hS (by simp) hl.1 (Nat.le_of_ble_eq_true rfl) (Nat.le_of_ble_eq_true rfl) (Nat.le_of_ble_eq_true rfl) (Nat.le_of_ble_eq_true rfl) d_OF_requireBelow_9 d_OF_requireBelow_12 d_OF_requireBelow_13 d_OF_requireBelow_15 d_OF_requireBelow_18

theorem d_OF_requireBelow_4 : decode b_OF_requireBelow 4 = .ok (.iload_n 0, 1) := by decide +kernel
theorem d_OF_requireBelow_5 : decode b_OF_requireBelow 5 = .ok (.iload_n 1, 1) := by decide +kernel
theorem d_OF_requireBelow_6 : decode b_OF_requireBelow 6 = .ok (.if_icmp .lt 13, 3) := by decide +kernel
set_option maxHeartbeats 4000000 in
set_option maxRecDepth 100000 in
theorem c_OF_requireBelow_g (l : Launch) (htr : l.stackTraces = false) (D : va_G) (k n : Int32) (hk : ¬ k < 0) (hg : ¬ k < n) (sz : Nat) : MetT l y_OF_requireBelow (Cond.code y_OF_requireBelow b_OF_requireBelow 2 none :: bw) (xR 1 1 6) (va_Pc [.int k, .int n] (xP D [] sz [])) (xQT "java/lang/IndexOutOfBoundsException" (va_A [] sz)) 1 6 (va_A [] sz) := by
  refine MetT.ofW (cc := b_OF_requireBelow) (maxL := 2) (ret := none) (by decide) rfl ?_
  intro p e s m args below meth c s₁ B hml hno hv
  obtain ⟨rfl, hsz, hP, hK, hD0, hN, hZ⟩ := hv
  have hx := B.exec
  have hb := B.bytes
  have hr := B.returns
  have hlocks := B.notSynchronized
  have hts : ∀ w ∈ bw, w.before _ s = true := fun w h => atoms_spec (ws := Cond.code y_OF_requireBelow b_OF_requireBelow 2 none :: bw) B.pre w (List.mem_cons_of_mem _ h)
  have hown : s.vm.findClass "ObjectForge" = some m.cls := findClass_of_methodNamed B.named
  subst hsz
  have hP0 := hP
  have hD := hD0.self (sz := s.heap.size)
  generalize hAe : va_A [] s.heap.size = A at hD hZ ⊢
  have hA : ∀ q : Nat, s.heap.size ≤ q → A q := fun q h => by rw [← hAe]; exact Or.inr h
  have hS : va_S A s.heap s.heap [] := va_S.rf
  have hl := lv_entry ([.int k, .int n]) (n := 2) (Nat.le_of_ble_eq_true rfl)
  rw [lg_entry_eq]
  generalize (lg_sl ([.int k, .int n]) ++ List.replicate (2 - (lg_sl ([.int k, .int n])).length) Slot.unset).toArray = ls at hl ⊢
  have hl : lv_has ls 2 [(0, .int k), (1, .int n)] := hl
  refine lv_iload_n hx hb d_OF_requireBelow_0 rfl (lv_at hl 0 rfl) ?_
  refine lv_if_lt (tgt := 9) hx hb d_OF_requireBelow_1 (by decide) (fun q9 => absurd q9 hk) (fun _ => ?_)
  refine lv_iload_n hx hb d_OF_requireBelow_4 rfl (lv_at hl 0 rfl) ?_
  refine lv_iload_n hx hb d_OF_requireBelow_5 rfl (lv_at hl 1 rfl) ?_
  refine lv_icmp_lt (tgt := 19) hx hb d_OF_requireBelow_6 (by decide) (fun q9 => absurd q9 hg) (fun _ => ?_)
  exact x_throw (tx := "there is no such") hx hb hml hown hts hN hZ htr hno hlocks own_ioobe (by decide +kernel) w_303 w_304 w_15 (by simp [xnS]) hS (by simp) hl.1 (Nat.le_of_ble_eq_true rfl) (Nat.le_of_ble_eq_true rfl) (Nat.le_of_ble_eq_true rfl) (Nat.le_of_ble_eq_true rfl) d_OF_requireBelow_9 d_OF_requireBelow_12 d_OF_requireBelow_13 d_OF_requireBelow_15 d_OF_requireBelow_18

theorem d_OF_unitNumbered_0 : decode b_OF_unitNumbered 0 = .ok (.iload_n 1, 1) := by decide +kernel
theorem d_OF_unitNumbered_1 : decode b_OF_unitNumbered 1 = .ok (.aload_n 0, 1) := by decide +kernel
theorem d_OF_unitNumbered_2 : decode b_OF_unitNumbered 2 = .ok (.getfield 29, 3) := by decide +kernel
theorem d_OF_unitNumbered_5 : decode b_OF_unitNumbered 5 = .ok (.invokestatic 91, 3) := by decide +kernel
set_option maxHeartbeats 4000000 in
set_option maxRecDepth 100000 in
theorem c_OF_unitNumbered_n (l : Launch) (htr : l.stackTraces = false) (D : va_G) (h0 : Nat) (qa : Nat → Nat) (p0 : Int32) (hk : p0 < 0) (sz : Nat) : MetT l y_OF_unitNumbered (Cond.code y_OF_unitNumbered b_OF_unitNumbered 2 (some (.object "ObjectForge$Unit")) :: bw) (xR 2 1 6) (va_Pc [.ref h0, .int p0] (xP D [] sz [(h0, .inr (0, [.ref (qa 0), .ref (qa 1), .ref (qa 2), .int 0]))])) (xQT "java/lang/IndexOutOfBoundsException" (va_A [(h0, .inr (0, [.ref (qa 0), .ref (qa 1), .ref (qa 2), .int 0]))] sz)) 1 6 (va_A [(h0, .inr (0, [.ref (qa 0), .ref (qa 1), .ref (qa 2), .int 0]))] sz) := by
  refine MetT.ofW (cc := b_OF_unitNumbered) (maxL := 2) (ret := (some (.object "ObjectForge$Unit"))) (by decide) rfl ?_
  intro p e s m args below meth c s₁ B hml hno hv
  obtain ⟨rfl, hsz, hP, hK, hD0, hN, hZ⟩ := hv
  have hx := B.exec
  have hb := B.bytes
  have hr := B.returns
  have hlocks := B.notSynchronized
  have hts : ∀ w ∈ bw, w.before _ s = true := fun w h => atoms_spec (ws := Cond.code y_OF_unitNumbered b_OF_unitNumbered 2 (some (.object "ObjectForge$Unit")) :: bw) B.pre w (List.mem_cons_of_mem _ h)
  have hown : s.vm.findClass "ObjectForge" = some m.cls := findClass_of_methodNamed B.named
  subst hsz
  have hP0 := hP
  have hD := hD0.self (sz := s.heap.size)
  generalize hAe : va_A [(h0, .inr (0, [.ref (qa 0), .ref (qa 1), .ref (qa 2), .int 0]))] s.heap.size = A at hD hZ ⊢
  have hA : ∀ q : Nat, s.heap.size ≤ q → A q := fun q h => by rw [← hAe]; exact Or.inr h
  have hS : va_S A s.heap s.heap [] := va_S.rf
  have hl := lv_entry ([.ref h0, .int p0]) (n := 2) (Nat.le_of_ble_eq_true rfl)
  rw [lg_entry_eq]
  generalize (lg_sl ([.ref h0, .int p0]) ++ List.replicate (2 - (lg_sl ([.ref h0, .int p0])).length) Slot.unset).toArray = ls at hl ⊢
  have hl : lv_has ls 2 [(0, .ref h0), (1, .int p0)] := hl
  refine lv_iload_n hx hb d_OF_unitNumbered_0 rfl (lv_at hl 1 rfl) ?_
  refine lv_aload_n hx hb d_OF_unitNumbered_1 rfl (lv_at hl 0 rfl) ?_
  refine va_get (D := D) (ci := 0) (v := .int 0) (C := R_OF) (T := F_OF) (N := 4) hx hb hts i_OF hown hK hP 0 rfl rfl 3 (by decide) (hts _ w_153) (fun _ h9 => h9) rfl d_OF_unitNumbered_2 ?_
  refine xt_S (As := [.int p0, .int 0]) (rest := []) (n := 2) (wc := []) (wr := [(h0, .inr (0, [.ref (qa 0), .ref (qa 1), .ref (qa 2), .int 0]))]) (tc := [])  ⟨hx, hb, hml, hown, hts⟩ (c_OF_requireBelow_n l htr D p0 0 hk s.heap.size) rfl rfl w_326 w_324 w_325 w_1 (by decide +kernel) ⟨Nat.le_of_ble_eq_true rfl, Nat.le_of_ble_eq_true rfl⟩ hP hD hK hS hA hN hZ [] [0] rfl rfl (by decide) (by decide) (by decide) [] rfl rfl hl.1 rfl (Nat.le_of_ble_eq_true rfl) d_OF_unitNumbered_5 ⟨Nat.le_of_ble_eq_true rfl, Nat.le_of_ble_eq_true rfl⟩ (fun x H locs hxn hcell hP hD hS => ?_)
  exact WT.out hno hlocks (fun t ht hW => ⟨⟨hxn, by rw [ht, hW.alike.findClass]; exact hcell⟩, hS.F ht⟩) hS.2.2

set_option maxHeartbeats 4000000 in
set_option maxRecDepth 100000 in
theorem c_OF_unitNumbered_g (l : Launch) (htr : l.stackTraces = false) (D : va_G) (h0 : Nat) (qa : Nat → Nat) (p0 : Int32) (hk : ¬ p0 < 0) (hg : ¬ p0 < 0) (sz : Nat) : MetT l y_OF_unitNumbered (Cond.code y_OF_unitNumbered b_OF_unitNumbered 2 (some (.object "ObjectForge$Unit")) :: bw) (xR 2 1 6) (va_Pc [.ref h0, .int p0] (xP D [] sz [(h0, .inr (0, [.ref (qa 0), .ref (qa 1), .ref (qa 2), .int 0]))])) (xQT "java/lang/IndexOutOfBoundsException" (va_A [(h0, .inr (0, [.ref (qa 0), .ref (qa 1), .ref (qa 2), .int 0]))] sz)) 1 6 (va_A [(h0, .inr (0, [.ref (qa 0), .ref (qa 1), .ref (qa 2), .int 0]))] sz) := by
  refine MetT.ofW (cc := b_OF_unitNumbered) (maxL := 2) (ret := (some (.object "ObjectForge$Unit"))) (by decide) rfl ?_
  intro p e s m args below meth c s₁ B hml hno hv
  obtain ⟨rfl, hsz, hP, hK, hD0, hN, hZ⟩ := hv
  have hx := B.exec
  have hb := B.bytes
  have hr := B.returns
  have hlocks := B.notSynchronized
  have hts : ∀ w ∈ bw, w.before _ s = true := fun w h => atoms_spec (ws := Cond.code y_OF_unitNumbered b_OF_unitNumbered 2 (some (.object "ObjectForge$Unit")) :: bw) B.pre w (List.mem_cons_of_mem _ h)
  have hown : s.vm.findClass "ObjectForge" = some m.cls := findClass_of_methodNamed B.named
  subst hsz
  have hP0 := hP
  have hD := hD0.self (sz := s.heap.size)
  generalize hAe : va_A [(h0, .inr (0, [.ref (qa 0), .ref (qa 1), .ref (qa 2), .int 0]))] s.heap.size = A at hD hZ ⊢
  have hA : ∀ q : Nat, s.heap.size ≤ q → A q := fun q h => by rw [← hAe]; exact Or.inr h
  have hS : va_S A s.heap s.heap [] := va_S.rf
  have hl := lv_entry ([.ref h0, .int p0]) (n := 2) (Nat.le_of_ble_eq_true rfl)
  rw [lg_entry_eq]
  generalize (lg_sl ([.ref h0, .int p0]) ++ List.replicate (2 - (lg_sl ([.ref h0, .int p0])).length) Slot.unset).toArray = ls at hl ⊢
  have hl : lv_has ls 2 [(0, .ref h0), (1, .int p0)] := hl
  refine lv_iload_n hx hb d_OF_unitNumbered_0 rfl (lv_at hl 1 rfl) ?_
  refine lv_aload_n hx hb d_OF_unitNumbered_1 rfl (lv_at hl 0 rfl) ?_
  refine va_get (D := D) (ci := 0) (v := .int 0) (C := R_OF) (T := F_OF) (N := 4) hx hb hts i_OF hown hK hP 0 rfl rfl 3 (by decide) (hts _ w_153) (fun _ h9 => h9) rfl d_OF_unitNumbered_2 ?_
  refine xt_S (As := [.int p0, .int 0]) (rest := []) (n := 2) (wc := []) (wr := [(h0, .inr (0, [.ref (qa 0), .ref (qa 1), .ref (qa 2), .int 0]))]) (tc := [])  ⟨hx, hb, hml, hown, hts⟩ (c_OF_requireBelow_g l htr D p0 0 hk hg s.heap.size) rfl rfl w_326 w_324 w_325 w_1 (by decide +kernel) ⟨Nat.le_of_ble_eq_true rfl, Nat.le_of_ble_eq_true rfl⟩ hP hD hK hS hA hN hZ [] [0] rfl rfl (by decide) (by decide) (by decide) [] rfl rfl hl.1 rfl (Nat.le_of_ble_eq_true rfl) d_OF_unitNumbered_5 ⟨Nat.le_of_ble_eq_true rfl, Nat.le_of_ble_eq_true rfl⟩ (fun x H locs hxn hcell hP hD hS => ?_)
  exact WT.out hno hlocks (fun t ht hW => ⟨⟨hxn, by rw [ht, hW.alike.findClass]; exact hcell⟩, hS.F ht⟩) hS.2.2

theorem d_OF_size_0 : decode b_OF_size 0 = .ok (.aload_n 0, 1) := by decide +kernel
theorem d_OF_size_1 : decode b_OF_size 1 = .ok (.iload_n 1, 1) := by decide +kernel
theorem d_OF_size_2 : decode b_OF_size 2 = .ok (.invokevirtual 87, 3) := by decide +kernel
set_option maxHeartbeats 4000000 in
set_option maxRecDepth 100000 in
theorem c_OF_size_n (l : Launch) (htr : l.stackTraces = false) (D : va_G) (h0 : Nat) (qa : Nat → Nat) (p0 p1 : Int32) (hk : p0 < 0) (sz : Nat) : MetT l y_OF_size (Cond.code y_OF_size b_OF_size 4 (some .int) :: bw) (xR 3 1 6) (va_Pc [.ref h0, .int p0, .int p1] (xP D [] sz [(h0, .inr (0, [.ref (qa 0), .ref (qa 1), .ref (qa 2), .int 0]))])) (xQT "java/lang/IndexOutOfBoundsException" (va_A [(h0, .inr (0, [.ref (qa 0), .ref (qa 1), .ref (qa 2), .int 0]))] sz)) 1 6 (va_A [(h0, .inr (0, [.ref (qa 0), .ref (qa 1), .ref (qa 2), .int 0]))] sz) := by
  refine MetT.ofW (cc := b_OF_size) (maxL := 4) (ret := (some .int)) (by decide) rfl ?_
  intro p e s m args below meth c s₁ B hml hno hv
  obtain ⟨rfl, hsz, hP, hK, hD0, hN, hZ⟩ := hv
  have hx := B.exec
  have hb := B.bytes
  have hr := B.returns
  have hlocks := B.notSynchronized
  have hts : ∀ w ∈ bw, w.before _ s = true := fun w h => atoms_spec (ws := Cond.code y_OF_size b_OF_size 4 (some .int) :: bw) B.pre w (List.mem_cons_of_mem _ h)
  have hown : s.vm.findClass "ObjectForge" = some m.cls := findClass_of_methodNamed B.named
  subst hsz
  have hP0 := hP
  have hD := hD0.self (sz := s.heap.size)
  generalize hAe : va_A [(h0, .inr (0, [.ref (qa 0), .ref (qa 1), .ref (qa 2), .int 0]))] s.heap.size = A at hD hZ ⊢
  have hA : ∀ q : Nat, s.heap.size ≤ q → A q := fun q h => by rw [← hAe]; exact Or.inr h
  have hS : va_S A s.heap s.heap [] := va_S.rf
  have hl := lv_entry ([.ref h0, .int p0, .int p1]) (n := 4) (Nat.le_of_ble_eq_true rfl)
  rw [lg_entry_eq]
  generalize (lg_sl ([.ref h0, .int p0, .int p1]) ++ List.replicate (4 - (lg_sl ([.ref h0, .int p0, .int p1])).length) Slot.unset).toArray = ls at hl ⊢
  have hl : lv_has ls 4 [(0, .ref h0), (1, .int p0), (2, .int p1)] := hl
  refine lv_aload_n hx hb d_OF_size_0 rfl (lv_at hl 0 rfl) ?_
  refine lv_iload_n hx hb d_OF_size_1 rfl (lv_at hl 1 rfl) ?_
  refine xt_V (As := [.int p0]) (rest := []) (n := 1) (wc := [(h0, .inr (0, [.ref (qa 0), .ref (qa 1), .ref (qa 2), .int 0]))]) (wr := []) (tc := [])  ⟨hx, hb, hml, hown, hts⟩ (c_OF_unitNumbered_n l htr D h0 qa p0 hk s.heap.size) rfl rfl w_323 w_321 w_322 w_556 w_1 (by decide +kernel) ⟨Nat.le_of_ble_eq_true rfl, Nat.le_of_ble_eq_true rfl⟩ hP hD hK hS hA hN hZ [0] [] rfl rfl (by decide) (by decide) (by decide) [] rfl (ci := 0) (q0 := 0) (q := (R_OF, F_OF, 4)) rfl rfl rfl rfl hl.1 rfl (Nat.le_of_ble_eq_true rfl) d_OF_size_2 ⟨Nat.le_of_ble_eq_true rfl, Nat.le_of_ble_eq_true rfl⟩ (fun x H locs hxn hcell hP hD hS => ?_)
  exact WT.out hno hlocks (fun t ht hW => ⟨⟨hxn, by rw [ht, hW.alike.findClass]; exact hcell⟩, hS.F ht⟩) hS.2.2

set_option maxHeartbeats 4000000 in
set_option maxRecDepth 100000 in
theorem c_OF_size_g (l : Launch) (htr : l.stackTraces = false) (D : va_G) (h0 : Nat) (qa : Nat → Nat) (p0 p1 : Int32) (hk : ¬ p0 < 0) (hg : ¬ p0 < 0) (sz : Nat) : MetT l y_OF_size (Cond.code y_OF_size b_OF_size 4 (some .int) :: bw) (xR 3 1 6) (va_Pc [.ref h0, .int p0, .int p1] (xP D [] sz [(h0, .inr (0, [.ref (qa 0), .ref (qa 1), .ref (qa 2), .int 0]))])) (xQT "java/lang/IndexOutOfBoundsException" (va_A [(h0, .inr (0, [.ref (qa 0), .ref (qa 1), .ref (qa 2), .int 0]))] sz)) 1 6 (va_A [(h0, .inr (0, [.ref (qa 0), .ref (qa 1), .ref (qa 2), .int 0]))] sz) := by
  refine MetT.ofW (cc := b_OF_size) (maxL := 4) (ret := (some .int)) (by decide) rfl ?_
  intro p e s m args below meth c s₁ B hml hno hv
  obtain ⟨rfl, hsz, hP, hK, hD0, hN, hZ⟩ := hv
  have hx := B.exec
  have hb := B.bytes
  have hr := B.returns
  have hlocks := B.notSynchronized
  have hts : ∀ w ∈ bw, w.before _ s = true := fun w h => atoms_spec (ws := Cond.code y_OF_size b_OF_size 4 (some .int) :: bw) B.pre w (List.mem_cons_of_mem _ h)
  have hown : s.vm.findClass "ObjectForge" = some m.cls := findClass_of_methodNamed B.named
  subst hsz
  have hP0 := hP
  have hD := hD0.self (sz := s.heap.size)
  generalize hAe : va_A [(h0, .inr (0, [.ref (qa 0), .ref (qa 1), .ref (qa 2), .int 0]))] s.heap.size = A at hD hZ ⊢
  have hA : ∀ q : Nat, s.heap.size ≤ q → A q := fun q h => by rw [← hAe]; exact Or.inr h
  have hS : va_S A s.heap s.heap [] := va_S.rf
  have hl := lv_entry ([.ref h0, .int p0, .int p1]) (n := 4) (Nat.le_of_ble_eq_true rfl)
  rw [lg_entry_eq]
  generalize (lg_sl ([.ref h0, .int p0, .int p1]) ++ List.replicate (4 - (lg_sl ([.ref h0, .int p0, .int p1])).length) Slot.unset).toArray = ls at hl ⊢
  have hl : lv_has ls 4 [(0, .ref h0), (1, .int p0), (2, .int p1)] := hl
  refine lv_aload_n hx hb d_OF_size_0 rfl (lv_at hl 0 rfl) ?_
  refine lv_iload_n hx hb d_OF_size_1 rfl (lv_at hl 1 rfl) ?_
  refine xt_V (As := [.int p0]) (rest := []) (n := 1) (wc := [(h0, .inr (0, [.ref (qa 0), .ref (qa 1), .ref (qa 2), .int 0]))]) (wr := []) (tc := [])  ⟨hx, hb, hml, hown, hts⟩ (c_OF_unitNumbered_g l htr D h0 qa p0 hk hg s.heap.size) rfl rfl w_323 w_321 w_322 w_556 w_1 (by decide +kernel) ⟨Nat.le_of_ble_eq_true rfl, Nat.le_of_ble_eq_true rfl⟩ hP hD hK hS hA hN hZ [0] [] rfl rfl (by decide) (by decide) (by decide) [] rfl (ci := 0) (q0 := 0) (q := (R_OF, F_OF, 4)) rfl rfl rfl rfl hl.1 rfl (Nat.le_of_ble_eq_true rfl) d_OF_size_2 ⟨Nat.le_of_ble_eq_true rfl, Nat.le_of_ble_eq_true rfl⟩ (fun x H locs hxn hcell hP hD hS => ?_)
  exact WT.out hno hlocks (fun t ht hW => ⟨⟨hxn, by rw [ht, hW.alike.findClass]; exact hcell⟩, hS.F ht⟩) hS.2.2

theorem d_OF_byteAt_0 : decode b_OF_byteAt 0 = .ok (.aload_n 0, 1) := by decide +kernel
theorem d_OF_byteAt_1 : decode b_OF_byteAt 1 = .ok (.iload_n 1, 1) := by decide +kernel
theorem d_OF_byteAt_2 : decode b_OF_byteAt 2 = .ok (.invokevirtual 87, 3) := by decide +kernel
set_option maxHeartbeats 4000000 in
set_option maxRecDepth 100000 in
theorem c_OF_byteAt_n (l : Launch) (htr : l.stackTraces = false) (D : va_G) (h0 : Nat) (qa : Nat → Nat) (p0 p1 p2 : Int32) (hk : p0 < 0) (sz : Nat) : MetT l y_OF_byteAt (Cond.code y_OF_byteAt b_OF_byteAt 5 (some .int) :: bw) (xR 3 1 6) (va_Pc [.ref h0, .int p0, .int p1, .int p2] (xP D [] sz [(h0, .inr (0, [.ref (qa 0), .ref (qa 1), .ref (qa 2), .int 0]))])) (xQT "java/lang/IndexOutOfBoundsException" (va_A [(h0, .inr (0, [.ref (qa 0), .ref (qa 1), .ref (qa 2), .int 0]))] sz)) 1 6 (va_A [(h0, .inr (0, [.ref (qa 0), .ref (qa 1), .ref (qa 2), .int 0]))] sz) := by
  refine MetT.ofW (cc := b_OF_byteAt) (maxL := 5) (ret := (some .int)) (by decide) rfl ?_
  intro p e s m args below meth c s₁ B hml hno hv
  obtain ⟨rfl, hsz, hP, hK, hD0, hN, hZ⟩ := hv
  have hx := B.exec
  have hb := B.bytes
  have hr := B.returns
  have hlocks := B.notSynchronized
  have hts : ∀ w ∈ bw, w.before _ s = true := fun w h => atoms_spec (ws := Cond.code y_OF_byteAt b_OF_byteAt 5 (some .int) :: bw) B.pre w (List.mem_cons_of_mem _ h)
  have hown : s.vm.findClass "ObjectForge" = some m.cls := findClass_of_methodNamed B.named
  subst hsz
  have hP0 := hP
  have hD := hD0.self (sz := s.heap.size)
  generalize hAe : va_A [(h0, .inr (0, [.ref (qa 0), .ref (qa 1), .ref (qa 2), .int 0]))] s.heap.size = A at hD hZ ⊢
  have hA : ∀ q : Nat, s.heap.size ≤ q → A q := fun q h => by rw [← hAe]; exact Or.inr h
  have hS : va_S A s.heap s.heap [] := va_S.rf
  have hl := lv_entry ([.ref h0, .int p0, .int p1, .int p2]) (n := 5) (Nat.le_of_ble_eq_true rfl)
  rw [lg_entry_eq]
  generalize (lg_sl ([.ref h0, .int p0, .int p1, .int p2]) ++ List.replicate (5 - (lg_sl ([.ref h0, .int p0, .int p1, .int p2])).length) Slot.unset).toArray = ls at hl ⊢
  have hl : lv_has ls 5 [(0, .ref h0), (1, .int p0), (2, .int p1), (3, .int p2)] := hl
  refine lv_aload_n hx hb d_OF_byteAt_0 rfl (lv_at hl 0 rfl) ?_
  refine lv_iload_n hx hb d_OF_byteAt_1 rfl (lv_at hl 1 rfl) ?_
  refine xt_V (As := [.int p0]) (rest := []) (n := 1) (wc := [(h0, .inr (0, [.ref (qa 0), .ref (qa 1), .ref (qa 2), .int 0]))]) (wr := []) (tc := [])  ⟨hx, hb, hml, hown, hts⟩ (c_OF_unitNumbered_n l htr D h0 qa p0 hk s.heap.size) rfl rfl w_323 w_321 w_322 w_556 w_1 (by decide +kernel) ⟨Nat.le_of_ble_eq_true rfl, Nat.le_of_ble_eq_true rfl⟩ hP hD hK hS hA hN hZ [0] [] rfl rfl (by decide) (by decide) (by decide) [] rfl (ci := 0) (q0 := 0) (q := (R_OF, F_OF, 4)) rfl rfl rfl rfl hl.1 rfl (Nat.le_of_ble_eq_true rfl) d_OF_byteAt_2 ⟨Nat.le_of_ble_eq_true rfl, Nat.le_of_ble_eq_true rfl⟩ (fun x H locs hxn hcell hP hD hS => ?_)
  exact WT.out hno hlocks (fun t ht hW => ⟨⟨hxn, by rw [ht, hW.alike.findClass]; exact hcell⟩, hS.F ht⟩) hS.2.2

set_option maxHeartbeats 4000000 in
set_option maxRecDepth 100000 in
theorem c_OF_byteAt_g (l : Launch) (htr : l.stackTraces = false) (D : va_G) (h0 : Nat) (qa : Nat → Nat) (p0 p1 p2 : Int32) (hk : ¬ p0 < 0) (hg : ¬ p0 < 0) (sz : Nat) : MetT l y_OF_byteAt (Cond.code y_OF_byteAt b_OF_byteAt 5 (some .int) :: bw) (xR 3 1 6) (va_Pc [.ref h0, .int p0, .int p1, .int p2] (xP D [] sz [(h0, .inr (0, [.ref (qa 0), .ref (qa 1), .ref (qa 2), .int 0]))])) (xQT "java/lang/IndexOutOfBoundsException" (va_A [(h0, .inr (0, [.ref (qa 0), .ref (qa 1), .ref (qa 2), .int 0]))] sz)) 1 6 (va_A [(h0, .inr (0, [.ref (qa 0), .ref (qa 1), .ref (qa 2), .int 0]))] sz) := by
  refine MetT.ofW (cc := b_OF_byteAt) (maxL := 5) (ret := (some .int)) (by decide) rfl ?_
  intro p e s m args below meth c s₁ B hml hno hv
  obtain ⟨rfl, hsz, hP, hK, hD0, hN, hZ⟩ := hv
  have hx := B.exec
  have hb := B.bytes
  have hr := B.returns
  have hlocks := B.notSynchronized
  have hts : ∀ w ∈ bw, w.before _ s = true := fun w h => atoms_spec (ws := Cond.code y_OF_byteAt b_OF_byteAt 5 (some .int) :: bw) B.pre w (List.mem_cons_of_mem _ h)
  have hown : s.vm.findClass "ObjectForge" = some m.cls := findClass_of_methodNamed B.named
  subst hsz
  have hP0 := hP
  have hD := hD0.self (sz := s.heap.size)
  generalize hAe : va_A [(h0, .inr (0, [.ref (qa 0), .ref (qa 1), .ref (qa 2), .int 0]))] s.heap.size = A at hD hZ ⊢
  have hA : ∀ q : Nat, s.heap.size ≤ q → A q := fun q h => by rw [← hAe]; exact Or.inr h
  have hS : va_S A s.heap s.heap [] := va_S.rf
  have hl := lv_entry ([.ref h0, .int p0, .int p1, .int p2]) (n := 5) (Nat.le_of_ble_eq_true rfl)
  rw [lg_entry_eq]
  generalize (lg_sl ([.ref h0, .int p0, .int p1, .int p2]) ++ List.replicate (5 - (lg_sl ([.ref h0, .int p0, .int p1, .int p2])).length) Slot.unset).toArray = ls at hl ⊢
  have hl : lv_has ls 5 [(0, .ref h0), (1, .int p0), (2, .int p1), (3, .int p2)] := hl
  refine lv_aload_n hx hb d_OF_byteAt_0 rfl (lv_at hl 0 rfl) ?_
  refine lv_iload_n hx hb d_OF_byteAt_1 rfl (lv_at hl 1 rfl) ?_
  refine xt_V (As := [.int p0]) (rest := []) (n := 1) (wc := [(h0, .inr (0, [.ref (qa 0), .ref (qa 1), .ref (qa 2), .int 0]))]) (wr := []) (tc := [])  ⟨hx, hb, hml, hown, hts⟩ (c_OF_unitNumbered_g l htr D h0 qa p0 hk hg s.heap.size) rfl rfl w_323 w_321 w_322 w_556 w_1 (by decide +kernel) ⟨Nat.le_of_ble_eq_true rfl, Nat.le_of_ble_eq_true rfl⟩ hP hD hK hS hA hN hZ [0] [] rfl rfl (by decide) (by decide) (by decide) [] rfl (ci := 0) (q0 := 0) (q := (R_OF, F_OF, 4)) rfl rfl rfl rfl hl.1 rfl (Nat.le_of_ble_eq_true rfl) d_OF_byteAt_2 ⟨Nat.le_of_ble_eq_true rfl, Nat.le_of_ble_eq_true rfl⟩ (fun x H locs hxn hcell hP hD hS => ?_)
  exact WT.out hno hlocks (fun t ht hW => ⟨⟨hxn, by rw [ht, hW.alike.findClass]; exact hcell⟩, hS.F ht⟩) hS.2.2

theorem d_OF_symbol_0 : decode b_OF_symbol 0 = .ok (.aload_n 0, 1) := by decide +kernel
theorem d_OF_symbol_1 : decode b_OF_symbol 1 = .ok (.iload_n 1, 1) := by decide +kernel
theorem d_OF_symbol_2 : decode b_OF_symbol 2 = .ok (.invokevirtual 87, 3) := by decide +kernel
set_option maxHeartbeats 4000000 in
set_option maxRecDepth 100000 in
theorem c_OF_symbol_n (l : Launch) (htr : l.stackTraces = false) (D : va_G) (h0 : Nat) (qa : Nat → Nat) (p0 p1 p2 : Int32) (hk : p0 < 0) (sz : Nat) : MetT l y_OF_symbol (Cond.code y_OF_symbol b_OF_symbol 5 (some .int) :: bw) (xR 3 1 6) (va_Pc [.ref h0, .int p0, .int p1, .int p2] (xP D [] sz [(h0, .inr (0, [.ref (qa 0), .ref (qa 1), .ref (qa 2), .int 0]))])) (xQT "java/lang/IndexOutOfBoundsException" (va_A [(h0, .inr (0, [.ref (qa 0), .ref (qa 1), .ref (qa 2), .int 0]))] sz)) 1 6 (va_A [(h0, .inr (0, [.ref (qa 0), .ref (qa 1), .ref (qa 2), .int 0]))] sz) := by
  refine MetT.ofW (cc := b_OF_symbol) (maxL := 5) (ret := (some .int)) (by decide) rfl ?_
  intro p e s m args below meth c s₁ B hml hno hv
  obtain ⟨rfl, hsz, hP, hK, hD0, hN, hZ⟩ := hv
  have hx := B.exec
  have hb := B.bytes
  have hr := B.returns
  have hlocks := B.notSynchronized
  have hts : ∀ w ∈ bw, w.before _ s = true := fun w h => atoms_spec (ws := Cond.code y_OF_symbol b_OF_symbol 5 (some .int) :: bw) B.pre w (List.mem_cons_of_mem _ h)
  have hown : s.vm.findClass "ObjectForge" = some m.cls := findClass_of_methodNamed B.named
  subst hsz
  have hP0 := hP
  have hD := hD0.self (sz := s.heap.size)
  generalize hAe : va_A [(h0, .inr (0, [.ref (qa 0), .ref (qa 1), .ref (qa 2), .int 0]))] s.heap.size = A at hD hZ ⊢
  have hA : ∀ q : Nat, s.heap.size ≤ q → A q := fun q h => by rw [← hAe]; exact Or.inr h
  have hS : va_S A s.heap s.heap [] := va_S.rf
  have hl := lv_entry ([.ref h0, .int p0, .int p1, .int p2]) (n := 5) (Nat.le_of_ble_eq_true rfl)
  rw [lg_entry_eq]
  generalize (lg_sl ([.ref h0, .int p0, .int p1, .int p2]) ++ List.replicate (5 - (lg_sl ([.ref h0, .int p0, .int p1, .int p2])).length) Slot.unset).toArray = ls at hl ⊢
  have hl : lv_has ls 5 [(0, .ref h0), (1, .int p0), (2, .int p1), (3, .int p2)] := hl
  refine lv_aload_n hx hb d_OF_symbol_0 rfl (lv_at hl 0 rfl) ?_
  refine lv_iload_n hx hb d_OF_symbol_1 rfl (lv_at hl 1 rfl) ?_
  refine xt_V (As := [.int p0]) (rest := []) (n := 1) (wc := [(h0, .inr (0, [.ref (qa 0), .ref (qa 1), .ref (qa 2), .int 0]))]) (wr := []) (tc := [])  ⟨hx, hb, hml, hown, hts⟩ (c_OF_unitNumbered_n l htr D h0 qa p0 hk s.heap.size) rfl rfl w_323 w_321 w_322 w_556 w_1 (by decide +kernel) ⟨Nat.le_of_ble_eq_true rfl, Nat.le_of_ble_eq_true rfl⟩ hP hD hK hS hA hN hZ [0] [] rfl rfl (by decide) (by decide) (by decide) [] rfl (ci := 0) (q0 := 0) (q := (R_OF, F_OF, 4)) rfl rfl rfl rfl hl.1 rfl (Nat.le_of_ble_eq_true rfl) d_OF_symbol_2 ⟨Nat.le_of_ble_eq_true rfl, Nat.le_of_ble_eq_true rfl⟩ (fun x H locs hxn hcell hP hD hS => ?_)
  exact WT.out hno hlocks (fun t ht hW => ⟨⟨hxn, by rw [ht, hW.alike.findClass]; exact hcell⟩, hS.F ht⟩) hS.2.2

set_option maxHeartbeats 4000000 in
set_option maxRecDepth 100000 in
theorem c_OF_symbol_g (l : Launch) (htr : l.stackTraces = false) (D : va_G) (h0 : Nat) (qa : Nat → Nat) (p0 p1 p2 : Int32) (hk : ¬ p0 < 0) (hg : ¬ p0 < 0) (sz : Nat) : MetT l y_OF_symbol (Cond.code y_OF_symbol b_OF_symbol 5 (some .int) :: bw) (xR 3 1 6) (va_Pc [.ref h0, .int p0, .int p1, .int p2] (xP D [] sz [(h0, .inr (0, [.ref (qa 0), .ref (qa 1), .ref (qa 2), .int 0]))])) (xQT "java/lang/IndexOutOfBoundsException" (va_A [(h0, .inr (0, [.ref (qa 0), .ref (qa 1), .ref (qa 2), .int 0]))] sz)) 1 6 (va_A [(h0, .inr (0, [.ref (qa 0), .ref (qa 1), .ref (qa 2), .int 0]))] sz) := by
  refine MetT.ofW (cc := b_OF_symbol) (maxL := 5) (ret := (some .int)) (by decide) rfl ?_
  intro p e s m args below meth c s₁ B hml hno hv
  obtain ⟨rfl, hsz, hP, hK, hD0, hN, hZ⟩ := hv
  have hx := B.exec
  have hb := B.bytes
  have hr := B.returns
  have hlocks := B.notSynchronized
  have hts : ∀ w ∈ bw, w.before _ s = true := fun w h => atoms_spec (ws := Cond.code y_OF_symbol b_OF_symbol 5 (some .int) :: bw) B.pre w (List.mem_cons_of_mem _ h)
  have hown : s.vm.findClass "ObjectForge" = some m.cls := findClass_of_methodNamed B.named
  subst hsz
  have hP0 := hP
  have hD := hD0.self (sz := s.heap.size)
  generalize hAe : va_A [(h0, .inr (0, [.ref (qa 0), .ref (qa 1), .ref (qa 2), .int 0]))] s.heap.size = A at hD hZ ⊢
  have hA : ∀ q : Nat, s.heap.size ≤ q → A q := fun q h => by rw [← hAe]; exact Or.inr h
  have hS : va_S A s.heap s.heap [] := va_S.rf
  have hl := lv_entry ([.ref h0, .int p0, .int p1, .int p2]) (n := 5) (Nat.le_of_ble_eq_true rfl)
  rw [lg_entry_eq]
  generalize (lg_sl ([.ref h0, .int p0, .int p1, .int p2]) ++ List.replicate (5 - (lg_sl ([.ref h0, .int p0, .int p1, .int p2])).length) Slot.unset).toArray = ls at hl ⊢
  have hl : lv_has ls 5 [(0, .ref h0), (1, .int p0), (2, .int p1), (3, .int p2)] := hl
  refine lv_aload_n hx hb d_OF_symbol_0 rfl (lv_at hl 0 rfl) ?_
  refine lv_iload_n hx hb d_OF_symbol_1 rfl (lv_at hl 1 rfl) ?_
  refine xt_V (As := [.int p0]) (rest := []) (n := 1) (wc := [(h0, .inr (0, [.ref (qa 0), .ref (qa 1), .ref (qa 2), .int 0]))]) (wr := []) (tc := [])  ⟨hx, hb, hml, hown, hts⟩ (c_OF_unitNumbered_g l htr D h0 qa p0 hk hg s.heap.size) rfl rfl w_323 w_321 w_322 w_556 w_1 (by decide +kernel) ⟨Nat.le_of_ble_eq_true rfl, Nat.le_of_ble_eq_true rfl⟩ hP hD hK hS hA hN hZ [0] [] rfl rfl (by decide) (by decide) (by decide) [] rfl (ci := 0) (q0 := 0) (q := (R_OF, F_OF, 4)) rfl rfl rfl rfl hl.1 rfl (Nat.le_of_ble_eq_true rfl) d_OF_symbol_2 ⟨Nat.le_of_ble_eq_true rfl, Nat.le_of_ble_eq_true rfl⟩ (fun x H locs hxn hcell hP hD hS => ?_)
  exact WT.out hno hlocks (fun t ht hW => ⟨⟨hxn, by rw [ht, hW.alike.findClass]; exact hcell⟩, hS.F ht⟩) hS.2.2

theorem d_OF_letter_0 : decode b_OF_letter 0 = .ok (.aload_n 0, 1) := by decide +kernel
theorem d_OF_letter_1 : decode b_OF_letter 1 = .ok (.iload_n 1, 1) := by decide +kernel
theorem d_OF_letter_2 : decode b_OF_letter 2 = .ok (.invokevirtual 87, 3) := by decide +kernel
set_option maxHeartbeats 4000000 in
set_option maxRecDepth 100000 in
theorem c_OF_letter_n (l : Launch) (htr : l.stackTraces = false) (D : va_G) (h0 : Nat) (qa : Nat → Nat) (p0 p1 p2 : Int32) (hk : p0 < 0) (sz : Nat) : MetT l y_OF_letter (Cond.code y_OF_letter b_OF_letter 5 (some .int) :: bw) (xR 3 1 6) (va_Pc [.ref h0, .int p0, .int p1, .int p2] (xP D [] sz [(h0, .inr (0, [.ref (qa 0), .ref (qa 1), .ref (qa 2), .int 0]))])) (xQT "java/lang/IndexOutOfBoundsException" (va_A [(h0, .inr (0, [.ref (qa 0), .ref (qa 1), .ref (qa 2), .int 0]))] sz)) 1 6 (va_A [(h0, .inr (0, [.ref (qa 0), .ref (qa 1), .ref (qa 2), .int 0]))] sz) := by
  refine MetT.ofW (cc := b_OF_letter) (maxL := 5) (ret := (some .int)) (by decide) rfl ?_
  intro p e s m args below meth c s₁ B hml hno hv
  obtain ⟨rfl, hsz, hP, hK, hD0, hN, hZ⟩ := hv
  have hx := B.exec
  have hb := B.bytes
  have hr := B.returns
  have hlocks := B.notSynchronized
  have hts : ∀ w ∈ bw, w.before _ s = true := fun w h => atoms_spec (ws := Cond.code y_OF_letter b_OF_letter 5 (some .int) :: bw) B.pre w (List.mem_cons_of_mem _ h)
  have hown : s.vm.findClass "ObjectForge" = some m.cls := findClass_of_methodNamed B.named
  subst hsz
  have hP0 := hP
  have hD := hD0.self (sz := s.heap.size)
  generalize hAe : va_A [(h0, .inr (0, [.ref (qa 0), .ref (qa 1), .ref (qa 2), .int 0]))] s.heap.size = A at hD hZ ⊢
  have hA : ∀ q : Nat, s.heap.size ≤ q → A q := fun q h => by rw [← hAe]; exact Or.inr h
  have hS : va_S A s.heap s.heap [] := va_S.rf
  have hl := lv_entry ([.ref h0, .int p0, .int p1, .int p2]) (n := 5) (Nat.le_of_ble_eq_true rfl)
  rw [lg_entry_eq]
  generalize (lg_sl ([.ref h0, .int p0, .int p1, .int p2]) ++ List.replicate (5 - (lg_sl ([.ref h0, .int p0, .int p1, .int p2])).length) Slot.unset).toArray = ls at hl ⊢
  have hl : lv_has ls 5 [(0, .ref h0), (1, .int p0), (2, .int p1), (3, .int p2)] := hl
  refine lv_aload_n hx hb d_OF_letter_0 rfl (lv_at hl 0 rfl) ?_
  refine lv_iload_n hx hb d_OF_letter_1 rfl (lv_at hl 1 rfl) ?_
  refine xt_V (As := [.int p0]) (rest := []) (n := 1) (wc := [(h0, .inr (0, [.ref (qa 0), .ref (qa 1), .ref (qa 2), .int 0]))]) (wr := []) (tc := [])  ⟨hx, hb, hml, hown, hts⟩ (c_OF_unitNumbered_n l htr D h0 qa p0 hk s.heap.size) rfl rfl w_323 w_321 w_322 w_556 w_1 (by decide +kernel) ⟨Nat.le_of_ble_eq_true rfl, Nat.le_of_ble_eq_true rfl⟩ hP hD hK hS hA hN hZ [0] [] rfl rfl (by decide) (by decide) (by decide) [] rfl (ci := 0) (q0 := 0) (q := (R_OF, F_OF, 4)) rfl rfl rfl rfl hl.1 rfl (Nat.le_of_ble_eq_true rfl) d_OF_letter_2 ⟨Nat.le_of_ble_eq_true rfl, Nat.le_of_ble_eq_true rfl⟩ (fun x H locs hxn hcell hP hD hS => ?_)
  exact WT.out hno hlocks (fun t ht hW => ⟨⟨hxn, by rw [ht, hW.alike.findClass]; exact hcell⟩, hS.F ht⟩) hS.2.2

set_option maxHeartbeats 4000000 in
set_option maxRecDepth 100000 in
theorem c_OF_letter_g (l : Launch) (htr : l.stackTraces = false) (D : va_G) (h0 : Nat) (qa : Nat → Nat) (p0 p1 p2 : Int32) (hk : ¬ p0 < 0) (hg : ¬ p0 < 0) (sz : Nat) : MetT l y_OF_letter (Cond.code y_OF_letter b_OF_letter 5 (some .int) :: bw) (xR 3 1 6) (va_Pc [.ref h0, .int p0, .int p1, .int p2] (xP D [] sz [(h0, .inr (0, [.ref (qa 0), .ref (qa 1), .ref (qa 2), .int 0]))])) (xQT "java/lang/IndexOutOfBoundsException" (va_A [(h0, .inr (0, [.ref (qa 0), .ref (qa 1), .ref (qa 2), .int 0]))] sz)) 1 6 (va_A [(h0, .inr (0, [.ref (qa 0), .ref (qa 1), .ref (qa 2), .int 0]))] sz) := by
  refine MetT.ofW (cc := b_OF_letter) (maxL := 5) (ret := (some .int)) (by decide) rfl ?_
  intro p e s m args below meth c s₁ B hml hno hv
  obtain ⟨rfl, hsz, hP, hK, hD0, hN, hZ⟩ := hv
  have hx := B.exec
  have hb := B.bytes
  have hr := B.returns
  have hlocks := B.notSynchronized
  have hts : ∀ w ∈ bw, w.before _ s = true := fun w h => atoms_spec (ws := Cond.code y_OF_letter b_OF_letter 5 (some .int) :: bw) B.pre w (List.mem_cons_of_mem _ h)
  have hown : s.vm.findClass "ObjectForge" = some m.cls := findClass_of_methodNamed B.named
  subst hsz
  have hP0 := hP
  have hD := hD0.self (sz := s.heap.size)
  generalize hAe : va_A [(h0, .inr (0, [.ref (qa 0), .ref (qa 1), .ref (qa 2), .int 0]))] s.heap.size = A at hD hZ ⊢
  have hA : ∀ q : Nat, s.heap.size ≤ q → A q := fun q h => by rw [← hAe]; exact Or.inr h
  have hS : va_S A s.heap s.heap [] := va_S.rf
  have hl := lv_entry ([.ref h0, .int p0, .int p1, .int p2]) (n := 5) (Nat.le_of_ble_eq_true rfl)
  rw [lg_entry_eq]
  generalize (lg_sl ([.ref h0, .int p0, .int p1, .int p2]) ++ List.replicate (5 - (lg_sl ([.ref h0, .int p0, .int p1, .int p2])).length) Slot.unset).toArray = ls at hl ⊢
  have hl : lv_has ls 5 [(0, .ref h0), (1, .int p0), (2, .int p1), (3, .int p2)] := hl
  refine lv_aload_n hx hb d_OF_letter_0 rfl (lv_at hl 0 rfl) ?_
  refine lv_iload_n hx hb d_OF_letter_1 rfl (lv_at hl 1 rfl) ?_
  refine xt_V (As := [.int p0]) (rest := []) (n := 1) (wc := [(h0, .inr (0, [.ref (qa 0), .ref (qa 1), .ref (qa 2), .int 0]))]) (wr := []) (tc := [])  ⟨hx, hb, hml, hown, hts⟩ (c_OF_unitNumbered_g l htr D h0 qa p0 hk hg s.heap.size) rfl rfl w_323 w_321 w_322 w_556 w_1 (by decide +kernel) ⟨Nat.le_of_ble_eq_true rfl, Nat.le_of_ble_eq_true rfl⟩ hP hD hK hS hA hN hZ [0] [] rfl rfl (by decide) (by decide) (by decide) [] rfl (ci := 0) (q0 := 0) (q := (R_OF, F_OF, 4)) rfl rfl rfl rfl hl.1 rfl (Nat.le_of_ble_eq_true rfl) d_OF_letter_2 ⟨Nat.le_of_ble_eq_true rfl, Nat.le_of_ble_eq_true rfl⟩ (fun x H locs hxn hcell hP hD hS => ?_)
  exact WT.out hno hlocks (fun t ht hW => ⟨⟨hxn, by rw [ht, hW.alike.findClass]; exact hcell⟩, hS.F ht⟩) hS.2.2

theorem d_OF_relocation_0 : decode b_OF_relocation 0 = .ok (.aload_n 0, 1) := by decide +kernel
theorem d_OF_relocation_1 : decode b_OF_relocation 1 = .ok (.iload_n 1, 1) := by decide +kernel
theorem d_OF_relocation_2 : decode b_OF_relocation 2 = .ok (.invokevirtual 87, 3) := by decide +kernel
set_option maxHeartbeats 4000000 in
set_option maxRecDepth 100000 in
theorem c_OF_relocation_n (l : Launch) (htr : l.stackTraces = false) (D : va_G) (h0 : Nat) (qa : Nat → Nat) (p0 p1 p2 : Int32) (hk : p0 < 0) (sz : Nat) : MetT l y_OF_relocation (Cond.code y_OF_relocation b_OF_relocation 5 (some .int) :: bw) (xR 3 1 6) (va_Pc [.ref h0, .int p0, .int p1, .int p2] (xP D [] sz [(h0, .inr (0, [.ref (qa 0), .ref (qa 1), .ref (qa 2), .int 0]))])) (xQT "java/lang/IndexOutOfBoundsException" (va_A [(h0, .inr (0, [.ref (qa 0), .ref (qa 1), .ref (qa 2), .int 0]))] sz)) 1 6 (va_A [(h0, .inr (0, [.ref (qa 0), .ref (qa 1), .ref (qa 2), .int 0]))] sz) := by
  refine MetT.ofW (cc := b_OF_relocation) (maxL := 5) (ret := (some .int)) (by decide) rfl ?_
  intro p e s m args below meth c s₁ B hml hno hv
  obtain ⟨rfl, hsz, hP, hK, hD0, hN, hZ⟩ := hv
  have hx := B.exec
  have hb := B.bytes
  have hr := B.returns
  have hlocks := B.notSynchronized
  have hts : ∀ w ∈ bw, w.before _ s = true := fun w h => atoms_spec (ws := Cond.code y_OF_relocation b_OF_relocation 5 (some .int) :: bw) B.pre w (List.mem_cons_of_mem _ h)
  have hown : s.vm.findClass "ObjectForge" = some m.cls := findClass_of_methodNamed B.named
  subst hsz
  have hP0 := hP
  have hD := hD0.self (sz := s.heap.size)
  generalize hAe : va_A [(h0, .inr (0, [.ref (qa 0), .ref (qa 1), .ref (qa 2), .int 0]))] s.heap.size = A at hD hZ ⊢
  have hA : ∀ q : Nat, s.heap.size ≤ q → A q := fun q h => by rw [← hAe]; exact Or.inr h
  have hS : va_S A s.heap s.heap [] := va_S.rf
  have hl := lv_entry ([.ref h0, .int p0, .int p1, .int p2]) (n := 5) (Nat.le_of_ble_eq_true rfl)
  rw [lg_entry_eq]
  generalize (lg_sl ([.ref h0, .int p0, .int p1, .int p2]) ++ List.replicate (5 - (lg_sl ([.ref h0, .int p0, .int p1, .int p2])).length) Slot.unset).toArray = ls at hl ⊢
  have hl : lv_has ls 5 [(0, .ref h0), (1, .int p0), (2, .int p1), (3, .int p2)] := hl
  refine lv_aload_n hx hb d_OF_relocation_0 rfl (lv_at hl 0 rfl) ?_
  refine lv_iload_n hx hb d_OF_relocation_1 rfl (lv_at hl 1 rfl) ?_
  refine xt_V (As := [.int p0]) (rest := []) (n := 1) (wc := [(h0, .inr (0, [.ref (qa 0), .ref (qa 1), .ref (qa 2), .int 0]))]) (wr := []) (tc := [])  ⟨hx, hb, hml, hown, hts⟩ (c_OF_unitNumbered_n l htr D h0 qa p0 hk s.heap.size) rfl rfl w_323 w_321 w_322 w_556 w_1 (by decide +kernel) ⟨Nat.le_of_ble_eq_true rfl, Nat.le_of_ble_eq_true rfl⟩ hP hD hK hS hA hN hZ [0] [] rfl rfl (by decide) (by decide) (by decide) [] rfl (ci := 0) (q0 := 0) (q := (R_OF, F_OF, 4)) rfl rfl rfl rfl hl.1 rfl (Nat.le_of_ble_eq_true rfl) d_OF_relocation_2 ⟨Nat.le_of_ble_eq_true rfl, Nat.le_of_ble_eq_true rfl⟩ (fun x H locs hxn hcell hP hD hS => ?_)
  exact WT.out hno hlocks (fun t ht hW => ⟨⟨hxn, by rw [ht, hW.alike.findClass]; exact hcell⟩, hS.F ht⟩) hS.2.2

set_option maxHeartbeats 4000000 in
set_option maxRecDepth 100000 in
theorem c_OF_relocation_g (l : Launch) (htr : l.stackTraces = false) (D : va_G) (h0 : Nat) (qa : Nat → Nat) (p0 p1 p2 : Int32) (hk : ¬ p0 < 0) (hg : ¬ p0 < 0) (sz : Nat) : MetT l y_OF_relocation (Cond.code y_OF_relocation b_OF_relocation 5 (some .int) :: bw) (xR 3 1 6) (va_Pc [.ref h0, .int p0, .int p1, .int p2] (xP D [] sz [(h0, .inr (0, [.ref (qa 0), .ref (qa 1), .ref (qa 2), .int 0]))])) (xQT "java/lang/IndexOutOfBoundsException" (va_A [(h0, .inr (0, [.ref (qa 0), .ref (qa 1), .ref (qa 2), .int 0]))] sz)) 1 6 (va_A [(h0, .inr (0, [.ref (qa 0), .ref (qa 1), .ref (qa 2), .int 0]))] sz) := by
  refine MetT.ofW (cc := b_OF_relocation) (maxL := 5) (ret := (some .int)) (by decide) rfl ?_
  intro p e s m args below meth c s₁ B hml hno hv
  obtain ⟨rfl, hsz, hP, hK, hD0, hN, hZ⟩ := hv
  have hx := B.exec
  have hb := B.bytes
  have hr := B.returns
  have hlocks := B.notSynchronized
  have hts : ∀ w ∈ bw, w.before _ s = true := fun w h => atoms_spec (ws := Cond.code y_OF_relocation b_OF_relocation 5 (some .int) :: bw) B.pre w (List.mem_cons_of_mem _ h)
  have hown : s.vm.findClass "ObjectForge" = some m.cls := findClass_of_methodNamed B.named
  subst hsz
  have hP0 := hP
  have hD := hD0.self (sz := s.heap.size)
  generalize hAe : va_A [(h0, .inr (0, [.ref (qa 0), .ref (qa 1), .ref (qa 2), .int 0]))] s.heap.size = A at hD hZ ⊢
  have hA : ∀ q : Nat, s.heap.size ≤ q → A q := fun q h => by rw [← hAe]; exact Or.inr h
  have hS : va_S A s.heap s.heap [] := va_S.rf
  have hl := lv_entry ([.ref h0, .int p0, .int p1, .int p2]) (n := 5) (Nat.le_of_ble_eq_true rfl)
  rw [lg_entry_eq]
  generalize (lg_sl ([.ref h0, .int p0, .int p1, .int p2]) ++ List.replicate (5 - (lg_sl ([.ref h0, .int p0, .int p1, .int p2])).length) Slot.unset).toArray = ls at hl ⊢
  have hl : lv_has ls 5 [(0, .ref h0), (1, .int p0), (2, .int p1), (3, .int p2)] := hl
  refine lv_aload_n hx hb d_OF_relocation_0 rfl (lv_at hl 0 rfl) ?_
  refine lv_iload_n hx hb d_OF_relocation_1 rfl (lv_at hl 1 rfl) ?_
  refine xt_V (As := [.int p0]) (rest := []) (n := 1) (wc := [(h0, .inr (0, [.ref (qa 0), .ref (qa 1), .ref (qa 2), .int 0]))]) (wr := []) (tc := [])  ⟨hx, hb, hml, hown, hts⟩ (c_OF_unitNumbered_g l htr D h0 qa p0 hk hg s.heap.size) rfl rfl w_323 w_321 w_322 w_556 w_1 (by decide +kernel) ⟨Nat.le_of_ble_eq_true rfl, Nat.le_of_ble_eq_true rfl⟩ hP hD hK hS hA hN hZ [0] [] rfl rfl (by decide) (by decide) (by decide) [] rfl (ci := 0) (q0 := 0) (q := (R_OF, F_OF, 4)) rfl rfl rfl rfl hl.1 rfl (Nat.le_of_ble_eq_true rfl) d_OF_relocation_2 ⟨Nat.le_of_ble_eq_true rfl, Nat.le_of_ble_eq_true rfl⟩ (fun x H locs hxn hcell hP hD hS => ?_)
  exact WT.out hno hlocks (fun t ht hW => ⟨⟨hxn, by rw [ht, hW.alike.findClass]; exact hcell⟩, hS.F ht⟩) hS.2.2

theorem d_OF_address_0 : decode b_OF_address 0 = .ok (.aload_n 0, 1) := by decide +kernel
theorem d_OF_address_1 : decode b_OF_address 1 = .ok (.iload_n 1, 1) := by decide +kernel
theorem d_OF_address_2 : decode b_OF_address 2 = .ok (.invokevirtual 87, 3) := by decide +kernel
set_option maxHeartbeats 4000000 in
set_option maxRecDepth 100000 in
theorem c_OF_address_n (l : Launch) (htr : l.stackTraces = false) (D : va_G) (h0 : Nat) (qa : Nat → Nat) (p0 p1 : Int32) (hk : p0 < 0) (sz : Nat) : MetT l y_OF_address (Cond.code y_OF_address b_OF_address 4 (some .int) :: bw) (xR 3 1 6) (va_Pc [.ref h0, .int p0, .int p1] (xP D [] sz [(h0, .inr (0, [.ref (qa 0), .ref (qa 1), .ref (qa 2), .int 0]))])) (xQT "java/lang/IndexOutOfBoundsException" (va_A [(h0, .inr (0, [.ref (qa 0), .ref (qa 1), .ref (qa 2), .int 0]))] sz)) 1 6 (va_A [(h0, .inr (0, [.ref (qa 0), .ref (qa 1), .ref (qa 2), .int 0]))] sz) := by
  refine MetT.ofW (cc := b_OF_address) (maxL := 4) (ret := (some .int)) (by decide) rfl ?_
  intro p e s m args below meth c s₁ B hml hno hv
  obtain ⟨rfl, hsz, hP, hK, hD0, hN, hZ⟩ := hv
  have hx := B.exec
  have hb := B.bytes
  have hr := B.returns
  have hlocks := B.notSynchronized
  have hts : ∀ w ∈ bw, w.before _ s = true := fun w h => atoms_spec (ws := Cond.code y_OF_address b_OF_address 4 (some .int) :: bw) B.pre w (List.mem_cons_of_mem _ h)
  have hown : s.vm.findClass "ObjectForge" = some m.cls := findClass_of_methodNamed B.named
  subst hsz
  have hP0 := hP
  have hD := hD0.self (sz := s.heap.size)
  generalize hAe : va_A [(h0, .inr (0, [.ref (qa 0), .ref (qa 1), .ref (qa 2), .int 0]))] s.heap.size = A at hD hZ ⊢
  have hA : ∀ q : Nat, s.heap.size ≤ q → A q := fun q h => by rw [← hAe]; exact Or.inr h
  have hS : va_S A s.heap s.heap [] := va_S.rf
  have hl := lv_entry ([.ref h0, .int p0, .int p1]) (n := 4) (Nat.le_of_ble_eq_true rfl)
  rw [lg_entry_eq]
  generalize (lg_sl ([.ref h0, .int p0, .int p1]) ++ List.replicate (4 - (lg_sl ([.ref h0, .int p0, .int p1])).length) Slot.unset).toArray = ls at hl ⊢
  have hl : lv_has ls 4 [(0, .ref h0), (1, .int p0), (2, .int p1)] := hl
  refine lv_aload_n hx hb d_OF_address_0 rfl (lv_at hl 0 rfl) ?_
  refine lv_iload_n hx hb d_OF_address_1 rfl (lv_at hl 1 rfl) ?_
  refine xt_V (As := [.int p0]) (rest := []) (n := 1) (wc := [(h0, .inr (0, [.ref (qa 0), .ref (qa 1), .ref (qa 2), .int 0]))]) (wr := []) (tc := [])  ⟨hx, hb, hml, hown, hts⟩ (c_OF_unitNumbered_n l htr D h0 qa p0 hk s.heap.size) rfl rfl w_323 w_321 w_322 w_556 w_1 (by decide +kernel) ⟨Nat.le_of_ble_eq_true rfl, Nat.le_of_ble_eq_true rfl⟩ hP hD hK hS hA hN hZ [0] [] rfl rfl (by decide) (by decide) (by decide) [] rfl (ci := 0) (q0 := 0) (q := (R_OF, F_OF, 4)) rfl rfl rfl rfl hl.1 rfl (Nat.le_of_ble_eq_true rfl) d_OF_address_2 ⟨Nat.le_of_ble_eq_true rfl, Nat.le_of_ble_eq_true rfl⟩ (fun x H locs hxn hcell hP hD hS => ?_)
  exact WT.out hno hlocks (fun t ht hW => ⟨⟨hxn, by rw [ht, hW.alike.findClass]; exact hcell⟩, hS.F ht⟩) hS.2.2

set_option maxHeartbeats 4000000 in
set_option maxRecDepth 100000 in
theorem c_OF_address_g (l : Launch) (htr : l.stackTraces = false) (D : va_G) (h0 : Nat) (qa : Nat → Nat) (p0 p1 : Int32) (hk : ¬ p0 < 0) (hg : ¬ p0 < 0) (sz : Nat) : MetT l y_OF_address (Cond.code y_OF_address b_OF_address 4 (some .int) :: bw) (xR 3 1 6) (va_Pc [.ref h0, .int p0, .int p1] (xP D [] sz [(h0, .inr (0, [.ref (qa 0), .ref (qa 1), .ref (qa 2), .int 0]))])) (xQT "java/lang/IndexOutOfBoundsException" (va_A [(h0, .inr (0, [.ref (qa 0), .ref (qa 1), .ref (qa 2), .int 0]))] sz)) 1 6 (va_A [(h0, .inr (0, [.ref (qa 0), .ref (qa 1), .ref (qa 2), .int 0]))] sz) := by
  refine MetT.ofW (cc := b_OF_address) (maxL := 4) (ret := (some .int)) (by decide) rfl ?_
  intro p e s m args below meth c s₁ B hml hno hv
  obtain ⟨rfl, hsz, hP, hK, hD0, hN, hZ⟩ := hv
  have hx := B.exec
  have hb := B.bytes
  have hr := B.returns
  have hlocks := B.notSynchronized
  have hts : ∀ w ∈ bw, w.before _ s = true := fun w h => atoms_spec (ws := Cond.code y_OF_address b_OF_address 4 (some .int) :: bw) B.pre w (List.mem_cons_of_mem _ h)
  have hown : s.vm.findClass "ObjectForge" = some m.cls := findClass_of_methodNamed B.named
  subst hsz
  have hP0 := hP
  have hD := hD0.self (sz := s.heap.size)
  generalize hAe : va_A [(h0, .inr (0, [.ref (qa 0), .ref (qa 1), .ref (qa 2), .int 0]))] s.heap.size = A at hD hZ ⊢
  have hA : ∀ q : Nat, s.heap.size ≤ q → A q := fun q h => by rw [← hAe]; exact Or.inr h
  have hS : va_S A s.heap s.heap [] := va_S.rf
  have hl := lv_entry ([.ref h0, .int p0, .int p1]) (n := 4) (Nat.le_of_ble_eq_true rfl)
  rw [lg_entry_eq]
  generalize (lg_sl ([.ref h0, .int p0, .int p1]) ++ List.replicate (4 - (lg_sl ([.ref h0, .int p0, .int p1])).length) Slot.unset).toArray = ls at hl ⊢
  have hl : lv_has ls 4 [(0, .ref h0), (1, .int p0), (2, .int p1)] := hl
  refine lv_aload_n hx hb d_OF_address_0 rfl (lv_at hl 0 rfl) ?_
  refine lv_iload_n hx hb d_OF_address_1 rfl (lv_at hl 1 rfl) ?_
  refine xt_V (As := [.int p0]) (rest := []) (n := 1) (wc := [(h0, .inr (0, [.ref (qa 0), .ref (qa 1), .ref (qa 2), .int 0]))]) (wr := []) (tc := [])  ⟨hx, hb, hml, hown, hts⟩ (c_OF_unitNumbered_g l htr D h0 qa p0 hk hg s.heap.size) rfl rfl w_323 w_321 w_322 w_556 w_1 (by decide +kernel) ⟨Nat.le_of_ble_eq_true rfl, Nat.le_of_ble_eq_true rfl⟩ hP hD hK hS hA hN hZ [0] [] rfl rfl (by decide) (by decide) (by decide) [] rfl (ci := 0) (q0 := 0) (q := (R_OF, F_OF, 4)) rfl rfl rfl rfl hl.1 rfl (Nat.le_of_ble_eq_true rfl) d_OF_address_2 ⟨Nat.le_of_ble_eq_true rfl, Nat.le_of_ble_eq_true rfl⟩ (fun x H locs hxn hcell hP hD hS => ?_)
  exact WT.out hno hlocks (fun t ht hW => ⟨⟨hxn, by rw [ht, hW.alike.findClass]; exact hcell⟩, hS.F ht⟩) hS.2.2

theorem d_OF_end_0 : decode b_OF_end 0 = .ok (.aload_n 0, 1) := by decide +kernel
theorem d_OF_end_1 : decode b_OF_end 1 = .ok (.getfield 10, 3) := by decide +kernel
theorem d_OF_end_4 : decode b_OF_end 4 = .ok (.getfield 34, 3) := by decide +kernel
theorem d_OF_end_7 : decode b_OF_end 7 = .ok (.astore_n 2, 1) := by decide +kernel
theorem d_OF_end_8 : decode b_OF_end 8 = .ok (.iload_n 1, 1) := by decide +kernel
theorem d_OF_end_9 : decode b_OF_end 9 = .ok (.ifCond .lt 17, 3) := by decide +kernel
theorem d_OF_end_12 : decode b_OF_end 12 = .ok (.iload_n 1, 1) := by decide +kernel
theorem d_OF_end_13 : decode b_OF_end 13 = .ok (.bipush 15, 2) := by decide +kernel
theorem d_OF_end_15 : decode b_OF_end 15 = .ok (.if_icmp .gt 11, 3) := by decide +kernel
theorem d_OF_end_18 : decode b_OF_end 18 = .ok (.iload_n 1, 1) := by decide +kernel
theorem d_OF_end_19 : decode b_OF_end 19 = .ok (.aload_n 2, 1) := by decide +kernel
theorem d_OF_end_20 : decode b_OF_end 20 = .ok (.getfield 38, 3) := by decide +kernel
theorem d_OF_end_23 : decode b_OF_end 23 = .ok (.if_icmp .le 13, 3) := by decide +kernel
theorem d_OF_end_36 : decode b_OF_end 36 = .ok (.aload_n 2, 1) := by decide +kernel
theorem d_OF_end_37 : decode b_OF_end 37 = .ok (.dup, 1) := by decide +kernel
theorem d_OF_end_38 : decode b_OF_end 38 = .ok (.getfield 38, 3) := by decide +kernel
theorem d_OF_end_41 : decode b_OF_end 41 = .ok (.iload_n 1, 1) := by decide +kernel
theorem d_OF_end_42 : decode b_OF_end 42 = .ok (.isub, 1) := by decide +kernel
theorem d_OF_end_43 : decode b_OF_end 43 = .ok (.putfield 38, 3) := by decide +kernel
theorem d_OF_end_46 : decode b_OF_end 46 = .ok (.aload_n 2, 1) := by decide +kernel
theorem d_OF_end_47 : decode b_OF_end 47 = .ok (.getfield 38, 3) := by decide +kernel
theorem d_OF_end_50 : decode b_OF_end 50 = .ok (.ireturn, 1) := by decide +kernel
set_option maxHeartbeats 4000000 in
set_option maxRecDepth 100000 in
theorem c_OF_end_0 (l : Launch) (D : va_G) (h0 : Nat) (qa : Nat → Nat) (sz : Nat) : Met l y_OF_end (Cond.code y_OF_end b_OF_end 3 (some .int) :: bw) (xR 1 0 0) (va_Pc [.ref h0, .int 0] (xP D [] sz [(h0, .inr (0, [.ref (qa 0), .ref (qa 1), .ref (qa 2), .int 0])), ((qa 0), .inr (1, [.ref (qa 3), .ref (qa 4), .int 0, .int 0, .int 0, .int 0, .int 0, .int (-1), .long 0, .int 0, .int 0, .int 0, .int 0, .int (-1), .int (-1)])), ((qa 3), .inr (4, [.ref (qa 5), .int 0, .int 0, .int 0, .ref (qa 6), .ref (qa 7), .ref (qa 8)]))])) (xQ (S := Unit) (fun _ => some (.int 0)) (fun _ => [(h0, .inr (0, [.ref (qa 0), .ref (qa 1), .ref (qa 2), .int 0])), ((qa 0), .inr (1, [.ref (qa 3), .ref (qa 4), .int 0, .int 0, .int 0, .int 0, .int 0, .int (-1), .long 0, .int 0, .int 0, .int 0, .int 0, .int (-1), .int (-1)])), ((qa 3), .inr (4, [.ref (qa 5), .int 0, .int 0, .int 0, .ref (qa 6), .ref (qa 7), .ref (qa 8)]))]) (fun _ => []) D (va_A [(h0, .inr (0, [.ref (qa 0), .ref (qa 1), .ref (qa 2), .int 0])), ((qa 0), .inr (1, [.ref (qa 3), .ref (qa 4), .int 0, .int 0, .int 0, .int 0, .int 0, .int (-1), .long 0, .int 0, .int 0, .int 0, .int 0, .int (-1), .int (-1)])), ((qa 3), .inr (4, [.ref (qa 5), .int 0, .int 0, .int 0, .ref (qa 6), .ref (qa 7), .ref (qa 8)]))] sz)) 0 0 (va_A [(h0, .inr (0, [.ref (qa 0), .ref (qa 1), .ref (qa 2), .int 0])), ((qa 0), .inr (1, [.ref (qa 3), .ref (qa 4), .int 0, .int 0, .int 0, .int 0, .int 0, .int (-1), .long 0, .int 0, .int 0, .int 0, .int 0, .int (-1), .int (-1)])), ((qa 3), .inr (4, [.ref (qa 5), .int 0, .int 0, .int 0, .ref (qa 6), .ref (qa 7), .ref (qa 8)]))] sz) := by
  refine Met.ofW (cc := b_OF_end) (maxL := 3) (ret := (some .int)) (by decide) rfl ?_
  intro p e s m args below meth c s₁ B hml hv
  obtain ⟨rfl, hsz, hP, hK, hD0, hN, hZ⟩ := hv
  have hx := B.exec
  have hb := B.bytes
  have hr := B.returns
  have hlocks := B.notSynchronized
  have hts : ∀ w ∈ bw, w.before _ s = true := fun w h => atoms_spec (ws := Cond.code y_OF_end b_OF_end 3 (some .int) :: bw) B.pre w (List.mem_cons_of_mem _ h)
  have hown : s.vm.findClass "ObjectForge" = some m.cls := findClass_of_methodNamed B.named
  subst hsz
  have hP0 := hP
  have hD := hD0.self (sz := s.heap.size)
  generalize hAe : va_A [(h0, .inr (0, [.ref (qa 0), .ref (qa 1), .ref (qa 2), .int 0])), ((qa 0), .inr (1, [.ref (qa 3), .ref (qa 4), .int 0, .int 0, .int 0, .int 0, .int 0, .int (-1), .long 0, .int 0, .int 0, .int 0, .int 0, .int (-1), .int (-1)])), ((qa 3), .inr (4, [.ref (qa 5), .int 0, .int 0, .int 0, .ref (qa 6), .ref (qa 7), .ref (qa 8)]))] s.heap.size = A at hD hZ ⊢
  have hA : ∀ q : Nat, s.heap.size ≤ q → A q := fun q h => by rw [← hAe]; exact Or.inr h
  have hS : va_S A s.heap s.heap [] := va_S.rf
  have hl := lv_entry ([.ref h0, .int 0]) (n := 3) (Nat.le_of_ble_eq_true rfl)
  rw [lg_entry_eq]
  generalize (lg_sl ([.ref h0, .int 0]) ++ List.replicate (3 - (lg_sl ([.ref h0, .int 0])).length) Slot.unset).toArray = ls at hl ⊢
  have hl : lv_has ls 3 [(0, .ref h0), (1, .int 0)] := hl
  refine lv_aload_n hx hb d_OF_end_0 rfl (lv_at hl 0 rfl) ?_
  refine va_get (D := D) (ci := 0) (v := .ref (qa 0)) (C := R_OF) (T := F_OF) (N := 4) hx hb hts i_OF hown hK hP 0 rfl rfl 0 (by decide) (hts _ w_150) (fun _ h9 => h9) rfl d_OF_end_1 ?_
  refine va_get (D := D) (ci := 1) (v := .ref (qa 3)) (C := R_As) (T := F_As) (N := 15) hx hb hts i_As hown hK hP 1 rfl rfl 0 (by decide) (hts _ w_114) (fun _ h9 => h9) rfl d_OF_end_4 ?_
  refine lv_astore_n (lv' := [(2, .ref (qa 3)), (0, .ref h0), (1, .int 0)]) hx hb d_OF_end_7 rfl hl (by decide) rfl (fun ls hl => ?_)
  refine lv_iload_n hx hb d_OF_end_8 rfl (lv_at hl 2 rfl) ?_
  refine lv_if_lt (tgt := 26) hx hb d_OF_end_9 (by decide) (fun q9 => absurd q9 (by decide : ¬ ((0 : Int32) < 0))) (fun _ => ?_)
  refine lv_iload_n hx hb d_OF_end_12 rfl (lv_at hl 2 rfl) ?_
  refine lv_bipush (v := 15) hx hb d_OF_end_13 (by decide) ?_
  refine lv_icmp_gt (tgt := 26) hx hb d_OF_end_15 (by decide) (fun q9 => absurd q9 (by decide : ¬ ((15 : Int32) < 0))) (fun _ => ?_)
  refine lv_iload_n hx hb d_OF_end_18 rfl (lv_at hl 2 rfl) ?_
  refine lv_aload_n hx hb d_OF_end_19 rfl (lv_at hl 0 rfl) ?_
  refine va_get (D := D) (ci := 4) (v := .int 0) (C := R_So) (T := F_So) (N := 7) hx hb hts i_So hown hK hP 2 rfl rfl 1 (by decide) (hts _ w_36) (fun _ h9 => h9) rfl d_OF_end_20 ?_
  refine lv_icmp_le (tgt := 36) hx hb d_OF_end_23 (by decide) (fun _ => ?_) (fun q9 => absurd (by decide : ((0 : Int32) ≤ 0)) q9)
  refine lv_aload_n hx hb d_OF_end_36 rfl (lv_at hl 0 rfl) ?_
  refine lv_dup hx hb d_OF_end_37 rfl ?_
  refine va_get (D := D) (ci := 4) (v := .int 0) (C := R_So) (T := F_So) (N := 7) hx hb hts i_So hown hK hP 2 rfl rfl 1 (by decide) (hts _ w_36) (fun _ h9 => h9) rfl d_OF_end_38 ?_
  refine lv_iload_n hx hb d_OF_end_41 rfl (lv_at hl 2 rfl) ?_
  refine lv_isub hx hb d_OF_end_42 ?_
  refine lv_topi (fun z1 ez1 => ?_)
  obtain rfl : z1 = 0 := ez1.trans (by decide)
  refine va_put (D := D) (ci := 4) (v := .int 0) (ty := .int) (C := R_So) (T := F_So) (N := 7) hx hb hts i_So t_So t_So_ok n_So hown hK hP hD hS 2 rfl rfl 1 (by decide) (hts _ w_36) (fun _ h9 => h9) rfl (by decide +kernel) rfl rfl (Nat.le_of_ble_eq_true rfl) d_OF_end_43 (fun H locs hP hD hS => ?_)
  have hP : va_P D cls [(h0, .inr (0, [.ref (qa 0), .ref (qa 1), .ref (qa 2), .int 0])), ((qa 0), .inr (1, [.ref (qa 3), .ref (qa 4), .int 0, .int 0, .int 0, .int 0, .int 0, .int (-1), .long 0, .int 0, .int 0, .int 0, .int 0, .int (-1), .int (-1)])), ((qa 3), .inr (4, [.ref (qa 5), .int 0, .int 0, .int 0, .ref (qa 6), .ref (qa 7), .ref (qa 8)]))] H := hP
  have hD : va_D A [(h0, .inr (0, [.ref (qa 0), .ref (qa 1), .ref (qa 2), .int 0])), ((qa 0), .inr (1, [.ref (qa 3), .ref (qa 4), .int 0, .int 0, .int 0, .int 0, .int 0, .int (-1), .long 0, .int 0, .int 0, .int 0, .int 0, .int (-1), .int (-1)])), ((qa 3), .inr (4, [.ref (qa 5), .int 0, .int 0, .int 0, .ref (qa 6), .ref (qa 7), .ref (qa 8)]))] := hD
  refine lv_aload_n hx hb d_OF_end_46 rfl (lv_at hl 0 rfl) ?_
  refine va_get (D := D) (ci := 4) (v := .int 0) (C := R_So) (T := F_So) (N := 7) hx hb hts i_So hown hK hP 2 rfl rfl 1 (by decide) (hts _ w_36) (fun _ h9 => h9) rfl d_OF_end_47 ?_
  exact xr_i hx hb hr hlocks hP hD hK hS (()) [0, 1, 2] rfl rfl (by decide) [] rfl rfl d_OF_end_50

theorem d_OF_end_26 : decode b_OF_end 26 = .ok (.new 54, 3) := by decide +kernel
theorem d_OF_end_29 : decode b_OF_end 29 = .ok (.dup, 1) := by decide +kernel
theorem d_OF_end_30 : decode b_OF_end 30 = .ok (.ldc 56, 2) := by decide +kernel
theorem d_OF_end_32 : decode b_OF_end 32 = .ok (.invokespecial 58, 3) := by decide +kernel
theorem d_OF_end_35 : decode b_OF_end 35 = .ok (.athrow, 1) := by decide +kernel
set_option maxHeartbeats 4000000 in
set_option maxRecDepth 100000 in
theorem c_OF_end_n (l : Launch) (htr : l.stackTraces = false) (D : va_G) (h0 : Nat) (qa : Nat → Nat) (p0 : Int32) (h1 : p0 < 0) (sz : Nat) : MetT l y_OF_end (Cond.code y_OF_end b_OF_end 3 (some .int) :: bw) (xR 1 1 6) (va_Pc [.ref h0, .int p0] (xP D [] sz [(h0, .inr (0, [.ref (qa 0), .ref (qa 1), .ref (qa 2), .int 0])), ((qa 0), .inr (1, [.ref (qa 3), .ref (qa 4), .int 0, .int 0, .int 0, .int 0, .int 0, .int (-1), .long 0, .int 0, .int 0, .int 0, .int 0, .int (-1), .int (-1)])), ((qa 3), .inr (4, [.ref (qa 5), .int 0, .int 0, .int 0, .ref (qa 6), .ref (qa 7), .ref (qa 8)]))])) (xQT "java/lang/IllegalArgumentException" (va_A [(h0, .inr (0, [.ref (qa 0), .ref (qa 1), .ref (qa 2), .int 0])), ((qa 0), .inr (1, [.ref (qa 3), .ref (qa 4), .int 0, .int 0, .int 0, .int 0, .int 0, .int (-1), .long 0, .int 0, .int 0, .int 0, .int 0, .int (-1), .int (-1)])), ((qa 3), .inr (4, [.ref (qa 5), .int 0, .int 0, .int 0, .ref (qa 6), .ref (qa 7), .ref (qa 8)]))] sz)) 1 6 (va_A [(h0, .inr (0, [.ref (qa 0), .ref (qa 1), .ref (qa 2), .int 0])), ((qa 0), .inr (1, [.ref (qa 3), .ref (qa 4), .int 0, .int 0, .int 0, .int 0, .int 0, .int (-1), .long 0, .int 0, .int 0, .int 0, .int 0, .int (-1), .int (-1)])), ((qa 3), .inr (4, [.ref (qa 5), .int 0, .int 0, .int 0, .ref (qa 6), .ref (qa 7), .ref (qa 8)]))] sz) := by
  refine MetT.ofW (cc := b_OF_end) (maxL := 3) (ret := (some .int)) (by decide) rfl ?_
  intro p e s m args below meth c s₁ B hml hno hv
  obtain ⟨rfl, hsz, hP, hK, hD0, hN, hZ⟩ := hv
  have hx := B.exec
  have hb := B.bytes
  have hr := B.returns
  have hlocks := B.notSynchronized
  have hts : ∀ w ∈ bw, w.before _ s = true := fun w h => atoms_spec (ws := Cond.code y_OF_end b_OF_end 3 (some .int) :: bw) B.pre w (List.mem_cons_of_mem _ h)
  have hown : s.vm.findClass "ObjectForge" = some m.cls := findClass_of_methodNamed B.named
  subst hsz
  have hP0 := hP
  have hD := hD0.self (sz := s.heap.size)
  generalize hAe : va_A [(h0, .inr (0, [.ref (qa 0), .ref (qa 1), .ref (qa 2), .int 0])), ((qa 0), .inr (1, [.ref (qa 3), .ref (qa 4), .int 0, .int 0, .int 0, .int 0, .int 0, .int (-1), .long 0, .int 0, .int 0, .int 0, .int 0, .int (-1), .int (-1)])), ((qa 3), .inr (4, [.ref (qa 5), .int 0, .int 0, .int 0, .ref (qa 6), .ref (qa 7), .ref (qa 8)]))] s.heap.size = A at hD hZ ⊢
  have hA : ∀ q : Nat, s.heap.size ≤ q → A q := fun q h => by rw [← hAe]; exact Or.inr h
  have hS : va_S A s.heap s.heap [] := va_S.rf
  have hl := lv_entry ([.ref h0, .int p0]) (n := 3) (Nat.le_of_ble_eq_true rfl)
  rw [lg_entry_eq]
  generalize (lg_sl ([.ref h0, .int p0]) ++ List.replicate (3 - (lg_sl ([.ref h0, .int p0])).length) Slot.unset).toArray = ls at hl ⊢
  have hl : lv_has ls 3 [(0, .ref h0), (1, .int p0)] := hl
  refine lv_aload_n hx hb d_OF_end_0 rfl (lv_at hl 0 rfl) ?_
  refine va_get (D := D) (ci := 0) (v := .ref (qa 0)) (C := R_OF) (T := F_OF) (N := 4) hx hb hts i_OF hown hK hP 0 rfl rfl 0 (by decide) (hts _ w_150) (fun _ h9 => h9) rfl d_OF_end_1 ?_
  refine va_get (D := D) (ci := 1) (v := .ref (qa 3)) (C := R_As) (T := F_As) (N := 15) hx hb hts i_As hown hK hP 1 rfl rfl 0 (by decide) (hts _ w_114) (fun _ h9 => h9) rfl d_OF_end_4 ?_
  refine lv_astore_n (lv' := [(2, .ref (qa 3)), (0, .ref h0), (1, .int p0)]) hx hb d_OF_end_7 rfl hl (by decide) rfl (fun ls hl => ?_)
  refine lv_iload_n hx hb d_OF_end_8 rfl (lv_at hl 2 rfl) ?_
  refine lv_if_lt (tgt := 26) hx hb d_OF_end_9 (by decide) (fun _ => ?_) (fun q9 => absurd h1 q9)
  exact x_throw (tx := "not 0 to 15, or not so many") hx hb hml hown hts hN hZ htr hno hlocks own_iae (by decide +kernel) w_230 w_231 w_13 (by simp [xnS]) hS (by simp) hl.1 (Nat.le_of_ble_eq_true rfl) (Nat.le_of_ble_eq_true rfl) (Nat.le_of_ble_eq_true rfl) (Nat.le_of_ble_eq_true rfl) d_OF_end_26 d_OF_end_29 d_OF_end_30 d_OF_end_32 d_OF_end_35

set_option maxHeartbeats 4000000 in
set_option maxRecDepth 100000 in
theorem c_OF_end_b (l : Launch) (htr : l.stackTraces = false) (D : va_G) (h0 : Nat) (qa : Nat → Nat) (p0 : Int32) (h1 : ¬ p0 < 0) (h2 : 15 < p0) (sz : Nat) : MetT l y_OF_end (Cond.code y_OF_end b_OF_end 3 (some .int) :: bw) (xR 1 1 6) (va_Pc [.ref h0, .int p0] (xP D [] sz [(h0, .inr (0, [.ref (qa 0), .ref (qa 1), .ref (qa 2), .int 0])), ((qa 0), .inr (1, [.ref (qa 3), .ref (qa 4), .int 0, .int 0, .int 0, .int 0, .int 0, .int (-1), .long 0, .int 0, .int 0, .int 0, .int 0, .int (-1), .int (-1)])), ((qa 3), .inr (4, [.ref (qa 5), .int 0, .int 0, .int 0, .ref (qa 6), .ref (qa 7), .ref (qa 8)]))])) (xQT "java/lang/IllegalArgumentException" (va_A [(h0, .inr (0, [.ref (qa 0), .ref (qa 1), .ref (qa 2), .int 0])), ((qa 0), .inr (1, [.ref (qa 3), .ref (qa 4), .int 0, .int 0, .int 0, .int 0, .int 0, .int (-1), .long 0, .int 0, .int 0, .int 0, .int 0, .int (-1), .int (-1)])), ((qa 3), .inr (4, [.ref (qa 5), .int 0, .int 0, .int 0, .ref (qa 6), .ref (qa 7), .ref (qa 8)]))] sz)) 1 6 (va_A [(h0, .inr (0, [.ref (qa 0), .ref (qa 1), .ref (qa 2), .int 0])), ((qa 0), .inr (1, [.ref (qa 3), .ref (qa 4), .int 0, .int 0, .int 0, .int 0, .int 0, .int (-1), .long 0, .int 0, .int 0, .int 0, .int 0, .int (-1), .int (-1)])), ((qa 3), .inr (4, [.ref (qa 5), .int 0, .int 0, .int 0, .ref (qa 6), .ref (qa 7), .ref (qa 8)]))] sz) := by
  refine MetT.ofW (cc := b_OF_end) (maxL := 3) (ret := (some .int)) (by decide) rfl ?_
  intro p e s m args below meth c s₁ B hml hno hv
  obtain ⟨rfl, hsz, hP, hK, hD0, hN, hZ⟩ := hv
  have hx := B.exec
  have hb := B.bytes
  have hr := B.returns
  have hlocks := B.notSynchronized
  have hts : ∀ w ∈ bw, w.before _ s = true := fun w h => atoms_spec (ws := Cond.code y_OF_end b_OF_end 3 (some .int) :: bw) B.pre w (List.mem_cons_of_mem _ h)
  have hown : s.vm.findClass "ObjectForge" = some m.cls := findClass_of_methodNamed B.named
  subst hsz
  have hP0 := hP
  have hD := hD0.self (sz := s.heap.size)
  generalize hAe : va_A [(h0, .inr (0, [.ref (qa 0), .ref (qa 1), .ref (qa 2), .int 0])), ((qa 0), .inr (1, [.ref (qa 3), .ref (qa 4), .int 0, .int 0, .int 0, .int 0, .int 0, .int (-1), .long 0, .int 0, .int 0, .int 0, .int 0, .int (-1), .int (-1)])), ((qa 3), .inr (4, [.ref (qa 5), .int 0, .int 0, .int 0, .ref (qa 6), .ref (qa 7), .ref (qa 8)]))] s.heap.size = A at hD hZ ⊢
  have hA : ∀ q : Nat, s.heap.size ≤ q → A q := fun q h => by rw [← hAe]; exact Or.inr h
  have hS : va_S A s.heap s.heap [] := va_S.rf
  have hl := lv_entry ([.ref h0, .int p0]) (n := 3) (Nat.le_of_ble_eq_true rfl)
  rw [lg_entry_eq]
  generalize (lg_sl ([.ref h0, .int p0]) ++ List.replicate (3 - (lg_sl ([.ref h0, .int p0])).length) Slot.unset).toArray = ls at hl ⊢
  have hl : lv_has ls 3 [(0, .ref h0), (1, .int p0)] := hl
  refine lv_aload_n hx hb d_OF_end_0 rfl (lv_at hl 0 rfl) ?_
  refine va_get (D := D) (ci := 0) (v := .ref (qa 0)) (C := R_OF) (T := F_OF) (N := 4) hx hb hts i_OF hown hK hP 0 rfl rfl 0 (by decide) (hts _ w_150) (fun _ h9 => h9) rfl d_OF_end_1 ?_
  refine va_get (D := D) (ci := 1) (v := .ref (qa 3)) (C := R_As) (T := F_As) (N := 15) hx hb hts i_As hown hK hP 1 rfl rfl 0 (by decide) (hts _ w_114) (fun _ h9 => h9) rfl d_OF_end_4 ?_
  refine lv_astore_n (lv' := [(2, .ref (qa 3)), (0, .ref h0), (1, .int p0)]) hx hb d_OF_end_7 rfl hl (by decide) rfl (fun ls hl => ?_)
  refine lv_iload_n hx hb d_OF_end_8 rfl (lv_at hl 2 rfl) ?_
  refine lv_if_lt (tgt := 26) hx hb d_OF_end_9 (by decide) (fun q9 => absurd q9 h1) (fun _ => ?_)
  refine lv_iload_n hx hb d_OF_end_12 rfl (lv_at hl 2 rfl) ?_
  refine lv_bipush (v := 15) hx hb d_OF_end_13 (by decide) ?_
  refine lv_icmp_gt (tgt := 26) hx hb d_OF_end_15 (by decide) (fun _ => ?_) (fun q9 => absurd h2 q9)
  exact x_throw (tx := "not 0 to 15, or not so many") hx hb hml hown hts hN hZ htr hno hlocks own_iae (by decide +kernel) w_230 w_231 w_13 (by simp [xnS]) hS (by simp) hl.1 (Nat.le_of_ble_eq_true rfl) (Nat.le_of_ble_eq_true rfl) (Nat.le_of_ble_eq_true rfl) (Nat.le_of_ble_eq_true rfl) d_OF_end_26 d_OF_end_29 d_OF_end_30 d_OF_end_32 d_OF_end_35

set_option maxHeartbeats 4000000 in
set_option maxRecDepth 100000 in
theorem c_OF_end_g (l : Launch) (htr : l.stackTraces = false) (D : va_G) (h0 : Nat) (qa : Nat → Nat) (p0 : Int32) (h1 : ¬ p0 < 0) (h2 : ¬ 15 < p0) (h3 : ¬ p0 ≤ 0) (sz : Nat) : MetT l y_OF_end (Cond.code y_OF_end b_OF_end 3 (some .int) :: bw) (xR 1 1 6) (va_Pc [.ref h0, .int p0] (xP D [] sz [(h0, .inr (0, [.ref (qa 0), .ref (qa 1), .ref (qa 2), .int 0])), ((qa 0), .inr (1, [.ref (qa 3), .ref (qa 4), .int 0, .int 0, .int 0, .int 0, .int 0, .int (-1), .long 0, .int 0, .int 0, .int 0, .int 0, .int (-1), .int (-1)])), ((qa 3), .inr (4, [.ref (qa 5), .int 0, .int 0, .int 0, .ref (qa 6), .ref (qa 7), .ref (qa 8)]))])) (xQT "java/lang/IllegalArgumentException" (va_A [(h0, .inr (0, [.ref (qa 0), .ref (qa 1), .ref (qa 2), .int 0])), ((qa 0), .inr (1, [.ref (qa 3), .ref (qa 4), .int 0, .int 0, .int 0, .int 0, .int 0, .int (-1), .long 0, .int 0, .int 0, .int 0, .int 0, .int (-1), .int (-1)])), ((qa 3), .inr (4, [.ref (qa 5), .int 0, .int 0, .int 0, .ref (qa 6), .ref (qa 7), .ref (qa 8)]))] sz)) 1 6 (va_A [(h0, .inr (0, [.ref (qa 0), .ref (qa 1), .ref (qa 2), .int 0])), ((qa 0), .inr (1, [.ref (qa 3), .ref (qa 4), .int 0, .int 0, .int 0, .int 0, .int 0, .int (-1), .long 0, .int 0, .int 0, .int 0, .int 0, .int (-1), .int (-1)])), ((qa 3), .inr (4, [.ref (qa 5), .int 0, .int 0, .int 0, .ref (qa 6), .ref (qa 7), .ref (qa 8)]))] sz) := by
  refine MetT.ofW (cc := b_OF_end) (maxL := 3) (ret := (some .int)) (by decide) rfl ?_
  intro p e s m args below meth c s₁ B hml hno hv
  obtain ⟨rfl, hsz, hP, hK, hD0, hN, hZ⟩ := hv
  have hx := B.exec
  have hb := B.bytes
  have hr := B.returns
  have hlocks := B.notSynchronized
  have hts : ∀ w ∈ bw, w.before _ s = true := fun w h => atoms_spec (ws := Cond.code y_OF_end b_OF_end 3 (some .int) :: bw) B.pre w (List.mem_cons_of_mem _ h)
  have hown : s.vm.findClass "ObjectForge" = some m.cls := findClass_of_methodNamed B.named
  subst hsz
  have hP0 := hP
  have hD := hD0.self (sz := s.heap.size)
  generalize hAe : va_A [(h0, .inr (0, [.ref (qa 0), .ref (qa 1), .ref (qa 2), .int 0])), ((qa 0), .inr (1, [.ref (qa 3), .ref (qa 4), .int 0, .int 0, .int 0, .int 0, .int 0, .int (-1), .long 0, .int 0, .int 0, .int 0, .int 0, .int (-1), .int (-1)])), ((qa 3), .inr (4, [.ref (qa 5), .int 0, .int 0, .int 0, .ref (qa 6), .ref (qa 7), .ref (qa 8)]))] s.heap.size = A at hD hZ ⊢
  have hA : ∀ q : Nat, s.heap.size ≤ q → A q := fun q h => by rw [← hAe]; exact Or.inr h
  have hS : va_S A s.heap s.heap [] := va_S.rf
  have hl := lv_entry ([.ref h0, .int p0]) (n := 3) (Nat.le_of_ble_eq_true rfl)
  rw [lg_entry_eq]
  generalize (lg_sl ([.ref h0, .int p0]) ++ List.replicate (3 - (lg_sl ([.ref h0, .int p0])).length) Slot.unset).toArray = ls at hl ⊢
  have hl : lv_has ls 3 [(0, .ref h0), (1, .int p0)] := hl
  refine lv_aload_n hx hb d_OF_end_0 rfl (lv_at hl 0 rfl) ?_
  refine va_get (D := D) (ci := 0) (v := .ref (qa 0)) (C := R_OF) (T := F_OF) (N := 4) hx hb hts i_OF hown hK hP 0 rfl rfl 0 (by decide) (hts _ w_150) (fun _ h9 => h9) rfl d_OF_end_1 ?_
  refine va_get (D := D) (ci := 1) (v := .ref (qa 3)) (C := R_As) (T := F_As) (N := 15) hx hb hts i_As hown hK hP 1 rfl rfl 0 (by decide) (hts _ w_114) (fun _ h9 => h9) rfl d_OF_end_4 ?_
  refine lv_astore_n (lv' := [(2, .ref (qa 3)), (0, .ref h0), (1, .int p0)]) hx hb d_OF_end_7 rfl hl (by decide) rfl (fun ls hl => ?_)
  refine lv_iload_n hx hb d_OF_end_8 rfl (lv_at hl 2 rfl) ?_
  refine lv_if_lt (tgt := 26) hx hb d_OF_end_9 (by decide) (fun q9 => absurd q9 h1) (fun _ => ?_)
  refine lv_iload_n hx hb d_OF_end_12 rfl (lv_at hl 2 rfl) ?_
  refine lv_bipush (v := 15) hx hb d_OF_end_13 (by decide) ?_
  refine lv_icmp_gt (tgt := 26) hx hb d_OF_end_15 (by decide) (fun q9 => absurd q9 h2) (fun _ => ?_)
  refine lv_iload_n hx hb d_OF_end_18 rfl (lv_at hl 2 rfl) ?_
  refine lv_aload_n hx hb d_OF_end_19 rfl (lv_at hl 0 rfl) ?_
  refine va_get (D := D) (ci := 4) (v := .int 0) (C := R_So) (T := F_So) (N := 7) hx hb hts i_So hown hK hP 2 rfl rfl 1 (by decide) (hts _ w_36) (fun _ h9 => h9) rfl d_OF_end_20 ?_
  refine lv_icmp_le (tgt := 36) hx hb d_OF_end_23 (by decide) (fun q9 => absurd q9 h3) (fun _ => ?_)
  exact x_throw (tx := "not 0 to 15, or not so many") hx hb hml hown hts hN hZ htr hno hlocks own_iae (by decide +kernel) w_230 w_231 w_13 (by simp [xnS]) hS (by simp) hl.1 (Nat.le_of_ble_eq_true rfl) (Nat.le_of_ble_eq_true rfl) (Nat.le_of_ble_eq_true rfl) (Nat.le_of_ble_eq_true rfl) d_OF_end_26 d_OF_end_29 d_OF_end_30 d_OF_end_32 d_OF_end_35

theorem d_OF_fault_0 : decode b_OF_fault 0 = .ok (.iload_n 1, 1) := by decide +kernel
theorem d_OF_fault_1 : decode b_OF_fault 1 = .ok (.tableswitch 75 0 4 #[35, 43, 51, 59, 67], 35) := by decide +kernel
theorem d_OF_fault_36 : decode b_OF_fault 36 = .ok (.aload_n 0, 1) := by decide +kernel
theorem d_OF_fault_37 : decode b_OF_fault 37 = .ok (.getfield 10, 3) := by decide +kernel
theorem d_OF_fault_40 : decode b_OF_fault 40 = .ok (.getfield 69, 3) := by decide +kernel
theorem d_OF_fault_43 : decode b_OF_fault 43 = .ok (.ireturn, 1) := by decide +kernel
set_option maxHeartbeats 4000000 in
set_option maxRecDepth 100000 in
theorem c_OF_fault_0 (l : Launch) (D : va_G) (h0 : Nat) (qa : Nat → Nat) (sz : Nat) : Met l y_OF_fault (Cond.code y_OF_fault b_OF_fault 2 (some .int) :: bw) (xR 1 0 0) (va_Pc [.ref h0, .int 0] (xP D [] sz [(h0, .inr (0, [.ref (qa 0), .ref (qa 1), .ref (qa 2), .int 0])), ((qa 0), .inr (1, [.ref (qa 3), .ref (qa 4), .int 0, .int 0, .int 0, .int 0, .int 0, .int (-1), .long 0, .int 0, .int 0, .int 0, .int 0, .int (-1), .int (-1)])), ((qa 1), .inr (2, [.ref (qa 27), .int 0, .int 0, .int 0, .int 0, .int (-1), .int (-1)]))])) (xQ (S := Unit) (fun _ => some (.int 0)) (fun _ => [(h0, .inr (0, [.ref (qa 0), .ref (qa 1), .ref (qa 2), .int 0])), ((qa 0), .inr (1, [.ref (qa 3), .ref (qa 4), .int 0, .int 0, .int 0, .int 0, .int 0, .int (-1), .long 0, .int 0, .int 0, .int 0, .int 0, .int (-1), .int (-1)])), ((qa 1), .inr (2, [.ref (qa 27), .int 0, .int 0, .int 0, .int 0, .int (-1), .int (-1)]))]) (fun _ => []) D (va_A [(h0, .inr (0, [.ref (qa 0), .ref (qa 1), .ref (qa 2), .int 0])), ((qa 0), .inr (1, [.ref (qa 3), .ref (qa 4), .int 0, .int 0, .int 0, .int 0, .int 0, .int (-1), .long 0, .int 0, .int 0, .int 0, .int 0, .int (-1), .int (-1)])), ((qa 1), .inr (2, [.ref (qa 27), .int 0, .int 0, .int 0, .int 0, .int (-1), .int (-1)]))] sz)) 0 0 (va_A [(h0, .inr (0, [.ref (qa 0), .ref (qa 1), .ref (qa 2), .int 0])), ((qa 0), .inr (1, [.ref (qa 3), .ref (qa 4), .int 0, .int 0, .int 0, .int 0, .int 0, .int (-1), .long 0, .int 0, .int 0, .int 0, .int 0, .int (-1), .int (-1)])), ((qa 1), .inr (2, [.ref (qa 27), .int 0, .int 0, .int 0, .int 0, .int (-1), .int (-1)]))] sz) := by
  refine Met.ofW (cc := b_OF_fault) (maxL := 2) (ret := (some .int)) (by decide) rfl ?_
  intro p e s m args below meth c s₁ B hml hv
  obtain ⟨rfl, hsz, hP, hK, hD0, hN, hZ⟩ := hv
  have hx := B.exec
  have hb := B.bytes
  have hr := B.returns
  have hlocks := B.notSynchronized
  have hts : ∀ w ∈ bw, w.before _ s = true := fun w h => atoms_spec (ws := Cond.code y_OF_fault b_OF_fault 2 (some .int) :: bw) B.pre w (List.mem_cons_of_mem _ h)
  have hown : s.vm.findClass "ObjectForge" = some m.cls := findClass_of_methodNamed B.named
  subst hsz
  have hP0 := hP
  have hD := hD0.self (sz := s.heap.size)
  generalize hAe : va_A [(h0, .inr (0, [.ref (qa 0), .ref (qa 1), .ref (qa 2), .int 0])), ((qa 0), .inr (1, [.ref (qa 3), .ref (qa 4), .int 0, .int 0, .int 0, .int 0, .int 0, .int (-1), .long 0, .int 0, .int 0, .int 0, .int 0, .int (-1), .int (-1)])), ((qa 1), .inr (2, [.ref (qa 27), .int 0, .int 0, .int 0, .int 0, .int (-1), .int (-1)]))] s.heap.size = A at hD hZ ⊢
  have hA : ∀ q : Nat, s.heap.size ≤ q → A q := fun q h => by rw [← hAe]; exact Or.inr h
  have hS : va_S A s.heap s.heap [] := va_S.rf
  have hl := lv_entry ([.ref h0, .int 0]) (n := 2) (Nat.le_of_ble_eq_true rfl)
  rw [lg_entry_eq]
  generalize (lg_sl ([.ref h0, .int 0]) ++ List.replicate (2 - (lg_sl ([.ref h0, .int 0])).length) Slot.unset).toArray = ls at hl ⊢
  have hl : lv_has ls 2 [(0, .ref h0), (1, .int 0)] := hl
  refine lv_iload_n hx hb d_OF_fault_0 rfl (lv_at hl 1 rfl) ?_
  refine lv_tableIn (off := 35) (tgt := 36) hx hb d_OF_fault_1 (by decide) (by decide) (by decide) (by decide) ?_
  refine lv_aload_n hx hb d_OF_fault_36 rfl (lv_at hl 0 rfl) ?_
  refine va_get (D := D) (ci := 0) (v := .ref (qa 0)) (C := R_OF) (T := F_OF) (N := 4) hx hb hts i_OF hown hK hP 0 rfl rfl 0 (by decide) (hts _ w_150) (fun _ h9 => h9) rfl d_OF_fault_37 ?_
  refine va_get (D := D) (ci := 1) (v := .int 0) (C := R_As) (T := F_As) (N := 15) hx hb hts i_As hown hK hP 1 rfl rfl 2 (by decide) (hts _ w_118) (fun _ h9 => h9) rfl d_OF_fault_40 ?_
  exact xr_i hx hb hr hlocks hP hD hK hS (()) [0, 1, 2] rfl rfl (by decide) [] rfl rfl d_OF_fault_43

theorem d_OF_fault_44 : decode b_OF_fault 44 = .ok (.aload_n 0, 1) := by decide +kernel
theorem d_OF_fault_45 : decode b_OF_fault 45 = .ok (.getfield 10, 3) := by decide +kernel
theorem d_OF_fault_48 : decode b_OF_fault 48 = .ok (.getfield 72, 3) := by decide +kernel
theorem d_OF_fault_51 : decode b_OF_fault 51 = .ok (.ireturn, 1) := by decide +kernel
set_option maxHeartbeats 4000000 in
set_option maxRecDepth 100000 in
theorem c_OF_fault_1 (l : Launch) (D : va_G) (h0 : Nat) (qa : Nat → Nat) (sz : Nat) : Met l y_OF_fault (Cond.code y_OF_fault b_OF_fault 2 (some .int) :: bw) (xR 1 0 0) (va_Pc [.ref h0, .int 1] (xP D [] sz [(h0, .inr (0, [.ref (qa 0), .ref (qa 1), .ref (qa 2), .int 0])), ((qa 0), .inr (1, [.ref (qa 3), .ref (qa 4), .int 0, .int 0, .int 0, .int 0, .int 0, .int (-1), .long 0, .int 0, .int 0, .int 0, .int 0, .int (-1), .int (-1)])), ((qa 1), .inr (2, [.ref (qa 27), .int 0, .int 0, .int 0, .int 0, .int (-1), .int (-1)]))])) (xQ (S := Unit) (fun _ => some (.int 0)) (fun _ => [(h0, .inr (0, [.ref (qa 0), .ref (qa 1), .ref (qa 2), .int 0])), ((qa 0), .inr (1, [.ref (qa 3), .ref (qa 4), .int 0, .int 0, .int 0, .int 0, .int 0, .int (-1), .long 0, .int 0, .int 0, .int 0, .int 0, .int (-1), .int (-1)])), ((qa 1), .inr (2, [.ref (qa 27), .int 0, .int 0, .int 0, .int 0, .int (-1), .int (-1)]))]) (fun _ => []) D (va_A [(h0, .inr (0, [.ref (qa 0), .ref (qa 1), .ref (qa 2), .int 0])), ((qa 0), .inr (1, [.ref (qa 3), .ref (qa 4), .int 0, .int 0, .int 0, .int 0, .int 0, .int (-1), .long 0, .int 0, .int 0, .int 0, .int 0, .int (-1), .int (-1)])), ((qa 1), .inr (2, [.ref (qa 27), .int 0, .int 0, .int 0, .int 0, .int (-1), .int (-1)]))] sz)) 0 0 (va_A [(h0, .inr (0, [.ref (qa 0), .ref (qa 1), .ref (qa 2), .int 0])), ((qa 0), .inr (1, [.ref (qa 3), .ref (qa 4), .int 0, .int 0, .int 0, .int 0, .int 0, .int (-1), .long 0, .int 0, .int 0, .int 0, .int 0, .int (-1), .int (-1)])), ((qa 1), .inr (2, [.ref (qa 27), .int 0, .int 0, .int 0, .int 0, .int (-1), .int (-1)]))] sz) := by
  refine Met.ofW (cc := b_OF_fault) (maxL := 2) (ret := (some .int)) (by decide) rfl ?_
  intro p e s m args below meth c s₁ B hml hv
  obtain ⟨rfl, hsz, hP, hK, hD0, hN, hZ⟩ := hv
  have hx := B.exec
  have hb := B.bytes
  have hr := B.returns
  have hlocks := B.notSynchronized
  have hts : ∀ w ∈ bw, w.before _ s = true := fun w h => atoms_spec (ws := Cond.code y_OF_fault b_OF_fault 2 (some .int) :: bw) B.pre w (List.mem_cons_of_mem _ h)
  have hown : s.vm.findClass "ObjectForge" = some m.cls := findClass_of_methodNamed B.named
  subst hsz
  have hP0 := hP
  have hD := hD0.self (sz := s.heap.size)
  generalize hAe : va_A [(h0, .inr (0, [.ref (qa 0), .ref (qa 1), .ref (qa 2), .int 0])), ((qa 0), .inr (1, [.ref (qa 3), .ref (qa 4), .int 0, .int 0, .int 0, .int 0, .int 0, .int (-1), .long 0, .int 0, .int 0, .int 0, .int 0, .int (-1), .int (-1)])), ((qa 1), .inr (2, [.ref (qa 27), .int 0, .int 0, .int 0, .int 0, .int (-1), .int (-1)]))] s.heap.size = A at hD hZ ⊢
  have hA : ∀ q : Nat, s.heap.size ≤ q → A q := fun q h => by rw [← hAe]; exact Or.inr h
  have hS : va_S A s.heap s.heap [] := va_S.rf
  have hl := lv_entry ([.ref h0, .int 1]) (n := 2) (Nat.le_of_ble_eq_true rfl)
  rw [lg_entry_eq]
  generalize (lg_sl ([.ref h0, .int 1]) ++ List.replicate (2 - (lg_sl ([.ref h0, .int 1])).length) Slot.unset).toArray = ls at hl ⊢
  have hl : lv_has ls 2 [(0, .ref h0), (1, .int 1)] := hl
  refine lv_iload_n hx hb d_OF_fault_0 rfl (lv_at hl 1 rfl) ?_
  refine lv_tableIn (off := 43) (tgt := 44) hx hb d_OF_fault_1 (by decide) (by decide) (by decide) (by decide) ?_
  refine lv_aload_n hx hb d_OF_fault_44 rfl (lv_at hl 0 rfl) ?_
  refine va_get (D := D) (ci := 0) (v := .ref (qa 0)) (C := R_OF) (T := F_OF) (N := 4) hx hb hts i_OF hown hK hP 0 rfl rfl 0 (by decide) (hts _ w_150) (fun _ h9 => h9) rfl d_OF_fault_45 ?_
  refine va_get (D := D) (ci := 1) (v := .int 0) (C := R_As) (T := F_As) (N := 15) hx hb hts i_As hown hK hP 1 rfl rfl 3 (by decide) (hts _ w_120) (fun _ h9 => h9) rfl d_OF_fault_48 ?_
  exact xr_i hx hb hr hlocks hP hD hK hS (()) [0, 1, 2] rfl rfl (by decide) [] rfl rfl d_OF_fault_51

theorem d_OF_fault_52 : decode b_OF_fault 52 = .ok (.aload_n 0, 1) := by decide +kernel
theorem d_OF_fault_53 : decode b_OF_fault 53 = .ok (.getfield 19, 3) := by decide +kernel
theorem d_OF_fault_56 : decode b_OF_fault 56 = .ok (.getfield 75, 3) := by decide +kernel
theorem d_OF_fault_59 : decode b_OF_fault 59 = .ok (.ireturn, 1) := by decide +kernel
set_option maxHeartbeats 4000000 in
set_option maxRecDepth 100000 in
theorem c_OF_fault_2 (l : Launch) (D : va_G) (h0 : Nat) (qa : Nat → Nat) (sz : Nat) : Met l y_OF_fault (Cond.code y_OF_fault b_OF_fault 2 (some .int) :: bw) (xR 1 0 0) (va_Pc [.ref h0, .int 2] (xP D [] sz [(h0, .inr (0, [.ref (qa 0), .ref (qa 1), .ref (qa 2), .int 0])), ((qa 0), .inr (1, [.ref (qa 3), .ref (qa 4), .int 0, .int 0, .int 0, .int 0, .int 0, .int (-1), .long 0, .int 0, .int 0, .int 0, .int 0, .int (-1), .int (-1)])), ((qa 1), .inr (2, [.ref (qa 27), .int 0, .int 0, .int 0, .int 0, .int (-1), .int (-1)]))])) (xQ (S := Unit) (fun _ => some (.int 0)) (fun _ => [(h0, .inr (0, [.ref (qa 0), .ref (qa 1), .ref (qa 2), .int 0])), ((qa 0), .inr (1, [.ref (qa 3), .ref (qa 4), .int 0, .int 0, .int 0, .int 0, .int 0, .int (-1), .long 0, .int 0, .int 0, .int 0, .int 0, .int (-1), .int (-1)])), ((qa 1), .inr (2, [.ref (qa 27), .int 0, .int 0, .int 0, .int 0, .int (-1), .int (-1)]))]) (fun _ => []) D (va_A [(h0, .inr (0, [.ref (qa 0), .ref (qa 1), .ref (qa 2), .int 0])), ((qa 0), .inr (1, [.ref (qa 3), .ref (qa 4), .int 0, .int 0, .int 0, .int 0, .int 0, .int (-1), .long 0, .int 0, .int 0, .int 0, .int 0, .int (-1), .int (-1)])), ((qa 1), .inr (2, [.ref (qa 27), .int 0, .int 0, .int 0, .int 0, .int (-1), .int (-1)]))] sz)) 0 0 (va_A [(h0, .inr (0, [.ref (qa 0), .ref (qa 1), .ref (qa 2), .int 0])), ((qa 0), .inr (1, [.ref (qa 3), .ref (qa 4), .int 0, .int 0, .int 0, .int 0, .int 0, .int (-1), .long 0, .int 0, .int 0, .int 0, .int 0, .int (-1), .int (-1)])), ((qa 1), .inr (2, [.ref (qa 27), .int 0, .int 0, .int 0, .int 0, .int (-1), .int (-1)]))] sz) := by
  refine Met.ofW (cc := b_OF_fault) (maxL := 2) (ret := (some .int)) (by decide) rfl ?_
  intro p e s m args below meth c s₁ B hml hv
  obtain ⟨rfl, hsz, hP, hK, hD0, hN, hZ⟩ := hv
  have hx := B.exec
  have hb := B.bytes
  have hr := B.returns
  have hlocks := B.notSynchronized
  have hts : ∀ w ∈ bw, w.before _ s = true := fun w h => atoms_spec (ws := Cond.code y_OF_fault b_OF_fault 2 (some .int) :: bw) B.pre w (List.mem_cons_of_mem _ h)
  have hown : s.vm.findClass "ObjectForge" = some m.cls := findClass_of_methodNamed B.named
  subst hsz
  have hP0 := hP
  have hD := hD0.self (sz := s.heap.size)
  generalize hAe : va_A [(h0, .inr (0, [.ref (qa 0), .ref (qa 1), .ref (qa 2), .int 0])), ((qa 0), .inr (1, [.ref (qa 3), .ref (qa 4), .int 0, .int 0, .int 0, .int 0, .int 0, .int (-1), .long 0, .int 0, .int 0, .int 0, .int 0, .int (-1), .int (-1)])), ((qa 1), .inr (2, [.ref (qa 27), .int 0, .int 0, .int 0, .int 0, .int (-1), .int (-1)]))] s.heap.size = A at hD hZ ⊢
  have hA : ∀ q : Nat, s.heap.size ≤ q → A q := fun q h => by rw [← hAe]; exact Or.inr h
  have hS : va_S A s.heap s.heap [] := va_S.rf
  have hl := lv_entry ([.ref h0, .int 2]) (n := 2) (Nat.le_of_ble_eq_true rfl)
  rw [lg_entry_eq]
  generalize (lg_sl ([.ref h0, .int 2]) ++ List.replicate (2 - (lg_sl ([.ref h0, .int 2])).length) Slot.unset).toArray = ls at hl ⊢
  have hl : lv_has ls 2 [(0, .ref h0), (1, .int 2)] := hl
  refine lv_iload_n hx hb d_OF_fault_0 rfl (lv_at hl 1 rfl) ?_
  refine lv_tableIn (off := 51) (tgt := 52) hx hb d_OF_fault_1 (by decide) (by decide) (by decide) (by decide) ?_
  refine lv_aload_n hx hb d_OF_fault_52 rfl (lv_at hl 0 rfl) ?_
  refine va_get (D := D) (ci := 0) (v := .ref (qa 1)) (C := R_OF) (T := F_OF) (N := 4) hx hb hts i_OF hown hK hP 0 rfl rfl 1 (by decide) (hts _ w_151) (fun _ h9 => h9) rfl d_OF_fault_53 ?_
  refine va_get (D := D) (ci := 2) (v := .int 0) (C := R_Li) (T := F_Li) (N := 7) hx hb hts i_Li hown hK hP 2 rfl rfl 4 (by decide) (hts _ w_144) (fun _ h9 => h9) rfl d_OF_fault_56 ?_
  exact xr_i hx hb hr hlocks hP hD hK hS (()) [0, 1, 2] rfl rfl (by decide) [] rfl rfl d_OF_fault_59

theorem d_OF_fault_60 : decode b_OF_fault 60 = .ok (.aload_n 0, 1) := by decide +kernel
theorem d_OF_fault_61 : decode b_OF_fault 61 = .ok (.getfield 19, 3) := by decide +kernel
theorem d_OF_fault_64 : decode b_OF_fault 64 = .ok (.getfield 76, 3) := by decide +kernel
theorem d_OF_fault_67 : decode b_OF_fault 67 = .ok (.ireturn, 1) := by decide +kernel
set_option maxHeartbeats 4000000 in
set_option maxRecDepth 100000 in
theorem c_OF_fault_3 (l : Launch) (D : va_G) (h0 : Nat) (qa : Nat → Nat) (sz : Nat) : Met l y_OF_fault (Cond.code y_OF_fault b_OF_fault 2 (some .int) :: bw) (xR 1 0 0) (va_Pc [.ref h0, .int 3] (xP D [] sz [(h0, .inr (0, [.ref (qa 0), .ref (qa 1), .ref (qa 2), .int 0])), ((qa 0), .inr (1, [.ref (qa 3), .ref (qa 4), .int 0, .int 0, .int 0, .int 0, .int 0, .int (-1), .long 0, .int 0, .int 0, .int 0, .int 0, .int (-1), .int (-1)])), ((qa 1), .inr (2, [.ref (qa 27), .int 0, .int 0, .int 0, .int 0, .int (-1), .int (-1)]))])) (xQ (S := Unit) (fun _ => some (.int (-1))) (fun _ => [(h0, .inr (0, [.ref (qa 0), .ref (qa 1), .ref (qa 2), .int 0])), ((qa 0), .inr (1, [.ref (qa 3), .ref (qa 4), .int 0, .int 0, .int 0, .int 0, .int 0, .int (-1), .long 0, .int 0, .int 0, .int 0, .int 0, .int (-1), .int (-1)])), ((qa 1), .inr (2, [.ref (qa 27), .int 0, .int 0, .int 0, .int 0, .int (-1), .int (-1)]))]) (fun _ => []) D (va_A [(h0, .inr (0, [.ref (qa 0), .ref (qa 1), .ref (qa 2), .int 0])), ((qa 0), .inr (1, [.ref (qa 3), .ref (qa 4), .int 0, .int 0, .int 0, .int 0, .int 0, .int (-1), .long 0, .int 0, .int 0, .int 0, .int 0, .int (-1), .int (-1)])), ((qa 1), .inr (2, [.ref (qa 27), .int 0, .int 0, .int 0, .int 0, .int (-1), .int (-1)]))] sz)) 0 0 (va_A [(h0, .inr (0, [.ref (qa 0), .ref (qa 1), .ref (qa 2), .int 0])), ((qa 0), .inr (1, [.ref (qa 3), .ref (qa 4), .int 0, .int 0, .int 0, .int 0, .int 0, .int (-1), .long 0, .int 0, .int 0, .int 0, .int 0, .int (-1), .int (-1)])), ((qa 1), .inr (2, [.ref (qa 27), .int 0, .int 0, .int 0, .int 0, .int (-1), .int (-1)]))] sz) := by
  refine Met.ofW (cc := b_OF_fault) (maxL := 2) (ret := (some .int)) (by decide) rfl ?_
  intro p e s m args below meth c s₁ B hml hv
  obtain ⟨rfl, hsz, hP, hK, hD0, hN, hZ⟩ := hv
  have hx := B.exec
  have hb := B.bytes
  have hr := B.returns
  have hlocks := B.notSynchronized
  have hts : ∀ w ∈ bw, w.before _ s = true := fun w h => atoms_spec (ws := Cond.code y_OF_fault b_OF_fault 2 (some .int) :: bw) B.pre w (List.mem_cons_of_mem _ h)
  have hown : s.vm.findClass "ObjectForge" = some m.cls := findClass_of_methodNamed B.named
  subst hsz
  have hP0 := hP
  have hD := hD0.self (sz := s.heap.size)
  generalize hAe : va_A [(h0, .inr (0, [.ref (qa 0), .ref (qa 1), .ref (qa 2), .int 0])), ((qa 0), .inr (1, [.ref (qa 3), .ref (qa 4), .int 0, .int 0, .int 0, .int 0, .int 0, .int (-1), .long 0, .int 0, .int 0, .int 0, .int 0, .int (-1), .int (-1)])), ((qa 1), .inr (2, [.ref (qa 27), .int 0, .int 0, .int 0, .int 0, .int (-1), .int (-1)]))] s.heap.size = A at hD hZ ⊢
  have hA : ∀ q : Nat, s.heap.size ≤ q → A q := fun q h => by rw [← hAe]; exact Or.inr h
  have hS : va_S A s.heap s.heap [] := va_S.rf
  have hl := lv_entry ([.ref h0, .int 3]) (n := 2) (Nat.le_of_ble_eq_true rfl)
  rw [lg_entry_eq]
  generalize (lg_sl ([.ref h0, .int 3]) ++ List.replicate (2 - (lg_sl ([.ref h0, .int 3])).length) Slot.unset).toArray = ls at hl ⊢
  have hl : lv_has ls 2 [(0, .ref h0), (1, .int 3)] := hl
  refine lv_iload_n hx hb d_OF_fault_0 rfl (lv_at hl 1 rfl) ?_
  refine lv_tableIn (off := 59) (tgt := 60) hx hb d_OF_fault_1 (by decide) (by decide) (by decide) (by decide) ?_
  refine lv_aload_n hx hb d_OF_fault_60 rfl (lv_at hl 0 rfl) ?_
  refine va_get (D := D) (ci := 0) (v := .ref (qa 1)) (C := R_OF) (T := F_OF) (N := 4) hx hb hts i_OF hown hK hP 0 rfl rfl 1 (by decide) (hts _ w_151) (fun _ h9 => h9) rfl d_OF_fault_61 ?_
  refine va_get (D := D) (ci := 2) (v := .int (-1)) (C := R_Li) (T := F_Li) (N := 7) hx hb hts i_Li hown hK hP 2 rfl rfl 5 (by decide) (hts _ w_146) (fun _ h9 => h9) rfl d_OF_fault_64 ?_
  exact xr_i hx hb hr hlocks hP hD hK hS (()) [0, 1, 2] rfl rfl (by decide) [] rfl rfl d_OF_fault_67

theorem d_OF_fault_68 : decode b_OF_fault 68 = .ok (.aload_n 0, 1) := by decide +kernel
theorem d_OF_fault_69 : decode b_OF_fault 69 = .ok (.getfield 19, 3) := by decide +kernel
theorem d_OF_fault_72 : decode b_OF_fault 72 = .ok (.getfield 79, 3) := by decide +kernel
theorem d_OF_fault_75 : decode b_OF_fault 75 = .ok (.ireturn, 1) := by decide +kernel
set_option maxHeartbeats 4000000 in
set_option maxRecDepth 100000 in
theorem c_OF_fault_4 (l : Launch) (D : va_G) (h0 : Nat) (qa : Nat → Nat) (sz : Nat) : Met l y_OF_fault (Cond.code y_OF_fault b_OF_fault 2 (some .int) :: bw) (xR 1 0 0) (va_Pc [.ref h0, .int 4] (xP D [] sz [(h0, .inr (0, [.ref (qa 0), .ref (qa 1), .ref (qa 2), .int 0])), ((qa 0), .inr (1, [.ref (qa 3), .ref (qa 4), .int 0, .int 0, .int 0, .int 0, .int 0, .int (-1), .long 0, .int 0, .int 0, .int 0, .int 0, .int (-1), .int (-1)])), ((qa 1), .inr (2, [.ref (qa 27), .int 0, .int 0, .int 0, .int 0, .int (-1), .int (-1)]))])) (xQ (S := Unit) (fun _ => some (.int (-1))) (fun _ => [(h0, .inr (0, [.ref (qa 0), .ref (qa 1), .ref (qa 2), .int 0])), ((qa 0), .inr (1, [.ref (qa 3), .ref (qa 4), .int 0, .int 0, .int 0, .int 0, .int 0, .int (-1), .long 0, .int 0, .int 0, .int 0, .int 0, .int (-1), .int (-1)])), ((qa 1), .inr (2, [.ref (qa 27), .int 0, .int 0, .int 0, .int 0, .int (-1), .int (-1)]))]) (fun _ => []) D (va_A [(h0, .inr (0, [.ref (qa 0), .ref (qa 1), .ref (qa 2), .int 0])), ((qa 0), .inr (1, [.ref (qa 3), .ref (qa 4), .int 0, .int 0, .int 0, .int 0, .int 0, .int (-1), .long 0, .int 0, .int 0, .int 0, .int 0, .int (-1), .int (-1)])), ((qa 1), .inr (2, [.ref (qa 27), .int 0, .int 0, .int 0, .int 0, .int (-1), .int (-1)]))] sz)) 0 0 (va_A [(h0, .inr (0, [.ref (qa 0), .ref (qa 1), .ref (qa 2), .int 0])), ((qa 0), .inr (1, [.ref (qa 3), .ref (qa 4), .int 0, .int 0, .int 0, .int 0, .int 0, .int (-1), .long 0, .int 0, .int 0, .int 0, .int 0, .int (-1), .int (-1)])), ((qa 1), .inr (2, [.ref (qa 27), .int 0, .int 0, .int 0, .int 0, .int (-1), .int (-1)]))] sz) := by
  refine Met.ofW (cc := b_OF_fault) (maxL := 2) (ret := (some .int)) (by decide) rfl ?_
  intro p e s m args below meth c s₁ B hml hv
  obtain ⟨rfl, hsz, hP, hK, hD0, hN, hZ⟩ := hv
  have hx := B.exec
  have hb := B.bytes
  have hr := B.returns
  have hlocks := B.notSynchronized
  have hts : ∀ w ∈ bw, w.before _ s = true := fun w h => atoms_spec (ws := Cond.code y_OF_fault b_OF_fault 2 (some .int) :: bw) B.pre w (List.mem_cons_of_mem _ h)
  have hown : s.vm.findClass "ObjectForge" = some m.cls := findClass_of_methodNamed B.named
  subst hsz
  have hP0 := hP
  have hD := hD0.self (sz := s.heap.size)
  generalize hAe : va_A [(h0, .inr (0, [.ref (qa 0), .ref (qa 1), .ref (qa 2), .int 0])), ((qa 0), .inr (1, [.ref (qa 3), .ref (qa 4), .int 0, .int 0, .int 0, .int 0, .int 0, .int (-1), .long 0, .int 0, .int 0, .int 0, .int 0, .int (-1), .int (-1)])), ((qa 1), .inr (2, [.ref (qa 27), .int 0, .int 0, .int 0, .int 0, .int (-1), .int (-1)]))] s.heap.size = A at hD hZ ⊢
  have hA : ∀ q : Nat, s.heap.size ≤ q → A q := fun q h => by rw [← hAe]; exact Or.inr h
  have hS : va_S A s.heap s.heap [] := va_S.rf
  have hl := lv_entry ([.ref h0, .int 4]) (n := 2) (Nat.le_of_ble_eq_true rfl)
  rw [lg_entry_eq]
  generalize (lg_sl ([.ref h0, .int 4]) ++ List.replicate (2 - (lg_sl ([.ref h0, .int 4])).length) Slot.unset).toArray = ls at hl ⊢
  have hl : lv_has ls 2 [(0, .ref h0), (1, .int 4)] := hl
  refine lv_iload_n hx hb d_OF_fault_0 rfl (lv_at hl 1 rfl) ?_
  refine lv_tableIn (off := 67) (tgt := 68) hx hb d_OF_fault_1 (by decide) (by decide) (by decide) (by decide) ?_
  refine lv_aload_n hx hb d_OF_fault_68 rfl (lv_at hl 0 rfl) ?_
  refine va_get (D := D) (ci := 0) (v := .ref (qa 1)) (C := R_OF) (T := F_OF) (N := 4) hx hb hts i_OF hown hK hP 0 rfl rfl 1 (by decide) (hts _ w_151) (fun _ h9 => h9) rfl d_OF_fault_69 ?_
  refine va_get (D := D) (ci := 2) (v := .int (-1)) (C := R_Li) (T := F_Li) (N := 7) hx hb hts i_Li hown hK hP 2 rfl rfl 6 (by decide) (hts _ w_148) (fun _ h9 => h9) rfl d_OF_fault_72 ?_
  exact xr_i hx hb hr hlocks hP hD hK hS (()) [0, 1, 2] rfl rfl (by decide) [] rfl rfl d_OF_fault_75

theorem d_OF_fault_76 : decode b_OF_fault 76 = .ok (.new 82, 3) := by decide +kernel
theorem d_OF_fault_79 : decode b_OF_fault 79 = .ok (.dup, 1) := by decide +kernel
theorem d_OF_fault_80 : decode b_OF_fault 80 = .ok (.ldc 84, 2) := by decide +kernel
theorem d_OF_fault_82 : decode b_OF_fault 82 = .ok (.invokespecial 86, 3) := by decide +kernel
theorem d_OF_fault_85 : decode b_OF_fault 85 = .ok (.athrow, 1) := by decide +kernel
set_option maxHeartbeats 4000000 in
set_option maxRecDepth 100000 in
theorem c_OF_fault_x (l : Launch) (htr : l.stackTraces = false) (D : va_G) (h0 : Nat) (qa : Nat → Nat) (p0 : Int32) (h1 : p0.toInt < 0 ∨ 4 < p0.toInt) (sz : Nat) : MetT l y_OF_fault (Cond.code y_OF_fault b_OF_fault 2 (some .int) :: bw) (xR 1 1 6) (va_Pc [.ref h0, .int p0] (xP D [] sz [(h0, .inr (0, [.ref (qa 0), .ref (qa 1), .ref (qa 2), .int 0]))])) (xQT "java/lang/IndexOutOfBoundsException" (va_A [(h0, .inr (0, [.ref (qa 0), .ref (qa 1), .ref (qa 2), .int 0]))] sz)) 1 6 (va_A [(h0, .inr (0, [.ref (qa 0), .ref (qa 1), .ref (qa 2), .int 0]))] sz) := by
  refine MetT.ofW (cc := b_OF_fault) (maxL := 2) (ret := (some .int)) (by decide) rfl ?_
  intro p e s m args below meth c s₁ B hml hno hv
  obtain ⟨rfl, hsz, hP, hK, hD0, hN, hZ⟩ := hv
  have hx := B.exec
  have hb := B.bytes
  have hr := B.returns
  have hlocks := B.notSynchronized
  have hts : ∀ w ∈ bw, w.before _ s = true := fun w h => atoms_spec (ws := Cond.code y_OF_fault b_OF_fault 2 (some .int) :: bw) B.pre w (List.mem_cons_of_mem _ h)
  have hown : s.vm.findClass "ObjectForge" = some m.cls := findClass_of_methodNamed B.named
  subst hsz
  have hP0 := hP
  have hD := hD0.self (sz := s.heap.size)
  generalize hAe : va_A [(h0, .inr (0, [.ref (qa 0), .ref (qa 1), .ref (qa 2), .int 0]))] s.heap.size = A at hD hZ ⊢
  have hA : ∀ q : Nat, s.heap.size ≤ q → A q := fun q h => by rw [← hAe]; exact Or.inr h
  have hS : va_S A s.heap s.heap [] := va_S.rf
  have hl := lv_entry ([.ref h0, .int p0]) (n := 2) (Nat.le_of_ble_eq_true rfl)
  rw [lg_entry_eq]
  generalize (lg_sl ([.ref h0, .int p0]) ++ List.replicate (2 - (lg_sl ([.ref h0, .int p0])).length) Slot.unset).toArray = ls at hl ⊢
  have hl : lv_has ls 2 [(0, .ref h0), (1, .int p0)] := hl
  refine lv_iload_n hx hb d_OF_fault_0 rfl (lv_at hl 1 rfl) ?_
  refine lv_tableOut (tgt := 76) hx hb d_OF_fault_1 h1 (by decide) ?_
  exact x_throw (tx := "what is not 0 to 4") hx hb hml hown hts hN hZ htr hno hlocks own_ioobe (by decide +kernel) w_303 w_304 w_15 (by simp [xnS]) hS (by simp) hl.1 (Nat.le_of_ble_eq_true rfl) (Nat.le_of_ble_eq_true rfl) (Nat.le_of_ble_eq_true rfl) (Nat.le_of_ble_eq_true rfl) d_OF_fault_76 d_OF_fault_79 d_OF_fault_80 d_OF_fault_82 d_OF_fault_85

theorem d_OF_link_0 : decode b_OF_link 0 = .ok (.iload_n 1, 1) := by decide +kernel
theorem d_OF_link_1 : decode b_OF_link 1 = .ok (.bipush 7, 2) := by decide +kernel
theorem d_OF_link_3 : decode b_OF_link 3 = .ok (.iand, 1) := by decide +kernel
theorem d_OF_link_4 : decode b_OF_link 4 = .ok (.ifCond .eq 13, 3) := by decide +kernel
theorem d_OF_link_7 : decode b_OF_link 7 = .ok (.new 54, 3) := by decide +kernel
theorem d_OF_link_10 : decode b_OF_link 10 = .ok (.dup, 1) := by decide +kernel
theorem d_OF_link_11 : decode b_OF_link 11 = .ok (.ldc 151, 2) := by decide +kernel
theorem d_OF_link_13 : decode b_OF_link 13 = .ok (.invokespecial 58, 3) := by decide +kernel
theorem d_OF_link_16 : decode b_OF_link 16 = .ok (.athrow, 1) := by decide +kernel
set_option maxHeartbeats 4000000 in
set_option maxRecDepth 100000 in
theorem c_OF_link_1 (l : Launch) (htr : l.stackTraces = false) (D : va_G) (h0 : Nat) (qa : Nat → Nat) (p0 : Int32) (h1 : ¬ (p0 &&& 7) = 0) (sz : Nat) : MetT l y_OF_link (Cond.code y_OF_link b_OF_link 2 (some .int) :: bw) (xR 1 1 6) (va_Pc [.ref h0, .int p0] (xP D [] sz [(h0, .inr (0, [.ref (qa 0), .ref (qa 1), .ref (qa 2), .int 0]))])) (xQT "java/lang/IllegalArgumentException" (va_A [(h0, .inr (0, [.ref (qa 0), .ref (qa 1), .ref (qa 2), .int 0]))] sz)) 1 6 (va_A [(h0, .inr (0, [.ref (qa 0), .ref (qa 1), .ref (qa 2), .int 0]))] sz) := by
  refine MetT.ofW (cc := b_OF_link) (maxL := 2) (ret := (some .int)) (by decide) rfl ?_
  intro p e s m args below meth c s₁ B hml hno hv
  obtain ⟨rfl, hsz, hP, hK, hD0, hN, hZ⟩ := hv
  have hx := B.exec
  have hb := B.bytes
  have hr := B.returns
  have hlocks := B.notSynchronized
  have hts : ∀ w ∈ bw, w.before _ s = true := fun w h => atoms_spec (ws := Cond.code y_OF_link b_OF_link 2 (some .int) :: bw) B.pre w (List.mem_cons_of_mem _ h)
  have hown : s.vm.findClass "ObjectForge" = some m.cls := findClass_of_methodNamed B.named
  subst hsz
  have hP0 := hP
  have hD := hD0.self (sz := s.heap.size)
  generalize hAe : va_A [(h0, .inr (0, [.ref (qa 0), .ref (qa 1), .ref (qa 2), .int 0]))] s.heap.size = A at hD hZ ⊢
  have hA : ∀ q : Nat, s.heap.size ≤ q → A q := fun q h => by rw [← hAe]; exact Or.inr h
  have hS : va_S A s.heap s.heap [] := va_S.rf
  have hl := lv_entry ([.ref h0, .int p0]) (n := 2) (Nat.le_of_ble_eq_true rfl)
  rw [lg_entry_eq]
  generalize (lg_sl ([.ref h0, .int p0]) ++ List.replicate (2 - (lg_sl ([.ref h0, .int p0])).length) Slot.unset).toArray = ls at hl ⊢
  have hl : lv_has ls 2 [(0, .ref h0), (1, .int p0)] := hl
  refine lv_iload_n hx hb d_OF_link_0 rfl (lv_at hl 1 rfl) ?_
  refine lv_bipush (v := 7) hx hb d_OF_link_1 (by decide) ?_
  refine lv_iand hx hb d_OF_link_3 ?_
  refine lv_if_eq (tgt := 17) hx hb d_OF_link_4 (by decide) (fun q9 => absurd q9 h1) (fun _ => ?_)
  exact x_throw (tx := "the base is no multiple of 8") hx hb hml hown hts hN hZ htr hno hlocks own_iae (by decide +kernel) w_230 w_231 w_13 (by simp [xnS]) hS (by simp) hl.1 (Nat.le_of_ble_eq_true rfl) (Nat.le_of_ble_eq_true rfl) (Nat.le_of_ble_eq_true rfl) (Nat.le_of_ble_eq_true rfl) d_OF_link_7 d_OF_link_10 d_OF_link_11 d_OF_link_13 d_OF_link_16

theorem d_OF_link_17 : decode b_OF_link 17 = .ok (.aload_n 0, 1) := by decide +kernel
theorem d_OF_link_18 : decode b_OF_link 18 = .ok (.getfield 29, 3) := by decide +kernel
theorem d_OF_link_21 : decode b_OF_link 21 = .ok (.ifCond .ne 13, 3) := by decide +kernel
theorem d_OF_link_24 : decode b_OF_link 24 = .ok (.new 43, 3) := by decide +kernel
theorem d_OF_link_27 : decode b_OF_link 27 = .ok (.dup, 1) := by decide +kernel
theorem d_OF_link_28 : decode b_OF_link 28 = .ok (.ldc 153, 2) := by decide +kernel
theorem d_OF_link_30 : decode b_OF_link 30 = .ok (.invokespecial 47, 3) := by decide +kernel
theorem d_OF_link_33 : decode b_OF_link 33 = .ok (.athrow, 1) := by decide +kernel
set_option maxHeartbeats 4000000 in
set_option maxRecDepth 100000 in
theorem c_OF_link_2 (l : Launch) (htr : l.stackTraces = false) (D : va_G) (h0 : Nat) (qa : Nat → Nat) (p0 : Int32) (h1 : (p0 &&& 7) = 0) (sz : Nat) : MetT l y_OF_link (Cond.code y_OF_link b_OF_link 2 (some .int) :: bw) (xR 1 1 6) (va_Pc [.ref h0, .int p0] (xP D [] sz [(h0, .inr (0, [.ref (qa 0), .ref (qa 1), .ref (qa 2), .int 0]))])) (xQT "java/lang/IllegalStateException" (va_A [(h0, .inr (0, [.ref (qa 0), .ref (qa 1), .ref (qa 2), .int 0]))] sz)) 1 6 (va_A [(h0, .inr (0, [.ref (qa 0), .ref (qa 1), .ref (qa 2), .int 0]))] sz) := by
  refine MetT.ofW (cc := b_OF_link) (maxL := 2) (ret := (some .int)) (by decide) rfl ?_
  intro p e s m args below meth c s₁ B hml hno hv
  obtain ⟨rfl, hsz, hP, hK, hD0, hN, hZ⟩ := hv
  have hx := B.exec
  have hb := B.bytes
  have hr := B.returns
  have hlocks := B.notSynchronized
  have hts : ∀ w ∈ bw, w.before _ s = true := fun w h => atoms_spec (ws := Cond.code y_OF_link b_OF_link 2 (some .int) :: bw) B.pre w (List.mem_cons_of_mem _ h)
  have hown : s.vm.findClass "ObjectForge" = some m.cls := findClass_of_methodNamed B.named
  subst hsz
  have hP0 := hP
  have hD := hD0.self (sz := s.heap.size)
  generalize hAe : va_A [(h0, .inr (0, [.ref (qa 0), .ref (qa 1), .ref (qa 2), .int 0]))] s.heap.size = A at hD hZ ⊢
  have hA : ∀ q : Nat, s.heap.size ≤ q → A q := fun q h => by rw [← hAe]; exact Or.inr h
  have hS : va_S A s.heap s.heap [] := va_S.rf
  have hl := lv_entry ([.ref h0, .int p0]) (n := 2) (Nat.le_of_ble_eq_true rfl)
  rw [lg_entry_eq]
  generalize (lg_sl ([.ref h0, .int p0]) ++ List.replicate (2 - (lg_sl ([.ref h0, .int p0])).length) Slot.unset).toArray = ls at hl ⊢
  have hl : lv_has ls 2 [(0, .ref h0), (1, .int p0)] := hl
  refine lv_iload_n hx hb d_OF_link_0 rfl (lv_at hl 1 rfl) ?_
  refine lv_bipush (v := 7) hx hb d_OF_link_1 (by decide) ?_
  refine lv_iand hx hb d_OF_link_3 ?_
  refine lv_if_eq (tgt := 17) hx hb d_OF_link_4 (by decide) (fun _ => ?_) (fun q9 => absurd h1 q9)
  refine lv_aload_n hx hb d_OF_link_17 rfl (lv_at hl 0 rfl) ?_
  refine va_get (D := D) (ci := 0) (v := .int 0) (C := R_OF) (T := F_OF) (N := 4) hx hb hts i_OF hown hK hP 0 rfl rfl 3 (by decide) (hts _ w_153) (fun _ h9 => h9) rfl d_OF_link_18 ?_
  refine lv_if_ne (tgt := 34) hx hb d_OF_link_21 (by decide) (fun q9 => absurd (by decide : ((0 : Int32) = 0)) q9) (fun _ => ?_)
  exact x_throw (tx := "there are no objects") hx hb hml hown hts hN hZ htr hno hlocks own_ise (by decide +kernel) w_170 w_171 w_12 (by simp [xnS]) hS (by simp) hl.1 (Nat.le_of_ble_eq_true rfl) (Nat.le_of_ble_eq_true rfl) (Nat.le_of_ble_eq_true rfl) (Nat.le_of_ble_eq_true rfl) d_OF_link_24 d_OF_link_27 d_OF_link_28 d_OF_link_30 d_OF_link_33

theorem d_Li_holdsWord_0 : decode b_Li_holdsWord 0 = .ok (.iload_n 1, 1) := by decide +kernel
theorem d_Li_holdsWord_1 : decode b_Li_holdsWord 1 = .ok (.aload_n 0, 1) := by decide +kernel
theorem d_Li_holdsWord_2 : decode b_Li_holdsWord 2 = .ok (.getfield 16, 3) := by decide +kernel
theorem d_Li_holdsWord_5 : decode b_Li_holdsWord 5 = .ok (.isub, 1) := by decide +kernel
theorem d_Li_holdsWord_6 : decode b_Li_holdsWord 6 = .ok (.istore_n 2, 1) := by decide +kernel
theorem d_Li_holdsWord_7 : decode b_Li_holdsWord 7 = .ok (.aload_n 0, 1) := by decide +kernel
theorem d_Li_holdsWord_8 : decode b_Li_holdsWord 8 = .ok (.getfield 23, 3) := by decide +kernel
theorem d_Li_holdsWord_11 : decode b_Li_holdsWord 11 = .ok (.ifCond .le 27, 3) := by decide +kernel
theorem d_Li_holdsWord_38 : decode b_Li_holdsWord 38 = .ok (.iconst 0, 1) := by decide +kernel
theorem d_Li_holdsWord_39 : decode b_Li_holdsWord 39 = .ok (.ireturn, 1) := by decide +kernel
set_option maxHeartbeats 4000000 in
set_option maxRecDepth 100000 in
theorem c_Li_holdsWord (l : Launch) (D : va_G) (h1 : Nat) (qa : Nat → Nat) (p0 : Int32) (sz : Nat) : Met l y_Li_holdsWord (Cond.code y_Li_holdsWord b_Li_holdsWord 3 (some .boolean) :: bw) (xR 1 0 0) (va_Pc [.ref h1, .int p0] (xP D [] sz [(h1, .inr (2, [.ref (qa 27), .int 0, .int 0, .int 0, .int 0, .int (-1), .int (-1)]))])) (xQ (S := Unit) (fun _ => some (.int 0)) (fun _ => [(h1, .inr (2, [.ref (qa 27), .int 0, .int 0, .int 0, .int 0, .int (-1), .int (-1)]))]) (fun _ => []) D (va_A [(h1, .inr (2, [.ref (qa 27), .int 0, .int 0, .int 0, .int 0, .int (-1), .int (-1)]))] sz)) 0 0 (va_A [(h1, .inr (2, [.ref (qa 27), .int 0, .int 0, .int 0, .int 0, .int (-1), .int (-1)]))] sz) := by
  refine Met.ofW (cc := b_Li_holdsWord) (maxL := 3) (ret := (some .boolean)) (by decide) rfl ?_
  intro p e s m args below meth c s₁ B hml hv
  obtain ⟨rfl, hsz, hP, hK, hD0, hN, hZ⟩ := hv
  have hx := B.exec
  have hb := B.bytes
  have hr := B.returns
  have hlocks := B.notSynchronized
  have hts : ∀ w ∈ bw, w.before _ s = true := fun w h => atoms_spec (ws := Cond.code y_Li_holdsWord b_Li_holdsWord 3 (some .boolean) :: bw) B.pre w (List.mem_cons_of_mem _ h)
  have hown : s.vm.findClass "ObjectForge$Linker" = some m.cls := findClass_of_methodNamed B.named
  subst hsz
  have hP0 := hP
  have hD := hD0.self (sz := s.heap.size)
  generalize hAe : va_A [(h1, .inr (2, [.ref (qa 27), .int 0, .int 0, .int 0, .int 0, .int (-1), .int (-1)]))] s.heap.size = A at hD hZ ⊢
  have hA : ∀ q : Nat, s.heap.size ≤ q → A q := fun q h => by rw [← hAe]; exact Or.inr h
  have hS : va_S A s.heap s.heap [] := va_S.rf
  have hl := lv_entry ([.ref h1, .int p0]) (n := 3) (Nat.le_of_ble_eq_true rfl)
  rw [lg_entry_eq]
  generalize (lg_sl ([.ref h1, .int p0]) ++ List.replicate (3 - (lg_sl ([.ref h1, .int p0])).length) Slot.unset).toArray = ls at hl ⊢
  have hl : lv_has ls 3 [(0, .ref h1), (1, .int p0)] := hl
  refine lv_iload_n hx hb d_Li_holdsWord_0 rfl (lv_at hl 1 rfl) ?_
  refine lv_aload_n hx hb d_Li_holdsWord_1 rfl (lv_at hl 0 rfl) ?_
  refine va_get (D := D) (ci := 2) (v := .int 0) (C := R_Li) (T := F_Li) (N := 7) hx hb hts i_Li hown hK hP 0 rfl rfl 1 (by decide) (hts _ w_139) (fun _ h9 => h9) rfl d_Li_holdsWord_2 ?_
  refine lv_isub hx hb d_Li_holdsWord_5 ?_
  refine lv_istore_n (lv' := [(2, .int (p0 - 0)), (0, .ref h1), (1, .int p0)]) hx hb d_Li_holdsWord_6 rfl hl (by decide) rfl (fun ls hl => ?_)
  refine lv_aload_n hx hb d_Li_holdsWord_7 rfl (lv_at hl 1 rfl) ?_
  refine va_get (D := D) (ci := 2) (v := .int 0) (C := R_Li) (T := F_Li) (N := 7) hx hb hts i_Li hown hK hP 0 rfl rfl 3 (by decide) (hts _ w_141) (fun _ h9 => h9) rfl d_Li_holdsWord_8 ?_
  refine lv_if_le (tgt := 38) hx hb d_Li_holdsWord_11 (by decide) (fun _ => ?_) (fun q9 => absurd (by decide : ((0 : Int32) ≤ 0)) q9)
  refine lv_iconst (v := 0) hx hb d_Li_holdsWord_38 (by decide) ?_
  exact xr_z hx hb hr rfl hlocks hP hD hK hS (()) [0] rfl rfl (by decide) [] rfl rfl d_Li_holdsWord_39

theorem d_OF_word_0 : decode b_OF_word 0 = .ok (.aload_n 0, 1) := by decide +kernel
theorem d_OF_word_1 : decode b_OF_word 1 = .ok (.getfield 19, 3) := by decide +kernel
theorem d_OF_word_4 : decode b_OF_word 4 = .ok (.iload_n 1, 1) := by decide +kernel
theorem d_OF_word_5 : decode b_OF_word 5 = .ok (.invokevirtual 159, 3) := by decide +kernel
theorem d_OF_word_8 : decode b_OF_word 8 = .ok (.ifCond .ne 13, 3) := by decide +kernel
theorem d_OF_word_11 : decode b_OF_word 11 = .ok (.new 82, 3) := by decide +kernel
theorem d_OF_word_14 : decode b_OF_word 14 = .ok (.dup, 1) := by decide +kernel
theorem d_OF_word_15 : decode b_OF_word 15 = .ok (.ldc 162, 2) := by decide +kernel
theorem d_OF_word_17 : decode b_OF_word 17 = .ok (.invokespecial 86, 3) := by decide +kernel
theorem d_OF_word_20 : decode b_OF_word 20 = .ok (.athrow, 1) := by decide +kernel
set_option maxHeartbeats 4000000 in
set_option maxRecDepth 100000 in
theorem c_OF_word (l : Launch) (htr : l.stackTraces = false) (D : va_G) (h0 : Nat) (qa : Nat → Nat) (p0 : Int32) (sz : Nat) : MetT l y_OF_word (Cond.code y_OF_word b_OF_word 2 (some .int) :: bw) (xR 2 1 6) (va_Pc [.ref h0, .int p0] (xP D [] sz [(h0, .inr (0, [.ref (qa 0), .ref (qa 1), .ref (qa 2), .int 0])), ((qa 1), .inr (2, [.ref (qa 27), .int 0, .int 0, .int 0, .int 0, .int (-1), .int (-1)]))])) (xQT "java/lang/IndexOutOfBoundsException" (va_A [(h0, .inr (0, [.ref (qa 0), .ref (qa 1), .ref (qa 2), .int 0])), ((qa 1), .inr (2, [.ref (qa 27), .int 0, .int 0, .int 0, .int 0, .int (-1), .int (-1)]))] sz)) 1 6 (va_A [(h0, .inr (0, [.ref (qa 0), .ref (qa 1), .ref (qa 2), .int 0])), ((qa 1), .inr (2, [.ref (qa 27), .int 0, .int 0, .int 0, .int 0, .int (-1), .int (-1)]))] sz) := by
  refine MetT.ofW (cc := b_OF_word) (maxL := 2) (ret := (some .int)) (by decide) rfl ?_
  intro p e s m args below meth c s₁ B hml hno hv
  obtain ⟨rfl, hsz, hP, hK, hD0, hN, hZ⟩ := hv
  have hx := B.exec
  have hb := B.bytes
  have hr := B.returns
  have hlocks := B.notSynchronized
  have hts : ∀ w ∈ bw, w.before _ s = true := fun w h => atoms_spec (ws := Cond.code y_OF_word b_OF_word 2 (some .int) :: bw) B.pre w (List.mem_cons_of_mem _ h)
  have hown : s.vm.findClass "ObjectForge" = some m.cls := findClass_of_methodNamed B.named
  subst hsz
  have hP0 := hP
  have hD := hD0.self (sz := s.heap.size)
  generalize hAe : va_A [(h0, .inr (0, [.ref (qa 0), .ref (qa 1), .ref (qa 2), .int 0])), ((qa 1), .inr (2, [.ref (qa 27), .int 0, .int 0, .int 0, .int 0, .int (-1), .int (-1)]))] s.heap.size = A at hD hZ ⊢
  have hA : ∀ q : Nat, s.heap.size ≤ q → A q := fun q h => by rw [← hAe]; exact Or.inr h
  have hS : va_S A s.heap s.heap [] := va_S.rf
  have hl := lv_entry ([.ref h0, .int p0]) (n := 2) (Nat.le_of_ble_eq_true rfl)
  rw [lg_entry_eq]
  generalize (lg_sl ([.ref h0, .int p0]) ++ List.replicate (2 - (lg_sl ([.ref h0, .int p0])).length) Slot.unset).toArray = ls at hl ⊢
  have hl : lv_has ls 2 [(0, .ref h0), (1, .int p0)] := hl
  refine lv_aload_n hx hb d_OF_word_0 rfl (lv_at hl 0 rfl) ?_
  refine va_get (D := D) (ci := 0) (v := .ref (qa 1)) (C := R_OF) (T := F_OF) (N := 4) hx hb hts i_OF hown hK hP 0 rfl rfl 1 (by decide) (hts _ w_151) (fun _ h9 => h9) rfl d_OF_word_1 ?_
  refine lv_iload_n hx hb d_OF_word_4 rfl (lv_at hl 1 rfl) ?_
  refine xc_V (As := [.int p0]) (rest := []) (n := 1) (wc := [((qa 1), .inr (2, [.ref (qa 27), .int 0, .int 0, .int 0, .int 0, .int (-1), .int (-1)]))]) (wr := [(h0, .inr (0, [.ref (qa 0), .ref (qa 1), .ref (qa 2), .int 0]))]) (tc := []) (tr := []) ⟨hx, hb, hml, hown, hts⟩ (c_Li_holdsWord l D (qa 1) qa p0 s.heap.size) rfl rfl w_373 w_370 w_371 w_372 w_7 (by decide +kernel) ⟨Nat.le_of_ble_eq_true rfl, Nat.le_of_ble_eq_true rfl⟩ hP hD hK hS hA hN hZ [1] [0] rfl rfl (by decide) (by decide) (by decide) [] [] rfl rfl (ci := 2) (q0 := 0) (q := (R_Li, F_Li, 7)) rfl rfl rfl rfl hl.1 rfl (Nat.le_of_ble_eq_true rfl) d_OF_word_5 ⟨Nat.le_of_ble_eq_true rfl, Nat.le_of_ble_eq_true rfl⟩ (fun u1 H locs hP hD hK hS => ?_)
  have hP : va_P D cls [(h0, .inr (0, [.ref (qa 0), .ref (qa 1), .ref (qa 2), .int 0])), ((qa 1), .inr (2, [.ref (qa 27), .int 0, .int 0, .int 0, .int 0, .int (-1), .int (-1)]))] H := hP
  have hD : va_D A [(h0, .inr (0, [.ref (qa 0), .ref (qa 1), .ref (qa 2), .int 0])), ((qa 1), .inr (2, [.ref (qa 27), .int 0, .int 0, .int 0, .int 0, .int (-1), .int (-1)]))] := hD
  have hK : va_K D cls [] s := hK
  refine W.eq (g2 := F0 m 8 ls [.int 0]) rfl ?_
  refine lv_if_ne (tgt := 21) hx hb d_OF_word_8 (by decide) (fun q9 => absurd (by decide : ((0 : Int32) = 0)) q9) (fun _ => ?_)
  exact x_throw (tx := "no word of the image") hx hb hml hown hts hN hZ htr hno hlocks own_ioobe (by decide +kernel) w_303 w_304 w_15 (by simp [xnS]) hS (by subst hAe; exact x_locs hP0 hS) hl.1 (Nat.le_of_ble_eq_true rfl) (Nat.le_of_ble_eq_true rfl) (Nat.le_of_ble_eq_true rfl) (Nat.le_of_ble_eq_true rfl) d_OF_word_11 d_OF_word_14 d_OF_word_15 d_OF_word_17 d_OF_word_20

theorem d_Li_dropImage_0 : decode b_Li_dropImage 0 = .ok (.aload_n 0, 1) := by decide +kernel
theorem d_Li_dropImage_1 : decode b_Li_dropImage 1 = .ok (.iconst 0, 1) := by decide +kernel
theorem d_Li_dropImage_2 : decode b_Li_dropImage 2 = .ok (.putfield 23, 3) := by decide +kernel
theorem d_Li_dropImage_5 : decode b_Li_dropImage 5 = .ok (.aload_n 0, 1) := by decide +kernel
theorem d_Li_dropImage_6 : decode b_Li_dropImage 6 = .ok (.iconst 0, 1) := by decide +kernel
theorem d_Li_dropImage_7 : decode b_Li_dropImage 7 = .ok (.putfield 20, 3) := by decide +kernel
theorem d_Li_dropImage_10 : decode b_Li_dropImage 10 = .ok (.return_, 1) := by decide +kernel
set_option maxHeartbeats 4000000 in
set_option maxRecDepth 100000 in
theorem c_Li_dropImage (l : Launch) (D : va_G) (h1 : Nat) (qa : Nat → Nat) (sz : Nat) : Met l y_Li_dropImage (Cond.code y_Li_dropImage b_Li_dropImage 1 none :: bw) (xR 1 0 0) (va_Pc [.ref h1] (xP D [] sz [(h1, .inr (2, [.ref (qa 27), .int 0, .int 0, .int 0, .int 0, .int (-1), .int (-1)]))])) (xQ (S := Unit) (fun _ => none) (fun _ => [(h1, .inr (2, [.ref (qa 27), .int 0, .int 0, .int 0, .int 0, .int (-1), .int (-1)]))]) (fun _ => []) D (va_A [(h1, .inr (2, [.ref (qa 27), .int 0, .int 0, .int 0, .int 0, .int (-1), .int (-1)]))] sz)) 0 0 (va_A [(h1, .inr (2, [.ref (qa 27), .int 0, .int 0, .int 0, .int 0, .int (-1), .int (-1)]))] sz) := by
  refine Met.ofW (cc := b_Li_dropImage) (maxL := 1) (ret := none) (by decide) rfl ?_
  intro p e s m args below meth c s₁ B hml hv
  obtain ⟨rfl, hsz, hP, hK, hD0, hN, hZ⟩ := hv
  have hx := B.exec
  have hb := B.bytes
  have hr := B.returns
  have hlocks := B.notSynchronized
  have hts : ∀ w ∈ bw, w.before _ s = true := fun w h => atoms_spec (ws := Cond.code y_Li_dropImage b_Li_dropImage 1 none :: bw) B.pre w (List.mem_cons_of_mem _ h)
  have hown : s.vm.findClass "ObjectForge$Linker" = some m.cls := findClass_of_methodNamed B.named
  subst hsz
  have hP0 := hP
  have hD := hD0.self (sz := s.heap.size)
  generalize hAe : va_A [(h1, .inr (2, [.ref (qa 27), .int 0, .int 0, .int 0, .int 0, .int (-1), .int (-1)]))] s.heap.size = A at hD hZ ⊢
  have hA : ∀ q : Nat, s.heap.size ≤ q → A q := fun q h => by rw [← hAe]; exact Or.inr h
  have hS : va_S A s.heap s.heap [] := va_S.rf
  have hl := lv_entry ([.ref h1]) (n := 1) (Nat.le_of_ble_eq_true rfl)
  rw [lg_entry_eq]
  generalize (lg_sl ([.ref h1]) ++ List.replicate (1 - (lg_sl ([.ref h1])).length) Slot.unset).toArray = ls at hl ⊢
  have hl : lv_has ls 1 [(0, .ref h1)] := hl
  refine lv_aload_n hx hb d_Li_dropImage_0 rfl (lv_at hl 0 rfl) ?_
  refine lv_iconst (v := 0) hx hb d_Li_dropImage_1 (by decide) ?_
  refine va_put (D := D) (ci := 2) (v := .int 0) (ty := .int) (C := R_Li) (T := F_Li) (N := 7) hx hb hts i_Li t_Li t_Li_ok n_Li hown hK hP hD hS 0 rfl rfl 3 (by decide) (hts _ w_141) (fun _ h9 => h9) rfl (by decide +kernel) rfl rfl (Nat.le_of_ble_eq_true rfl) d_Li_dropImage_2 (fun H locs hP hD hS => ?_)
  have hP : va_P D cls [(h1, .inr (2, [.ref (qa 27), .int 0, .int 0, .int 0, .int 0, .int (-1), .int (-1)]))] H := hP
  have hD : va_D A [(h1, .inr (2, [.ref (qa 27), .int 0, .int 0, .int 0, .int 0, .int (-1), .int (-1)]))] := hD
  refine lv_aload_n hx hb d_Li_dropImage_5 rfl (lv_at hl 0 rfl) ?_
  refine lv_iconst (v := 0) hx hb d_Li_dropImage_6 (by decide) ?_
  refine va_put (D := D) (ci := 2) (v := .int 0) (ty := .int) (C := R_Li) (T := F_Li) (N := 7) hx hb hts i_Li t_Li t_Li_ok n_Li hown hK hP hD hS 0 rfl rfl 2 (by decide) (hts _ w_140) (fun _ h9 => h9) rfl (by decide +kernel) rfl rfl (Nat.le_of_ble_eq_true rfl) d_Li_dropImage_7 (fun H locs hP hD hS => ?_)
  have hP : va_P D cls [(h1, .inr (2, [.ref (qa 27), .int 0, .int 0, .int 0, .int 0, .int (-1), .int (-1)]))] H := hP
  have hD : va_D A [(h1, .inr (2, [.ref (qa 27), .int 0, .int 0, .int 0, .int 0, .int (-1), .int (-1)]))] := hD
  exact xr_v hx hb hr hlocks hP hD hK hS (()) [0] rfl rfl (by decide) [] rfl rfl d_Li_dropImage_10

theorem d_OF_clear_0 : decode b_OF_clear 0 = .ok (.aload_n 0, 1) := by decide +kernel
theorem d_OF_clear_1 : decode b_OF_clear 1 = .ok (.getfield 29, 3) := by decide +kernel
theorem d_OF_clear_4 : decode b_OF_clear 4 = .ok (.istore_n 1, 1) := by decide +kernel
theorem d_OF_clear_5 : decode b_OF_clear 5 = .ok (.aload_n 0, 1) := by decide +kernel
theorem d_OF_clear_6 : decode b_OF_clear 6 = .ok (.iconst 0, 1) := by decide +kernel
theorem d_OF_clear_7 : decode b_OF_clear 7 = .ok (.putfield 29, 3) := by decide +kernel
theorem d_OF_clear_10 : decode b_OF_clear 10 = .ok (.aload_n 0, 1) := by decide +kernel
theorem d_OF_clear_11 : decode b_OF_clear 11 = .ok (.getfield 19, 3) := by decide +kernel
theorem d_OF_clear_14 : decode b_OF_clear 14 = .ok (.invokevirtual 176, 3) := by decide +kernel
theorem d_OF_clear_17 : decode b_OF_clear 17 = .ok (.iload_n 1, 1) := by decide +kernel
theorem d_OF_clear_18 : decode b_OF_clear 18 = .ok (.ireturn, 1) := by decide +kernel
set_option maxHeartbeats 4000000 in
set_option maxRecDepth 100000 in
theorem c_OF_clear (l : Launch) (D : va_G) (h0 : Nat) (qa : Nat → Nat) (sz : Nat) : Met l y_OF_clear (Cond.code y_OF_clear b_OF_clear 2 (some .int) :: bw) (xR 2 0 0) (va_Pc [.ref h0] (xP D [] sz [(h0, .inr (0, [.ref (qa 0), .ref (qa 1), .ref (qa 2), .int 0])), ((qa 1), .inr (2, [.ref (qa 27), .int 0, .int 0, .int 0, .int 0, .int (-1), .int (-1)]))])) (xQ (S := Unit) (fun _ => some (.int 0)) (fun _ => [(h0, .inr (0, [.ref (qa 0), .ref (qa 1), .ref (qa 2), .int 0])), ((qa 1), .inr (2, [.ref (qa 27), .int 0, .int 0, .int 0, .int 0, .int (-1), .int (-1)]))]) (fun _ => []) D (va_A [(h0, .inr (0, [.ref (qa 0), .ref (qa 1), .ref (qa 2), .int 0])), ((qa 1), .inr (2, [.ref (qa 27), .int 0, .int 0, .int 0, .int 0, .int (-1), .int (-1)]))] sz)) 0 0 (va_A [(h0, .inr (0, [.ref (qa 0), .ref (qa 1), .ref (qa 2), .int 0])), ((qa 1), .inr (2, [.ref (qa 27), .int 0, .int 0, .int 0, .int 0, .int (-1), .int (-1)]))] sz) := by
  refine Met.ofW (cc := b_OF_clear) (maxL := 2) (ret := (some .int)) (by decide) rfl ?_
  intro p e s m args below meth c s₁ B hml hv
  obtain ⟨rfl, hsz, hP, hK, hD0, hN, hZ⟩ := hv
  have hx := B.exec
  have hb := B.bytes
  have hr := B.returns
  have hlocks := B.notSynchronized
  have hts : ∀ w ∈ bw, w.before _ s = true := fun w h => atoms_spec (ws := Cond.code y_OF_clear b_OF_clear 2 (some .int) :: bw) B.pre w (List.mem_cons_of_mem _ h)
  have hown : s.vm.findClass "ObjectForge" = some m.cls := findClass_of_methodNamed B.named
  subst hsz
  have hP0 := hP
  have hD := hD0.self (sz := s.heap.size)
  generalize hAe : va_A [(h0, .inr (0, [.ref (qa 0), .ref (qa 1), .ref (qa 2), .int 0])), ((qa 1), .inr (2, [.ref (qa 27), .int 0, .int 0, .int 0, .int 0, .int (-1), .int (-1)]))] s.heap.size = A at hD hZ ⊢
  have hA : ∀ q : Nat, s.heap.size ≤ q → A q := fun q h => by rw [← hAe]; exact Or.inr h
  have hS : va_S A s.heap s.heap [] := va_S.rf
  have hl := lv_entry ([.ref h0]) (n := 2) (Nat.le_of_ble_eq_true rfl)
  rw [lg_entry_eq]
  generalize (lg_sl ([.ref h0]) ++ List.replicate (2 - (lg_sl ([.ref h0])).length) Slot.unset).toArray = ls at hl ⊢
  have hl : lv_has ls 2 [(0, .ref h0)] := hl
  refine lv_aload_n hx hb d_OF_clear_0 rfl (lv_at hl 0 rfl) ?_
  refine va_get (D := D) (ci := 0) (v := .int 0) (C := R_OF) (T := F_OF) (N := 4) hx hb hts i_OF hown hK hP 0 rfl rfl 3 (by decide) (hts _ w_153) (fun _ h9 => h9) rfl d_OF_clear_1 ?_
  refine lv_istore_n (lv' := [(1, .int 0), (0, .ref h0)]) hx hb d_OF_clear_4 rfl hl (by decide) rfl (fun ls hl => ?_)
  refine lv_aload_n hx hb d_OF_clear_5 rfl (lv_at hl 1 rfl) ?_
  refine lv_iconst (v := 0) hx hb d_OF_clear_6 (by decide) ?_
  refine va_put (D := D) (ci := 0) (v := .int 0) (ty := .int) (C := R_OF) (T := F_OF) (N := 4) hx hb hts i_OF t_OF t_OF_ok n_OF hown hK hP hD hS 0 rfl rfl 3 (by decide) (hts _ w_153) (fun _ h9 => h9) rfl (by decide +kernel) rfl rfl (Nat.le_of_ble_eq_true rfl) d_OF_clear_7 (fun H locs hP hD hS => ?_)
  have hP : va_P D cls [(h0, .inr (0, [.ref (qa 0), .ref (qa 1), .ref (qa 2), .int 0])), ((qa 1), .inr (2, [.ref (qa 27), .int 0, .int 0, .int 0, .int 0, .int (-1), .int (-1)]))] H := hP
  have hD : va_D A [(h0, .inr (0, [.ref (qa 0), .ref (qa 1), .ref (qa 2), .int 0])), ((qa 1), .inr (2, [.ref (qa 27), .int 0, .int 0, .int 0, .int 0, .int (-1), .int (-1)]))] := hD
  refine lv_aload_n hx hb d_OF_clear_10 rfl (lv_at hl 1 rfl) ?_
  refine va_get (D := D) (ci := 0) (v := .ref (qa 1)) (C := R_OF) (T := F_OF) (N := 4) hx hb hts i_OF hown hK hP 0 rfl rfl 1 (by decide) (hts _ w_151) (fun _ h9 => h9) rfl d_OF_clear_11 ?_
  refine xc_V (As := []) (rest := []) (n := 0) (wc := [((qa 1), .inr (2, [.ref (qa 27), .int 0, .int 0, .int 0, .int 0, .int (-1), .int (-1)]))]) (wr := [(h0, .inr (0, [.ref (qa 0), .ref (qa 1), .ref (qa 2), .int 0]))]) (tc := []) (tr := []) ⟨hx, hb, hml, hown, hts⟩ (c_Li_dropImage l D (qa 1) qa H.size) rfl rfl w_161 w_158 w_159 w_160 w_7 (by decide +kernel) ⟨Nat.le_of_ble_eq_true rfl, Nat.le_of_ble_eq_true rfl⟩ hP hD hK hS hA hN hZ [1] [0] rfl rfl (by decide) (by decide) (by decide) [] [] rfl rfl (ci := 2) (q0 := 0) (q := (R_Li, F_Li, 7)) rfl rfl rfl rfl hl.1 rfl (Nat.le_of_ble_eq_true rfl) d_OF_clear_14 ⟨Nat.le_of_ble_eq_true rfl, Nat.le_of_ble_eq_true rfl⟩ (fun u1 H locs hP hD hK hS => ?_)
  have hP : va_P D cls [(h0, .inr (0, [.ref (qa 0), .ref (qa 1), .ref (qa 2), .int 0])), ((qa 1), .inr (2, [.ref (qa 27), .int 0, .int 0, .int 0, .int 0, .int (-1), .int (-1)]))] H := hP
  have hD : va_D A [(h0, .inr (0, [.ref (qa 0), .ref (qa 1), .ref (qa 2), .int 0])), ((qa 1), .inr (2, [.ref (qa 27), .int 0, .int 0, .int 0, .int 0, .int (-1), .int (-1)]))] := hD
  have hK : va_K D cls [] s := hK
  refine W.eq (g2 := F0 m 17 ls []) rfl ?_
  refine lv_iload_n hx hb d_OF_clear_17 rfl (lv_at hl 0 rfl) ?_
  exact xr_i hx hb hr hlocks hP hD hK hS (()) [0, 1] rfl rfl (by decide) [] rfl rfl d_OF_clear_18

theorem d_OF_count_0 : decode b_OF_count 0 = .ok (.iload_n 1, 1) := by decide +kernel
theorem d_OF_count_1 : decode b_OF_count 1 = .ok (.tableswitch 71 0 3 #[31, 42, 47, 59], 31) := by decide +kernel
theorem d_OF_count_32 : decode b_OF_count 32 = .ok (.aload_n 0, 1) := by decide +kernel
theorem d_OF_count_33 : decode b_OF_count 33 = .ok (.getfield 10, 3) := by decide +kernel
theorem d_OF_count_36 : decode b_OF_count 36 = .ok (.getfield 34, 3) := by decide +kernel
theorem d_OF_count_39 : decode b_OF_count 39 = .ok (.getfield 38, 3) := by decide +kernel
theorem d_OF_count_42 : decode b_OF_count 42 = .ok (.ireturn, 1) := by decide +kernel
set_option maxHeartbeats 4000000 in
set_option maxRecDepth 100000 in
theorem c_OF_count_0 (l : Launch) (D : va_G) (h0 : Nat) (qa : Nat → Nat) (p1 : Int32) (sz : Nat) : Met l y_OF_count (Cond.code y_OF_count b_OF_count 3 (some .int) :: bw) (xR 1 0 0) (va_Pc [.ref h0, .int 0, .int p1] (xP D [] sz [(h0, .inr (0, [.ref (qa 0), .ref (qa 1), .ref (qa 2), .int 0])), ((qa 0), .inr (1, [.ref (qa 3), .ref (qa 4), .int 0, .int 0, .int 0, .int 0, .int 0, .int (-1), .long 0, .int 0, .int 0, .int 0, .int 0, .int (-1), .int (-1)])), ((qa 3), .inr (4, [.ref (qa 5), .int 0, .int 0, .int 0, .ref (qa 6), .ref (qa 7), .ref (qa 8)]))])) (xQ (S := Unit) (fun _ => some (.int 0)) (fun _ => [(h0, .inr (0, [.ref (qa 0), .ref (qa 1), .ref (qa 2), .int 0])), ((qa 0), .inr (1, [.ref (qa 3), .ref (qa 4), .int 0, .int 0, .int 0, .int 0, .int 0, .int (-1), .long 0, .int 0, .int 0, .int 0, .int 0, .int (-1), .int (-1)])), ((qa 3), .inr (4, [.ref (qa 5), .int 0, .int 0, .int 0, .ref (qa 6), .ref (qa 7), .ref (qa 8)]))]) (fun _ => []) D (va_A [(h0, .inr (0, [.ref (qa 0), .ref (qa 1), .ref (qa 2), .int 0])), ((qa 0), .inr (1, [.ref (qa 3), .ref (qa 4), .int 0, .int 0, .int 0, .int 0, .int 0, .int (-1), .long 0, .int 0, .int 0, .int 0, .int 0, .int (-1), .int (-1)])), ((qa 3), .inr (4, [.ref (qa 5), .int 0, .int 0, .int 0, .ref (qa 6), .ref (qa 7), .ref (qa 8)]))] sz)) 0 0 (va_A [(h0, .inr (0, [.ref (qa 0), .ref (qa 1), .ref (qa 2), .int 0])), ((qa 0), .inr (1, [.ref (qa 3), .ref (qa 4), .int 0, .int 0, .int 0, .int 0, .int 0, .int (-1), .long 0, .int 0, .int 0, .int 0, .int 0, .int (-1), .int (-1)])), ((qa 3), .inr (4, [.ref (qa 5), .int 0, .int 0, .int 0, .ref (qa 6), .ref (qa 7), .ref (qa 8)]))] sz) := by
  refine Met.ofW (cc := b_OF_count) (maxL := 3) (ret := (some .int)) (by decide) rfl ?_
  intro p e s m args below meth c s₁ B hml hv
  obtain ⟨rfl, hsz, hP, hK, hD0, hN, hZ⟩ := hv
  have hx := B.exec
  have hb := B.bytes
  have hr := B.returns
  have hlocks := B.notSynchronized
  have hts : ∀ w ∈ bw, w.before _ s = true := fun w h => atoms_spec (ws := Cond.code y_OF_count b_OF_count 3 (some .int) :: bw) B.pre w (List.mem_cons_of_mem _ h)
  have hown : s.vm.findClass "ObjectForge" = some m.cls := findClass_of_methodNamed B.named
  subst hsz
  have hP0 := hP
  have hD := hD0.self (sz := s.heap.size)
  generalize hAe : va_A [(h0, .inr (0, [.ref (qa 0), .ref (qa 1), .ref (qa 2), .int 0])), ((qa 0), .inr (1, [.ref (qa 3), .ref (qa 4), .int 0, .int 0, .int 0, .int 0, .int 0, .int (-1), .long 0, .int 0, .int 0, .int 0, .int 0, .int (-1), .int (-1)])), ((qa 3), .inr (4, [.ref (qa 5), .int 0, .int 0, .int 0, .ref (qa 6), .ref (qa 7), .ref (qa 8)]))] s.heap.size = A at hD hZ ⊢
  have hA : ∀ q : Nat, s.heap.size ≤ q → A q := fun q h => by rw [← hAe]; exact Or.inr h
  have hS : va_S A s.heap s.heap [] := va_S.rf
  have hl := lv_entry ([.ref h0, .int 0, .int p1]) (n := 3) (Nat.le_of_ble_eq_true rfl)
  rw [lg_entry_eq]
  generalize (lg_sl ([.ref h0, .int 0, .int p1]) ++ List.replicate (3 - (lg_sl ([.ref h0, .int 0, .int p1])).length) Slot.unset).toArray = ls at hl ⊢
  have hl : lv_has ls 3 [(0, .ref h0), (1, .int 0), (2, .int p1)] := hl
  refine lv_iload_n hx hb d_OF_count_0 rfl (lv_at hl 1 rfl) ?_
  refine lv_tableIn (off := 31) (tgt := 32) hx hb d_OF_count_1 (by decide) (by decide) (by decide) (by decide) ?_
  refine lv_aload_n hx hb d_OF_count_32 rfl (lv_at hl 0 rfl) ?_
  refine va_get (D := D) (ci := 0) (v := .ref (qa 0)) (C := R_OF) (T := F_OF) (N := 4) hx hb hts i_OF hown hK hP 0 rfl rfl 0 (by decide) (hts _ w_150) (fun _ h9 => h9) rfl d_OF_count_33 ?_
  refine va_get (D := D) (ci := 1) (v := .ref (qa 3)) (C := R_As) (T := F_As) (N := 15) hx hb hts i_As hown hK hP 1 rfl rfl 0 (by decide) (hts _ w_114) (fun _ h9 => h9) rfl d_OF_count_36 ?_
  refine va_get (D := D) (ci := 4) (v := .int 0) (C := R_So) (T := F_So) (N := 7) hx hb hts i_So hown hK hP 2 rfl rfl 1 (by decide) (hts _ w_36) (fun _ h9 => h9) rfl d_OF_count_39 ?_
  exact xr_i hx hb hr hlocks hP hD hK hS (()) [0, 1, 2] rfl rfl (by decide) [] rfl rfl d_OF_count_42

theorem d_OF_count_43 : decode b_OF_count 43 = .ok (.aload_n 0, 1) := by decide +kernel
theorem d_OF_count_44 : decode b_OF_count 44 = .ok (.getfield 29, 3) := by decide +kernel
theorem d_OF_count_47 : decode b_OF_count 47 = .ok (.ireturn, 1) := by decide +kernel
set_option maxHeartbeats 4000000 in
set_option maxRecDepth 100000 in
theorem c_OF_count_1 (l : Launch) (D : va_G) (h0 : Nat) (qa : Nat → Nat) (p1 : Int32) (sz : Nat) : Met l y_OF_count (Cond.code y_OF_count b_OF_count 3 (some .int) :: bw) (xR 1 0 0) (va_Pc [.ref h0, .int 1, .int p1] (xP D [] sz [(h0, .inr (0, [.ref (qa 0), .ref (qa 1), .ref (qa 2), .int 0])), ((qa 0), .inr (1, [.ref (qa 3), .ref (qa 4), .int 0, .int 0, .int 0, .int 0, .int 0, .int (-1), .long 0, .int 0, .int 0, .int 0, .int 0, .int (-1), .int (-1)])), ((qa 3), .inr (4, [.ref (qa 5), .int 0, .int 0, .int 0, .ref (qa 6), .ref (qa 7), .ref (qa 8)]))])) (xQ (S := Unit) (fun _ => some (.int 0)) (fun _ => [(h0, .inr (0, [.ref (qa 0), .ref (qa 1), .ref (qa 2), .int 0])), ((qa 0), .inr (1, [.ref (qa 3), .ref (qa 4), .int 0, .int 0, .int 0, .int 0, .int 0, .int (-1), .long 0, .int 0, .int 0, .int 0, .int 0, .int (-1), .int (-1)])), ((qa 3), .inr (4, [.ref (qa 5), .int 0, .int 0, .int 0, .ref (qa 6), .ref (qa 7), .ref (qa 8)]))]) (fun _ => []) D (va_A [(h0, .inr (0, [.ref (qa 0), .ref (qa 1), .ref (qa 2), .int 0])), ((qa 0), .inr (1, [.ref (qa 3), .ref (qa 4), .int 0, .int 0, .int 0, .int 0, .int 0, .int (-1), .long 0, .int 0, .int 0, .int 0, .int 0, .int (-1), .int (-1)])), ((qa 3), .inr (4, [.ref (qa 5), .int 0, .int 0, .int 0, .ref (qa 6), .ref (qa 7), .ref (qa 8)]))] sz)) 0 0 (va_A [(h0, .inr (0, [.ref (qa 0), .ref (qa 1), .ref (qa 2), .int 0])), ((qa 0), .inr (1, [.ref (qa 3), .ref (qa 4), .int 0, .int 0, .int 0, .int 0, .int 0, .int (-1), .long 0, .int 0, .int 0, .int 0, .int 0, .int (-1), .int (-1)])), ((qa 3), .inr (4, [.ref (qa 5), .int 0, .int 0, .int 0, .ref (qa 6), .ref (qa 7), .ref (qa 8)]))] sz) := by
  refine Met.ofW (cc := b_OF_count) (maxL := 3) (ret := (some .int)) (by decide) rfl ?_
  intro p e s m args below meth c s₁ B hml hv
  obtain ⟨rfl, hsz, hP, hK, hD0, hN, hZ⟩ := hv
  have hx := B.exec
  have hb := B.bytes
  have hr := B.returns
  have hlocks := B.notSynchronized
  have hts : ∀ w ∈ bw, w.before _ s = true := fun w h => atoms_spec (ws := Cond.code y_OF_count b_OF_count 3 (some .int) :: bw) B.pre w (List.mem_cons_of_mem _ h)
  have hown : s.vm.findClass "ObjectForge" = some m.cls := findClass_of_methodNamed B.named
  subst hsz
  have hP0 := hP
  have hD := hD0.self (sz := s.heap.size)
  generalize hAe : va_A [(h0, .inr (0, [.ref (qa 0), .ref (qa 1), .ref (qa 2), .int 0])), ((qa 0), .inr (1, [.ref (qa 3), .ref (qa 4), .int 0, .int 0, .int 0, .int 0, .int 0, .int (-1), .long 0, .int 0, .int 0, .int 0, .int 0, .int (-1), .int (-1)])), ((qa 3), .inr (4, [.ref (qa 5), .int 0, .int 0, .int 0, .ref (qa 6), .ref (qa 7), .ref (qa 8)]))] s.heap.size = A at hD hZ ⊢
  have hA : ∀ q : Nat, s.heap.size ≤ q → A q := fun q h => by rw [← hAe]; exact Or.inr h
  have hS : va_S A s.heap s.heap [] := va_S.rf
  have hl := lv_entry ([.ref h0, .int 1, .int p1]) (n := 3) (Nat.le_of_ble_eq_true rfl)
  rw [lg_entry_eq]
  generalize (lg_sl ([.ref h0, .int 1, .int p1]) ++ List.replicate (3 - (lg_sl ([.ref h0, .int 1, .int p1])).length) Slot.unset).toArray = ls at hl ⊢
  have hl : lv_has ls 3 [(0, .ref h0), (1, .int 1), (2, .int p1)] := hl
  refine lv_iload_n hx hb d_OF_count_0 rfl (lv_at hl 1 rfl) ?_
  refine lv_tableIn (off := 42) (tgt := 43) hx hb d_OF_count_1 (by decide) (by decide) (by decide) (by decide) ?_
  refine lv_aload_n hx hb d_OF_count_43 rfl (lv_at hl 0 rfl) ?_
  refine va_get (D := D) (ci := 0) (v := .int 0) (C := R_OF) (T := F_OF) (N := 4) hx hb hts i_OF hown hK hP 0 rfl rfl 3 (by decide) (hts _ w_153) (fun _ h9 => h9) rfl d_OF_count_44 ?_
  exact xr_i hx hb hr hlocks hP hD hK hS (()) [0, 1, 2] rfl rfl (by decide) [] rfl rfl d_OF_count_47

theorem d_OF_count_48 : decode b_OF_count 48 = .ok (.aload_n 0, 1) := by decide +kernel
theorem d_OF_count_49 : decode b_OF_count 49 = .ok (.iload_n 2, 1) := by decide +kernel
theorem d_OF_count_50 : decode b_OF_count 50 = .ok (.invokevirtual 87, 3) := by decide +kernel
set_option maxHeartbeats 4000000 in
set_option maxRecDepth 100000 in
theorem c_OF_count_2_n (l : Launch) (htr : l.stackTraces = false) (D : va_G) (h0 : Nat) (qa : Nat → Nat) (p1 : Int32) (hk : p1 < 0) (sz : Nat) : MetT l y_OF_count (Cond.code y_OF_count b_OF_count 3 (some .int) :: bw) (xR 3 1 6) (va_Pc [.ref h0, .int 2, .int p1] (xP D [] sz [(h0, .inr (0, [.ref (qa 0), .ref (qa 1), .ref (qa 2), .int 0]))])) (xQT "java/lang/IndexOutOfBoundsException" (va_A [(h0, .inr (0, [.ref (qa 0), .ref (qa 1), .ref (qa 2), .int 0]))] sz)) 1 6 (va_A [(h0, .inr (0, [.ref (qa 0), .ref (qa 1), .ref (qa 2), .int 0]))] sz) := by
  refine MetT.ofW (cc := b_OF_count) (maxL := 3) (ret := (some .int)) (by decide) rfl ?_
  intro p e s m args below meth c s₁ B hml hno hv
  obtain ⟨rfl, hsz, hP, hK, hD0, hN, hZ⟩ := hv
  have hx := B.exec
  have hb := B.bytes
  have hr := B.returns
  have hlocks := B.notSynchronized
  have hts : ∀ w ∈ bw, w.before _ s = true := fun w h => atoms_spec (ws := Cond.code y_OF_count b_OF_count 3 (some .int) :: bw) B.pre w (List.mem_cons_of_mem _ h)
  have hown : s.vm.findClass "ObjectForge" = some m.cls := findClass_of_methodNamed B.named
  subst hsz
  have hP0 := hP
  have hD := hD0.self (sz := s.heap.size)
  generalize hAe : va_A [(h0, .inr (0, [.ref (qa 0), .ref (qa 1), .ref (qa 2), .int 0]))] s.heap.size = A at hD hZ ⊢
  have hA : ∀ q : Nat, s.heap.size ≤ q → A q := fun q h => by rw [← hAe]; exact Or.inr h
  have hS : va_S A s.heap s.heap [] := va_S.rf
  have hl := lv_entry ([.ref h0, .int 2, .int p1]) (n := 3) (Nat.le_of_ble_eq_true rfl)
  rw [lg_entry_eq]
  generalize (lg_sl ([.ref h0, .int 2, .int p1]) ++ List.replicate (3 - (lg_sl ([.ref h0, .int 2, .int p1])).length) Slot.unset).toArray = ls at hl ⊢
  have hl : lv_has ls 3 [(0, .ref h0), (1, .int 2), (2, .int p1)] := hl
  refine lv_iload_n hx hb d_OF_count_0 rfl (lv_at hl 1 rfl) ?_
  refine lv_tableIn (off := 47) (tgt := 48) hx hb d_OF_count_1 (by decide) (by decide) (by decide) (by decide) ?_
  refine lv_aload_n hx hb d_OF_count_48 rfl (lv_at hl 0 rfl) ?_
  refine lv_iload_n hx hb d_OF_count_49 rfl (lv_at hl 2 rfl) ?_
  refine xt_V (As := [.int p1]) (rest := []) (n := 1) (wc := [(h0, .inr (0, [.ref (qa 0), .ref (qa 1), .ref (qa 2), .int 0]))]) (wr := []) (tc := [])  ⟨hx, hb, hml, hown, hts⟩ (c_OF_unitNumbered_n l htr D h0 qa p1 hk s.heap.size) rfl rfl w_323 w_321 w_322 w_556 w_1 (by decide +kernel) ⟨Nat.le_of_ble_eq_true rfl, Nat.le_of_ble_eq_true rfl⟩ hP hD hK hS hA hN hZ [0] [] rfl rfl (by decide) (by decide) (by decide) [] rfl (ci := 0) (q0 := 0) (q := (R_OF, F_OF, 4)) rfl rfl rfl rfl hl.1 rfl (Nat.le_of_ble_eq_true rfl) d_OF_count_50 ⟨Nat.le_of_ble_eq_true rfl, Nat.le_of_ble_eq_true rfl⟩ (fun x H locs hxn hcell hP hD hS => ?_)
  exact WT.out hno hlocks (fun t ht hW => ⟨⟨hxn, by rw [ht, hW.alike.findClass]; exact hcell⟩, hS.F ht⟩) hS.2.2

set_option maxHeartbeats 4000000 in
set_option maxRecDepth 100000 in
theorem c_OF_count_2_g (l : Launch) (htr : l.stackTraces = false) (D : va_G) (h0 : Nat) (qa : Nat → Nat) (p1 : Int32) (hk : ¬ p1 < 0) (hg : ¬ p1 < 0) (sz : Nat) : MetT l y_OF_count (Cond.code y_OF_count b_OF_count 3 (some .int) :: bw) (xR 3 1 6) (va_Pc [.ref h0, .int 2, .int p1] (xP D [] sz [(h0, .inr (0, [.ref (qa 0), .ref (qa 1), .ref (qa 2), .int 0]))])) (xQT "java/lang/IndexOutOfBoundsException" (va_A [(h0, .inr (0, [.ref (qa 0), .ref (qa 1), .ref (qa 2), .int 0]))] sz)) 1 6 (va_A [(h0, .inr (0, [.ref (qa 0), .ref (qa 1), .ref (qa 2), .int 0]))] sz) := by
  refine MetT.ofW (cc := b_OF_count) (maxL := 3) (ret := (some .int)) (by decide) rfl ?_
  intro p e s m args below meth c s₁ B hml hno hv
  obtain ⟨rfl, hsz, hP, hK, hD0, hN, hZ⟩ := hv
  have hx := B.exec
  have hb := B.bytes
  have hr := B.returns
  have hlocks := B.notSynchronized
  have hts : ∀ w ∈ bw, w.before _ s = true := fun w h => atoms_spec (ws := Cond.code y_OF_count b_OF_count 3 (some .int) :: bw) B.pre w (List.mem_cons_of_mem _ h)
  have hown : s.vm.findClass "ObjectForge" = some m.cls := findClass_of_methodNamed B.named
  subst hsz
  have hP0 := hP
  have hD := hD0.self (sz := s.heap.size)
  generalize hAe : va_A [(h0, .inr (0, [.ref (qa 0), .ref (qa 1), .ref (qa 2), .int 0]))] s.heap.size = A at hD hZ ⊢
  have hA : ∀ q : Nat, s.heap.size ≤ q → A q := fun q h => by rw [← hAe]; exact Or.inr h
  have hS : va_S A s.heap s.heap [] := va_S.rf
  have hl := lv_entry ([.ref h0, .int 2, .int p1]) (n := 3) (Nat.le_of_ble_eq_true rfl)
  rw [lg_entry_eq]
  generalize (lg_sl ([.ref h0, .int 2, .int p1]) ++ List.replicate (3 - (lg_sl ([.ref h0, .int 2, .int p1])).length) Slot.unset).toArray = ls at hl ⊢
  have hl : lv_has ls 3 [(0, .ref h0), (1, .int 2), (2, .int p1)] := hl
  refine lv_iload_n hx hb d_OF_count_0 rfl (lv_at hl 1 rfl) ?_
  refine lv_tableIn (off := 47) (tgt := 48) hx hb d_OF_count_1 (by decide) (by decide) (by decide) (by decide) ?_
  refine lv_aload_n hx hb d_OF_count_48 rfl (lv_at hl 0 rfl) ?_
  refine lv_iload_n hx hb d_OF_count_49 rfl (lv_at hl 2 rfl) ?_
  refine xt_V (As := [.int p1]) (rest := []) (n := 1) (wc := [(h0, .inr (0, [.ref (qa 0), .ref (qa 1), .ref (qa 2), .int 0]))]) (wr := []) (tc := [])  ⟨hx, hb, hml, hown, hts⟩ (c_OF_unitNumbered_g l htr D h0 qa p1 hk hg s.heap.size) rfl rfl w_323 w_321 w_322 w_556 w_1 (by decide +kernel) ⟨Nat.le_of_ble_eq_true rfl, Nat.le_of_ble_eq_true rfl⟩ hP hD hK hS hA hN hZ [0] [] rfl rfl (by decide) (by decide) (by decide) [] rfl (ci := 0) (q0 := 0) (q := (R_OF, F_OF, 4)) rfl rfl rfl rfl hl.1 rfl (Nat.le_of_ble_eq_true rfl) d_OF_count_50 ⟨Nat.le_of_ble_eq_true rfl, Nat.le_of_ble_eq_true rfl⟩ (fun x H locs hxn hcell hP hD hS => ?_)
  exact WT.out hno hlocks (fun t ht hW => ⟨⟨hxn, by rw [ht, hW.alike.findClass]; exact hcell⟩, hS.F ht⟩) hS.2.2

theorem d_OF_count_60 : decode b_OF_count 60 = .ok (.aload_n 0, 1) := by decide +kernel
theorem d_OF_count_61 : decode b_OF_count 61 = .ok (.iload_n 2, 1) := by decide +kernel
theorem d_OF_count_62 : decode b_OF_count 62 = .ok (.invokevirtual 87, 3) := by decide +kernel
set_option maxHeartbeats 4000000 in
set_option maxRecDepth 100000 in
theorem c_OF_count_3_n (l : Launch) (htr : l.stackTraces = false) (D : va_G) (h0 : Nat) (qa : Nat → Nat) (p1 : Int32) (hk : p1 < 0) (sz : Nat) : MetT l y_OF_count (Cond.code y_OF_count b_OF_count 3 (some .int) :: bw) (xR 3 1 6) (va_Pc [.ref h0, .int 3, .int p1] (xP D [] sz [(h0, .inr (0, [.ref (qa 0), .ref (qa 1), .ref (qa 2), .int 0]))])) (xQT "java/lang/IndexOutOfBoundsException" (va_A [(h0, .inr (0, [.ref (qa 0), .ref (qa 1), .ref (qa 2), .int 0]))] sz)) 1 6 (va_A [(h0, .inr (0, [.ref (qa 0), .ref (qa 1), .ref (qa 2), .int 0]))] sz) := by
  refine MetT.ofW (cc := b_OF_count) (maxL := 3) (ret := (some .int)) (by decide) rfl ?_
  intro p e s m args below meth c s₁ B hml hno hv
  obtain ⟨rfl, hsz, hP, hK, hD0, hN, hZ⟩ := hv
  have hx := B.exec
  have hb := B.bytes
  have hr := B.returns
  have hlocks := B.notSynchronized
  have hts : ∀ w ∈ bw, w.before _ s = true := fun w h => atoms_spec (ws := Cond.code y_OF_count b_OF_count 3 (some .int) :: bw) B.pre w (List.mem_cons_of_mem _ h)
  have hown : s.vm.findClass "ObjectForge" = some m.cls := findClass_of_methodNamed B.named
  subst hsz
  have hP0 := hP
  have hD := hD0.self (sz := s.heap.size)
  generalize hAe : va_A [(h0, .inr (0, [.ref (qa 0), .ref (qa 1), .ref (qa 2), .int 0]))] s.heap.size = A at hD hZ ⊢
  have hA : ∀ q : Nat, s.heap.size ≤ q → A q := fun q h => by rw [← hAe]; exact Or.inr h
  have hS : va_S A s.heap s.heap [] := va_S.rf
  have hl := lv_entry ([.ref h0, .int 3, .int p1]) (n := 3) (Nat.le_of_ble_eq_true rfl)
  rw [lg_entry_eq]
  generalize (lg_sl ([.ref h0, .int 3, .int p1]) ++ List.replicate (3 - (lg_sl ([.ref h0, .int 3, .int p1])).length) Slot.unset).toArray = ls at hl ⊢
  have hl : lv_has ls 3 [(0, .ref h0), (1, .int 3), (2, .int p1)] := hl
  refine lv_iload_n hx hb d_OF_count_0 rfl (lv_at hl 1 rfl) ?_
  refine lv_tableIn (off := 59) (tgt := 60) hx hb d_OF_count_1 (by decide) (by decide) (by decide) (by decide) ?_
  refine lv_aload_n hx hb d_OF_count_60 rfl (lv_at hl 0 rfl) ?_
  refine lv_iload_n hx hb d_OF_count_61 rfl (lv_at hl 2 rfl) ?_
  refine xt_V (As := [.int p1]) (rest := []) (n := 1) (wc := [(h0, .inr (0, [.ref (qa 0), .ref (qa 1), .ref (qa 2), .int 0]))]) (wr := []) (tc := [])  ⟨hx, hb, hml, hown, hts⟩ (c_OF_unitNumbered_n l htr D h0 qa p1 hk s.heap.size) rfl rfl w_323 w_321 w_322 w_556 w_1 (by decide +kernel) ⟨Nat.le_of_ble_eq_true rfl, Nat.le_of_ble_eq_true rfl⟩ hP hD hK hS hA hN hZ [0] [] rfl rfl (by decide) (by decide) (by decide) [] rfl (ci := 0) (q0 := 0) (q := (R_OF, F_OF, 4)) rfl rfl rfl rfl hl.1 rfl (Nat.le_of_ble_eq_true rfl) d_OF_count_62 ⟨Nat.le_of_ble_eq_true rfl, Nat.le_of_ble_eq_true rfl⟩ (fun x H locs hxn hcell hP hD hS => ?_)
  exact WT.out hno hlocks (fun t ht hW => ⟨⟨hxn, by rw [ht, hW.alike.findClass]; exact hcell⟩, hS.F ht⟩) hS.2.2

set_option maxHeartbeats 4000000 in
set_option maxRecDepth 100000 in
theorem c_OF_count_3_g (l : Launch) (htr : l.stackTraces = false) (D : va_G) (h0 : Nat) (qa : Nat → Nat) (p1 : Int32) (hk : ¬ p1 < 0) (hg : ¬ p1 < 0) (sz : Nat) : MetT l y_OF_count (Cond.code y_OF_count b_OF_count 3 (some .int) :: bw) (xR 3 1 6) (va_Pc [.ref h0, .int 3, .int p1] (xP D [] sz [(h0, .inr (0, [.ref (qa 0), .ref (qa 1), .ref (qa 2), .int 0]))])) (xQT "java/lang/IndexOutOfBoundsException" (va_A [(h0, .inr (0, [.ref (qa 0), .ref (qa 1), .ref (qa 2), .int 0]))] sz)) 1 6 (va_A [(h0, .inr (0, [.ref (qa 0), .ref (qa 1), .ref (qa 2), .int 0]))] sz) := by
  refine MetT.ofW (cc := b_OF_count) (maxL := 3) (ret := (some .int)) (by decide) rfl ?_
  intro p e s m args below meth c s₁ B hml hno hv
  obtain ⟨rfl, hsz, hP, hK, hD0, hN, hZ⟩ := hv
  have hx := B.exec
  have hb := B.bytes
  have hr := B.returns
  have hlocks := B.notSynchronized
  have hts : ∀ w ∈ bw, w.before _ s = true := fun w h => atoms_spec (ws := Cond.code y_OF_count b_OF_count 3 (some .int) :: bw) B.pre w (List.mem_cons_of_mem _ h)
  have hown : s.vm.findClass "ObjectForge" = some m.cls := findClass_of_methodNamed B.named
  subst hsz
  have hP0 := hP
  have hD := hD0.self (sz := s.heap.size)
  generalize hAe : va_A [(h0, .inr (0, [.ref (qa 0), .ref (qa 1), .ref (qa 2), .int 0]))] s.heap.size = A at hD hZ ⊢
  have hA : ∀ q : Nat, s.heap.size ≤ q → A q := fun q h => by rw [← hAe]; exact Or.inr h
  have hS : va_S A s.heap s.heap [] := va_S.rf
  have hl := lv_entry ([.ref h0, .int 3, .int p1]) (n := 3) (Nat.le_of_ble_eq_true rfl)
  rw [lg_entry_eq]
  generalize (lg_sl ([.ref h0, .int 3, .int p1]) ++ List.replicate (3 - (lg_sl ([.ref h0, .int 3, .int p1])).length) Slot.unset).toArray = ls at hl ⊢
  have hl : lv_has ls 3 [(0, .ref h0), (1, .int 3), (2, .int p1)] := hl
  refine lv_iload_n hx hb d_OF_count_0 rfl (lv_at hl 1 rfl) ?_
  refine lv_tableIn (off := 59) (tgt := 60) hx hb d_OF_count_1 (by decide) (by decide) (by decide) (by decide) ?_
  refine lv_aload_n hx hb d_OF_count_60 rfl (lv_at hl 0 rfl) ?_
  refine lv_iload_n hx hb d_OF_count_61 rfl (lv_at hl 2 rfl) ?_
  refine xt_V (As := [.int p1]) (rest := []) (n := 1) (wc := [(h0, .inr (0, [.ref (qa 0), .ref (qa 1), .ref (qa 2), .int 0]))]) (wr := []) (tc := [])  ⟨hx, hb, hml, hown, hts⟩ (c_OF_unitNumbered_g l htr D h0 qa p1 hk hg s.heap.size) rfl rfl w_323 w_321 w_322 w_556 w_1 (by decide +kernel) ⟨Nat.le_of_ble_eq_true rfl, Nat.le_of_ble_eq_true rfl⟩ hP hD hK hS hA hN hZ [0] [] rfl rfl (by decide) (by decide) (by decide) [] rfl (ci := 0) (q0 := 0) (q := (R_OF, F_OF, 4)) rfl rfl rfl rfl hl.1 rfl (Nat.le_of_ble_eq_true rfl) d_OF_count_62 ⟨Nat.le_of_ble_eq_true rfl, Nat.le_of_ble_eq_true rfl⟩ (fun x H locs hxn hcell hP hD hS => ?_)
  exact WT.out hno hlocks (fun t ht hW => ⟨⟨hxn, by rw [ht, hW.alike.findClass]; exact hcell⟩, hS.F ht⟩) hS.2.2

theorem d_OF_count_72 : decode b_OF_count 72 = .ok (.new 82, 3) := by decide +kernel
theorem d_OF_count_75 : decode b_OF_count 75 = .ok (.dup, 1) := by decide +kernel
theorem d_OF_count_76 : decode b_OF_count 76 = .ok (.ldc 125, 2) := by decide +kernel
theorem d_OF_count_78 : decode b_OF_count 78 = .ok (.invokespecial 86, 3) := by decide +kernel
theorem d_OF_count_81 : decode b_OF_count 81 = .ok (.athrow, 1) := by decide +kernel
set_option maxHeartbeats 4000000 in
set_option maxRecDepth 100000 in
theorem c_OF_count_x (l : Launch) (htr : l.stackTraces = false) (D : va_G) (h0 : Nat) (qa : Nat → Nat) (p0 p1 : Int32) (h1 : p0.toInt < 0 ∨ 3 < p0.toInt) (sz : Nat) : MetT l y_OF_count (Cond.code y_OF_count b_OF_count 3 (some .int) :: bw) (xR 1 1 6) (va_Pc [.ref h0, .int p0, .int p1] (xP D [] sz [(h0, .inr (0, [.ref (qa 0), .ref (qa 1), .ref (qa 2), .int 0]))])) (xQT "java/lang/IndexOutOfBoundsException" (va_A [(h0, .inr (0, [.ref (qa 0), .ref (qa 1), .ref (qa 2), .int 0]))] sz)) 1 6 (va_A [(h0, .inr (0, [.ref (qa 0), .ref (qa 1), .ref (qa 2), .int 0]))] sz) := by
  refine MetT.ofW (cc := b_OF_count) (maxL := 3) (ret := (some .int)) (by decide) rfl ?_
  intro p e s m args below meth c s₁ B hml hno hv
  obtain ⟨rfl, hsz, hP, hK, hD0, hN, hZ⟩ := hv
  have hx := B.exec
  have hb := B.bytes
  have hr := B.returns
  have hlocks := B.notSynchronized
  have hts : ∀ w ∈ bw, w.before _ s = true := fun w h => atoms_spec (ws := Cond.code y_OF_count b_OF_count 3 (some .int) :: bw) B.pre w (List.mem_cons_of_mem _ h)
  have hown : s.vm.findClass "ObjectForge" = some m.cls := findClass_of_methodNamed B.named
  subst hsz
  have hP0 := hP
  have hD := hD0.self (sz := s.heap.size)
  generalize hAe : va_A [(h0, .inr (0, [.ref (qa 0), .ref (qa 1), .ref (qa 2), .int 0]))] s.heap.size = A at hD hZ ⊢
  have hA : ∀ q : Nat, s.heap.size ≤ q → A q := fun q h => by rw [← hAe]; exact Or.inr h
  have hS : va_S A s.heap s.heap [] := va_S.rf
  have hl := lv_entry ([.ref h0, .int p0, .int p1]) (n := 3) (Nat.le_of_ble_eq_true rfl)
  rw [lg_entry_eq]
  generalize (lg_sl ([.ref h0, .int p0, .int p1]) ++ List.replicate (3 - (lg_sl ([.ref h0, .int p0, .int p1])).length) Slot.unset).toArray = ls at hl ⊢
  have hl : lv_has ls 3 [(0, .ref h0), (1, .int p0), (2, .int p1)] := hl
  refine lv_iload_n hx hb d_OF_count_0 rfl (lv_at hl 1 rfl) ?_
  refine lv_tableOut (tgt := 72) hx hb d_OF_count_1 h1 (by decide) ?_
  exact x_throw (tx := "what is not 0 to 3") hx hb hml hown hts hN hZ htr hno hlocks own_ioobe (by decide +kernel) w_303 w_304 w_15 (by simp [xnS]) hS (by simp) hl.1 (Nat.le_of_ble_eq_true rfl) (Nat.le_of_ble_eq_true rfl) (Nat.le_of_ble_eq_true rfl) (Nat.le_of_ble_eq_true rfl) d_OF_count_72 d_OF_count_75 d_OF_count_76 d_OF_count_78 d_OF_count_81
