theorem d_Mo_thrown_0 : decode b_Mo_thrown 0 = .ok (.aload_n 0, 1) := by decide +kernel
theorem d_Mo_thrown_1 : decode b_Mo_thrown 1 = .ok (.getfield 88, 3) := by decide +kernel
theorem d_Mo_thrown_4 : decode b_Mo_thrown 4 = .ok (.ireturn, 1) := by decide +kernel
set_option maxHeartbeats 4000000 in
set_option maxRecDepth 100000 in
theorem c_Mo_thrown_0 (l : Launch) (D : va_G) (h0 : Nat) (qa : Nat → Nat) (sz : Nat) : Met l y_Mo_thrown (Cond.code y_Mo_thrown b_Mo_thrown 1 (some .int) :: bw) (xR 1 0 0) (va_Pc [.ref h0] (xP D [] sz [(h0, .inr (7, [.int 0, .int 0, .int 0, .int 0, .int 0, .int 0, .int (-1), .int (-1), .int 0, .int 0, .int 0, .int 0, .int 0, .int 0, .int 0, .int 0, .ref (qa 0), .ref (qa 1), .ref (qa 2), .ref (qa 3), .int 0, .ref (qa 4), .ref (qa 5), .ref (qa 6), .ref (qa 7), .ref (qa 8), .ref (qa 9), .ref (qa 10), .ref (qa 11), .ref (qa 12), .ref (qa 13), .ref (qa 14), .ref (qa 15), .ref (qa 16), .ref (qa 17), .ref (qa 18), .ref (qa 19), .ref (qa 20), .int 0, .int 0, .int 0, .int 0, .long 0, .long 0, .long 0, .long 0, .long 0, .ref (qa 21), .int 0, .int 0, .int 0, .int 0]))])) (xQ (S := Unit) (fun _ => some (.int 0)) (fun _ => [(h0, .inr (7, [.int 0, .int 0, .int 0, .int 0, .int 0, .int 0, .int (-1), .int (-1), .int 0, .int 0, .int 0, .int 0, .int 0, .int 0, .int 0, .int 0, .ref (qa 0), .ref (qa 1), .ref (qa 2), .ref (qa 3), .int 0, .ref (qa 4), .ref (qa 5), .ref (qa 6), .ref (qa 7), .ref (qa 8), .ref (qa 9), .ref (qa 10), .ref (qa 11), .ref (qa 12), .ref (qa 13), .ref (qa 14), .ref (qa 15), .ref (qa 16), .ref (qa 17), .ref (qa 18), .ref (qa 19), .ref (qa 20), .int 0, .int 0, .int 0, .int 0, .long 0, .long 0, .long 0, .long 0, .long 0, .ref (qa 21), .int 0, .int 0, .int 0, .int 0]))]) (fun _ => []) D (va_A [(h0, .inr (7, [.int 0, .int 0, .int 0, .int 0, .int 0, .int 0, .int (-1), .int (-1), .int 0, .int 0, .int 0, .int 0, .int 0, .int 0, .int 0, .int 0, .ref (qa 0), .ref (qa 1), .ref (qa 2), .ref (qa 3), .int 0, .ref (qa 4), .ref (qa 5), .ref (qa 6), .ref (qa 7), .ref (qa 8), .ref (qa 9), .ref (qa 10), .ref (qa 11), .ref (qa 12), .ref (qa 13), .ref (qa 14), .ref (qa 15), .ref (qa 16), .ref (qa 17), .ref (qa 18), .ref (qa 19), .ref (qa 20), .int 0, .int 0, .int 0, .int 0, .long 0, .long 0, .long 0, .long 0, .long 0, .ref (qa 21), .int 0, .int 0, .int 0, .int 0]))] sz)) 0 0 (va_A [(h0, .inr (7, [.int 0, .int 0, .int 0, .int 0, .int 0, .int 0, .int (-1), .int (-1), .int 0, .int 0, .int 0, .int 0, .int 0, .int 0, .int 0, .int 0, .ref (qa 0), .ref (qa 1), .ref (qa 2), .ref (qa 3), .int 0, .ref (qa 4), .ref (qa 5), .ref (qa 6), .ref (qa 7), .ref (qa 8), .ref (qa 9), .ref (qa 10), .ref (qa 11), .ref (qa 12), .ref (qa 13), .ref (qa 14), .ref (qa 15), .ref (qa 16), .ref (qa 17), .ref (qa 18), .ref (qa 19), .ref (qa 20), .int 0, .int 0, .int 0, .int 0, .long 0, .long 0, .long 0, .long 0, .long 0, .ref (qa 21), .int 0, .int 0, .int 0, .int 0]))] sz) := by
  refine Met.ofW (cc := b_Mo_thrown) (maxL := 1) (ret := (some .int)) (by decide) rfl ?_
  intro p e s m args below meth c s₁ B hml hv
  obtain ⟨rfl, hsz, hP, hK, hD0, hN, hZ⟩ := hv
  have hx := B.exec
  have hb := B.bytes
  have hr := B.returns
  have hlocks := B.notSynchronized
  have hts : ∀ w ∈ bw, w.before _ s = true := fun w h => atoms_spec (ws := Cond.code y_Mo_thrown b_Mo_thrown 1 (some .int) :: bw) B.pre w (List.mem_cons_of_mem _ h)
  have hown : s.vm.findClass "ObjectForgeModel" = some m.cls := findClass_of_methodNamed B.named
  subst hsz
  have hP0 := hP
  have hD := hD0.self (sz := s.heap.size)
  generalize hAe : va_A [(h0, .inr (7, [.int 0, .int 0, .int 0, .int 0, .int 0, .int 0, .int (-1), .int (-1), .int 0, .int 0, .int 0, .int 0, .int 0, .int 0, .int 0, .int 0, .ref (qa 0), .ref (qa 1), .ref (qa 2), .ref (qa 3), .int 0, .ref (qa 4), .ref (qa 5), .ref (qa 6), .ref (qa 7), .ref (qa 8), .ref (qa 9), .ref (qa 10), .ref (qa 11), .ref (qa 12), .ref (qa 13), .ref (qa 14), .ref (qa 15), .ref (qa 16), .ref (qa 17), .ref (qa 18), .ref (qa 19), .ref (qa 20), .int 0, .int 0, .int 0, .int 0, .long 0, .long 0, .long 0, .long 0, .long 0, .ref (qa 21), .int 0, .int 0, .int 0, .int 0]))] s.heap.size = A at hD hZ ⊢
  have hA : ∀ q : Nat, s.heap.size ≤ q → A q := fun q h => by rw [← hAe]; exact Or.inr h
  have hS : va_S A s.heap s.heap [] := va_S.rf
  have hl := lv_entry ([.ref h0]) (n := 1) (Nat.le_of_ble_eq_true rfl)
  rw [lg_entry_eq]
  generalize (lg_sl ([.ref h0]) ++ List.replicate (1 - (lg_sl ([.ref h0])).length) Slot.unset).toArray = ls at hl ⊢
  have hl : lv_has ls 1 [(0, .ref h0)] := hl
  refine lv_aload_n hx hb d_Mo_thrown_0 rfl (lv_at hl 0 rfl) ?_
  refine va_get (D := D) (ci := 7) (v := .int 0) (C := R_Mo) (T := F_Mo) (N := 52) hx hb hts i_Mo hown hK hP 0 rfl rfl 0 (by decide) (hts _ w_397) (fun _ h9 => h9) rfl d_Mo_thrown_1 ?_
  exact xr_i hx hb hr hlocks hP hD hK hS (()) [0] rfl rfl (by decide) [] rfl rfl d_Mo_thrown_4

set_option maxHeartbeats 4000000 in
set_option maxRecDepth 100000 in
theorem c_Mo_thrown_1 (l : Launch) (D : va_G) (h0 : Nat) (qa : Nat → Nat) (sz : Nat) : Met l y_Mo_thrown (Cond.code y_Mo_thrown b_Mo_thrown 1 (some .int) :: bw) (xR 1 0 0) (va_Pc [.ref h0] (xP D [] sz [(h0, .inr (7, [.int 1, .int 0, .int 0, .int 0, .int 0, .int 0, .int (-1), .int (-1), .int 0, .int 0, .int 0, .int 0, .int 0, .int 0, .int 0, .int 0, .ref (qa 0), .ref (qa 1), .ref (qa 2), .ref (qa 3), .int 0, .ref (qa 4), .ref (qa 5), .ref (qa 6), .ref (qa 7), .ref (qa 8), .ref (qa 9), .ref (qa 10), .ref (qa 11), .ref (qa 12), .ref (qa 13), .ref (qa 14), .ref (qa 15), .ref (qa 16), .ref (qa 17), .ref (qa 18), .ref (qa 19), .ref (qa 20), .int 0, .int 0, .int 0, .int 0, .long 0, .long 0, .long 0, .long 0, .long 0, .ref (qa 21), .int 0, .int 0, .int 0, .int 0]))])) (xQ (S := Unit) (fun _ => some (.int 1)) (fun _ => [(h0, .inr (7, [.int 1, .int 0, .int 0, .int 0, .int 0, .int 0, .int (-1), .int (-1), .int 0, .int 0, .int 0, .int 0, .int 0, .int 0, .int 0, .int 0, .ref (qa 0), .ref (qa 1), .ref (qa 2), .ref (qa 3), .int 0, .ref (qa 4), .ref (qa 5), .ref (qa 6), .ref (qa 7), .ref (qa 8), .ref (qa 9), .ref (qa 10), .ref (qa 11), .ref (qa 12), .ref (qa 13), .ref (qa 14), .ref (qa 15), .ref (qa 16), .ref (qa 17), .ref (qa 18), .ref (qa 19), .ref (qa 20), .int 0, .int 0, .int 0, .int 0, .long 0, .long 0, .long 0, .long 0, .long 0, .ref (qa 21), .int 0, .int 0, .int 0, .int 0]))]) (fun _ => []) D (va_A [(h0, .inr (7, [.int 1, .int 0, .int 0, .int 0, .int 0, .int 0, .int (-1), .int (-1), .int 0, .int 0, .int 0, .int 0, .int 0, .int 0, .int 0, .int 0, .ref (qa 0), .ref (qa 1), .ref (qa 2), .ref (qa 3), .int 0, .ref (qa 4), .ref (qa 5), .ref (qa 6), .ref (qa 7), .ref (qa 8), .ref (qa 9), .ref (qa 10), .ref (qa 11), .ref (qa 12), .ref (qa 13), .ref (qa 14), .ref (qa 15), .ref (qa 16), .ref (qa 17), .ref (qa 18), .ref (qa 19), .ref (qa 20), .int 0, .int 0, .int 0, .int 0, .long 0, .long 0, .long 0, .long 0, .long 0, .ref (qa 21), .int 0, .int 0, .int 0, .int 0]))] sz)) 0 0 (va_A [(h0, .inr (7, [.int 1, .int 0, .int 0, .int 0, .int 0, .int 0, .int (-1), .int (-1), .int 0, .int 0, .int 0, .int 0, .int 0, .int 0, .int 0, .int 0, .ref (qa 0), .ref (qa 1), .ref (qa 2), .ref (qa 3), .int 0, .ref (qa 4), .ref (qa 5), .ref (qa 6), .ref (qa 7), .ref (qa 8), .ref (qa 9), .ref (qa 10), .ref (qa 11), .ref (qa 12), .ref (qa 13), .ref (qa 14), .ref (qa 15), .ref (qa 16), .ref (qa 17), .ref (qa 18), .ref (qa 19), .ref (qa 20), .int 0, .int 0, .int 0, .int 0, .long 0, .long 0, .long 0, .long 0, .long 0, .ref (qa 21), .int 0, .int 0, .int 0, .int 0]))] sz) := by
  refine Met.ofW (cc := b_Mo_thrown) (maxL := 1) (ret := (some .int)) (by decide) rfl ?_
  intro p e s m args below meth c s₁ B hml hv
  obtain ⟨rfl, hsz, hP, hK, hD0, hN, hZ⟩ := hv
  have hx := B.exec
  have hb := B.bytes
  have hr := B.returns
  have hlocks := B.notSynchronized
  have hts : ∀ w ∈ bw, w.before _ s = true := fun w h => atoms_spec (ws := Cond.code y_Mo_thrown b_Mo_thrown 1 (some .int) :: bw) B.pre w (List.mem_cons_of_mem _ h)
  have hown : s.vm.findClass "ObjectForgeModel" = some m.cls := findClass_of_methodNamed B.named
  subst hsz
  have hP0 := hP
  have hD := hD0.self (sz := s.heap.size)
  generalize hAe : va_A [(h0, .inr (7, [.int 1, .int 0, .int 0, .int 0, .int 0, .int 0, .int (-1), .int (-1), .int 0, .int 0, .int 0, .int 0, .int 0, .int 0, .int 0, .int 0, .ref (qa 0), .ref (qa 1), .ref (qa 2), .ref (qa 3), .int 0, .ref (qa 4), .ref (qa 5), .ref (qa 6), .ref (qa 7), .ref (qa 8), .ref (qa 9), .ref (qa 10), .ref (qa 11), .ref (qa 12), .ref (qa 13), .ref (qa 14), .ref (qa 15), .ref (qa 16), .ref (qa 17), .ref (qa 18), .ref (qa 19), .ref (qa 20), .int 0, .int 0, .int 0, .int 0, .long 0, .long 0, .long 0, .long 0, .long 0, .ref (qa 21), .int 0, .int 0, .int 0, .int 0]))] s.heap.size = A at hD hZ ⊢
  have hA : ∀ q : Nat, s.heap.size ≤ q → A q := fun q h => by rw [← hAe]; exact Or.inr h
  have hS : va_S A s.heap s.heap [] := va_S.rf
  have hl := lv_entry ([.ref h0]) (n := 1) (Nat.le_of_ble_eq_true rfl)
  rw [lg_entry_eq]
  generalize (lg_sl ([.ref h0]) ++ List.replicate (1 - (lg_sl ([.ref h0])).length) Slot.unset).toArray = ls at hl ⊢
  have hl : lv_has ls 1 [(0, .ref h0)] := hl
  refine lv_aload_n hx hb d_Mo_thrown_0 rfl (lv_at hl 0 rfl) ?_
  refine va_get (D := D) (ci := 7) (v := .int 1) (C := R_Mo) (T := F_Mo) (N := 52) hx hb hts i_Mo hown hK hP 0 rfl rfl 0 (by decide) (hts _ w_397) (fun _ h9 => h9) rfl d_Mo_thrown_1 ?_
  exact xr_i hx hb hr hlocks hP hD hK hS (()) [0] rfl rfl (by decide) [] rfl rfl d_Mo_thrown_4

set_option maxHeartbeats 4000000 in
set_option maxRecDepth 100000 in
theorem c_Mo_thrown_2 (l : Launch) (D : va_G) (h0 : Nat) (qa : Nat → Nat) (sz : Nat) : Met l y_Mo_thrown (Cond.code y_Mo_thrown b_Mo_thrown 1 (some .int) :: bw) (xR 1 0 0) (va_Pc [.ref h0] (xP D [] sz [(h0, .inr (7, [.int 2, .int 0, .int 0, .int 0, .int 0, .int 0, .int (-1), .int (-1), .int 0, .int 0, .int 0, .int 0, .int 0, .int 0, .int 0, .int 0, .ref (qa 0), .ref (qa 1), .ref (qa 2), .ref (qa 3), .int 0, .ref (qa 4), .ref (qa 5), .ref (qa 6), .ref (qa 7), .ref (qa 8), .ref (qa 9), .ref (qa 10), .ref (qa 11), .ref (qa 12), .ref (qa 13), .ref (qa 14), .ref (qa 15), .ref (qa 16), .ref (qa 17), .ref (qa 18), .ref (qa 19), .ref (qa 20), .int 0, .int 0, .int 0, .int 0, .long 0, .long 0, .long 0, .long 0, .long 0, .ref (qa 21), .int 0, .int 0, .int 0, .int 0]))])) (xQ (S := Unit) (fun _ => some (.int 2)) (fun _ => [(h0, .inr (7, [.int 2, .int 0, .int 0, .int 0, .int 0, .int 0, .int (-1), .int (-1), .int 0, .int 0, .int 0, .int 0, .int 0, .int 0, .int 0, .int 0, .ref (qa 0), .ref (qa 1), .ref (qa 2), .ref (qa 3), .int 0, .ref (qa 4), .ref (qa 5), .ref (qa 6), .ref (qa 7), .ref (qa 8), .ref (qa 9), .ref (qa 10), .ref (qa 11), .ref (qa 12), .ref (qa 13), .ref (qa 14), .ref (qa 15), .ref (qa 16), .ref (qa 17), .ref (qa 18), .ref (qa 19), .ref (qa 20), .int 0, .int 0, .int 0, .int 0, .long 0, .long 0, .long 0, .long 0, .long 0, .ref (qa 21), .int 0, .int 0, .int 0, .int 0]))]) (fun _ => []) D (va_A [(h0, .inr (7, [.int 2, .int 0, .int 0, .int 0, .int 0, .int 0, .int (-1), .int (-1), .int 0, .int 0, .int 0, .int 0, .int 0, .int 0, .int 0, .int 0, .ref (qa 0), .ref (qa 1), .ref (qa 2), .ref (qa 3), .int 0, .ref (qa 4), .ref (qa 5), .ref (qa 6), .ref (qa 7), .ref (qa 8), .ref (qa 9), .ref (qa 10), .ref (qa 11), .ref (qa 12), .ref (qa 13), .ref (qa 14), .ref (qa 15), .ref (qa 16), .ref (qa 17), .ref (qa 18), .ref (qa 19), .ref (qa 20), .int 0, .int 0, .int 0, .int 0, .long 0, .long 0, .long 0, .long 0, .long 0, .ref (qa 21), .int 0, .int 0, .int 0, .int 0]))] sz)) 0 0 (va_A [(h0, .inr (7, [.int 2, .int 0, .int 0, .int 0, .int 0, .int 0, .int (-1), .int (-1), .int 0, .int 0, .int 0, .int 0, .int 0, .int 0, .int 0, .int 0, .ref (qa 0), .ref (qa 1), .ref (qa 2), .ref (qa 3), .int 0, .ref (qa 4), .ref (qa 5), .ref (qa 6), .ref (qa 7), .ref (qa 8), .ref (qa 9), .ref (qa 10), .ref (qa 11), .ref (qa 12), .ref (qa 13), .ref (qa 14), .ref (qa 15), .ref (qa 16), .ref (qa 17), .ref (qa 18), .ref (qa 19), .ref (qa 20), .int 0, .int 0, .int 0, .int 0, .long 0, .long 0, .long 0, .long 0, .long 0, .ref (qa 21), .int 0, .int 0, .int 0, .int 0]))] sz) := by
  refine Met.ofW (cc := b_Mo_thrown) (maxL := 1) (ret := (some .int)) (by decide) rfl ?_
  intro p e s m args below meth c s₁ B hml hv
  obtain ⟨rfl, hsz, hP, hK, hD0, hN, hZ⟩ := hv
  have hx := B.exec
  have hb := B.bytes
  have hr := B.returns
  have hlocks := B.notSynchronized
  have hts : ∀ w ∈ bw, w.before _ s = true := fun w h => atoms_spec (ws := Cond.code y_Mo_thrown b_Mo_thrown 1 (some .int) :: bw) B.pre w (List.mem_cons_of_mem _ h)
  have hown : s.vm.findClass "ObjectForgeModel" = some m.cls := findClass_of_methodNamed B.named
  subst hsz
  have hP0 := hP
  have hD := hD0.self (sz := s.heap.size)
  generalize hAe : va_A [(h0, .inr (7, [.int 2, .int 0, .int 0, .int 0, .int 0, .int 0, .int (-1), .int (-1), .int 0, .int 0, .int 0, .int 0, .int 0, .int 0, .int 0, .int 0, .ref (qa 0), .ref (qa 1), .ref (qa 2), .ref (qa 3), .int 0, .ref (qa 4), .ref (qa 5), .ref (qa 6), .ref (qa 7), .ref (qa 8), .ref (qa 9), .ref (qa 10), .ref (qa 11), .ref (qa 12), .ref (qa 13), .ref (qa 14), .ref (qa 15), .ref (qa 16), .ref (qa 17), .ref (qa 18), .ref (qa 19), .ref (qa 20), .int 0, .int 0, .int 0, .int 0, .long 0, .long 0, .long 0, .long 0, .long 0, .ref (qa 21), .int 0, .int 0, .int 0, .int 0]))] s.heap.size = A at hD hZ ⊢
  have hA : ∀ q : Nat, s.heap.size ≤ q → A q := fun q h => by rw [← hAe]; exact Or.inr h
  have hS : va_S A s.heap s.heap [] := va_S.rf
  have hl := lv_entry ([.ref h0]) (n := 1) (Nat.le_of_ble_eq_true rfl)
  rw [lg_entry_eq]
  generalize (lg_sl ([.ref h0]) ++ List.replicate (1 - (lg_sl ([.ref h0])).length) Slot.unset).toArray = ls at hl ⊢
  have hl : lv_has ls 1 [(0, .ref h0)] := hl
  refine lv_aload_n hx hb d_Mo_thrown_0 rfl (lv_at hl 0 rfl) ?_
  refine va_get (D := D) (ci := 7) (v := .int 2) (C := R_Mo) (T := F_Mo) (N := 52) hx hb hts i_Mo hown hK hP 0 rfl rfl 0 (by decide) (hts _ w_397) (fun _ h9 => h9) rfl d_Mo_thrown_1 ?_
  exact xr_i hx hb hr hlocks hP hD hK hS (()) [0] rfl rfl (by decide) [] rfl rfl d_Mo_thrown_4

theorem d_Mo_refuse_0 : decode b_Mo_refuse 0 = .ok (.aload_n 0, 1) := by decide +kernel
theorem d_Mo_refuse_1 : decode b_Mo_refuse 1 = .ok (.iload_n 1, 1) := by decide +kernel
theorem d_Mo_refuse_2 : decode b_Mo_refuse 2 = .ok (.putfield 88, 3) := by decide +kernel
theorem d_Mo_refuse_5 : decode b_Mo_refuse 5 = .ok (.iconst 0, 1) := by decide +kernel
theorem d_Mo_refuse_6 : decode b_Mo_refuse 6 = .ok (.ireturn, 1) := by decide +kernel
set_option maxHeartbeats 4000000 in
set_option maxRecDepth 100000 in
theorem c_Mo_refuse_1 (l : Launch) (D : va_G) (h0 : Nat) (qa : Nat → Nat) (sz : Nat) : Met l y_Mo_refuse (Cond.code y_Mo_refuse b_Mo_refuse 2 (some .int) :: bw) (xR 1 0 0) (va_Pc [.ref h0, .int 1] (xP D [] sz [(h0, .inr (7, [.int 0, .int 0, .int 0, .int 0, .int 0, .int 0, .int (-1), .int (-1), .int 0, .int 0, .int 0, .int 0, .int 0, .int 0, .int 0, .int 0, .ref (qa 0), .ref (qa 1), .ref (qa 2), .ref (qa 3), .int 0, .ref (qa 4), .ref (qa 5), .ref (qa 6), .ref (qa 7), .ref (qa 8), .ref (qa 9), .ref (qa 10), .ref (qa 11), .ref (qa 12), .ref (qa 13), .ref (qa 14), .ref (qa 15), .ref (qa 16), .ref (qa 17), .ref (qa 18), .ref (qa 19), .ref (qa 20), .int 0, .int 0, .int 0, .int 0, .long 0, .long 0, .long 0, .long 0, .long 0, .ref (qa 21), .int 0, .int 0, .int 0, .int 0]))])) (xQ (S := Unit) (fun _ => some (.int 0)) (fun _ => [(h0, .inr (7, [.int 1, .int 0, .int 0, .int 0, .int 0, .int 0, .int (-1), .int (-1), .int 0, .int 0, .int 0, .int 0, .int 0, .int 0, .int 0, .int 0, .ref (qa 0), .ref (qa 1), .ref (qa 2), .ref (qa 3), .int 0, .ref (qa 4), .ref (qa 5), .ref (qa 6), .ref (qa 7), .ref (qa 8), .ref (qa 9), .ref (qa 10), .ref (qa 11), .ref (qa 12), .ref (qa 13), .ref (qa 14), .ref (qa 15), .ref (qa 16), .ref (qa 17), .ref (qa 18), .ref (qa 19), .ref (qa 20), .int 0, .int 0, .int 0, .int 0, .long 0, .long 0, .long 0, .long 0, .long 0, .ref (qa 21), .int 0, .int 0, .int 0, .int 0]))]) (fun _ => []) D (va_A [(h0, .inr (7, [.int 0, .int 0, .int 0, .int 0, .int 0, .int 0, .int (-1), .int (-1), .int 0, .int 0, .int 0, .int 0, .int 0, .int 0, .int 0, .int 0, .ref (qa 0), .ref (qa 1), .ref (qa 2), .ref (qa 3), .int 0, .ref (qa 4), .ref (qa 5), .ref (qa 6), .ref (qa 7), .ref (qa 8), .ref (qa 9), .ref (qa 10), .ref (qa 11), .ref (qa 12), .ref (qa 13), .ref (qa 14), .ref (qa 15), .ref (qa 16), .ref (qa 17), .ref (qa 18), .ref (qa 19), .ref (qa 20), .int 0, .int 0, .int 0, .int 0, .long 0, .long 0, .long 0, .long 0, .long 0, .ref (qa 21), .int 0, .int 0, .int 0, .int 0]))] sz)) 0 0 (va_A [(h0, .inr (7, [.int 0, .int 0, .int 0, .int 0, .int 0, .int 0, .int (-1), .int (-1), .int 0, .int 0, .int 0, .int 0, .int 0, .int 0, .int 0, .int 0, .ref (qa 0), .ref (qa 1), .ref (qa 2), .ref (qa 3), .int 0, .ref (qa 4), .ref (qa 5), .ref (qa 6), .ref (qa 7), .ref (qa 8), .ref (qa 9), .ref (qa 10), .ref (qa 11), .ref (qa 12), .ref (qa 13), .ref (qa 14), .ref (qa 15), .ref (qa 16), .ref (qa 17), .ref (qa 18), .ref (qa 19), .ref (qa 20), .int 0, .int 0, .int 0, .int 0, .long 0, .long 0, .long 0, .long 0, .long 0, .ref (qa 21), .int 0, .int 0, .int 0, .int 0]))] sz) := by
  refine Met.ofW (cc := b_Mo_refuse) (maxL := 2) (ret := (some .int)) (by decide) rfl ?_
  intro p e s m args below meth c s₁ B hml hv
  obtain ⟨rfl, hsz, hP, hK, hD0, hN, hZ⟩ := hv
  have hx := B.exec
  have hb := B.bytes
  have hr := B.returns
  have hlocks := B.notSynchronized
  have hts : ∀ w ∈ bw, w.before _ s = true := fun w h => atoms_spec (ws := Cond.code y_Mo_refuse b_Mo_refuse 2 (some .int) :: bw) B.pre w (List.mem_cons_of_mem _ h)
  have hown : s.vm.findClass "ObjectForgeModel" = some m.cls := findClass_of_methodNamed B.named
  subst hsz
  have hP0 := hP
  have hD := hD0.self (sz := s.heap.size)
  generalize hAe : va_A [(h0, .inr (7, [.int 0, .int 0, .int 0, .int 0, .int 0, .int 0, .int (-1), .int (-1), .int 0, .int 0, .int 0, .int 0, .int 0, .int 0, .int 0, .int 0, .ref (qa 0), .ref (qa 1), .ref (qa 2), .ref (qa 3), .int 0, .ref (qa 4), .ref (qa 5), .ref (qa 6), .ref (qa 7), .ref (qa 8), .ref (qa 9), .ref (qa 10), .ref (qa 11), .ref (qa 12), .ref (qa 13), .ref (qa 14), .ref (qa 15), .ref (qa 16), .ref (qa 17), .ref (qa 18), .ref (qa 19), .ref (qa 20), .int 0, .int 0, .int 0, .int 0, .long 0, .long 0, .long 0, .long 0, .long 0, .ref (qa 21), .int 0, .int 0, .int 0, .int 0]))] s.heap.size = A at hD hZ ⊢
  have hA : ∀ q : Nat, s.heap.size ≤ q → A q := fun q h => by rw [← hAe]; exact Or.inr h
  have hS : va_S A s.heap s.heap [] := va_S.rf
  have hl := lv_entry ([.ref h0, .int 1]) (n := 2) (Nat.le_of_ble_eq_true rfl)
  rw [lg_entry_eq]
  generalize (lg_sl ([.ref h0, .int 1]) ++ List.replicate (2 - (lg_sl ([.ref h0, .int 1])).length) Slot.unset).toArray = ls at hl ⊢
  have hl : lv_has ls 2 [(0, .ref h0), (1, .int 1)] := hl
  refine lv_aload_n hx hb d_Mo_refuse_0 rfl (lv_at hl 0 rfl) ?_
  refine lv_iload_n hx hb d_Mo_refuse_1 rfl (lv_at hl 1 rfl) ?_
  refine va_put (D := D) (ci := 7) (v := .int 1) (ty := .int) (C := R_Mo) (T := F_Mo) (N := 52) hx hb hts i_Mo t_Mo t_Mo_ok n_Mo hown hK hP hD hS 0 rfl rfl 0 (by decide) (hts _ w_397) (fun _ h9 => h9) rfl (by decide +kernel) rfl rfl (Nat.le_of_ble_eq_true rfl) d_Mo_refuse_2 (fun H locs hP hD hS => ?_)
  have hP : va_P D cls [(h0, .inr (7, [.int 1, .int 0, .int 0, .int 0, .int 0, .int 0, .int (-1), .int (-1), .int 0, .int 0, .int 0, .int 0, .int 0, .int 0, .int 0, .int 0, .ref (qa 0), .ref (qa 1), .ref (qa 2), .ref (qa 3), .int 0, .ref (qa 4), .ref (qa 5), .ref (qa 6), .ref (qa 7), .ref (qa 8), .ref (qa 9), .ref (qa 10), .ref (qa 11), .ref (qa 12), .ref (qa 13), .ref (qa 14), .ref (qa 15), .ref (qa 16), .ref (qa 17), .ref (qa 18), .ref (qa 19), .ref (qa 20), .int 0, .int 0, .int 0, .int 0, .long 0, .long 0, .long 0, .long 0, .long 0, .ref (qa 21), .int 0, .int 0, .int 0, .int 0]))] H := hP
  have hD : va_D A [(h0, .inr (7, [.int 1, .int 0, .int 0, .int 0, .int 0, .int 0, .int (-1), .int (-1), .int 0, .int 0, .int 0, .int 0, .int 0, .int 0, .int 0, .int 0, .ref (qa 0), .ref (qa 1), .ref (qa 2), .ref (qa 3), .int 0, .ref (qa 4), .ref (qa 5), .ref (qa 6), .ref (qa 7), .ref (qa 8), .ref (qa 9), .ref (qa 10), .ref (qa 11), .ref (qa 12), .ref (qa 13), .ref (qa 14), .ref (qa 15), .ref (qa 16), .ref (qa 17), .ref (qa 18), .ref (qa 19), .ref (qa 20), .int 0, .int 0, .int 0, .int 0, .long 0, .long 0, .long 0, .long 0, .long 0, .ref (qa 21), .int 0, .int 0, .int 0, .int 0]))] := hD
  refine lv_iconst (v := 0) hx hb d_Mo_refuse_5 (by decide) ?_
  exact xr_i hx hb hr hlocks hP hD hK hS (()) [0] rfl rfl (by decide) [] rfl rfl d_Mo_refuse_6

set_option maxHeartbeats 4000000 in
set_option maxRecDepth 100000 in
theorem c_Mo_refuse_2 (l : Launch) (D : va_G) (h0 : Nat) (qa : Nat → Nat) (sz : Nat) : Met l y_Mo_refuse (Cond.code y_Mo_refuse b_Mo_refuse 2 (some .int) :: bw) (xR 1 0 0) (va_Pc [.ref h0, .int 2] (xP D [] sz [(h0, .inr (7, [.int 0, .int 0, .int 0, .int 0, .int 0, .int 0, .int (-1), .int (-1), .int 0, .int 0, .int 0, .int 0, .int 0, .int 0, .int 0, .int 0, .ref (qa 0), .ref (qa 1), .ref (qa 2), .ref (qa 3), .int 0, .ref (qa 4), .ref (qa 5), .ref (qa 6), .ref (qa 7), .ref (qa 8), .ref (qa 9), .ref (qa 10), .ref (qa 11), .ref (qa 12), .ref (qa 13), .ref (qa 14), .ref (qa 15), .ref (qa 16), .ref (qa 17), .ref (qa 18), .ref (qa 19), .ref (qa 20), .int 0, .int 0, .int 0, .int 0, .long 0, .long 0, .long 0, .long 0, .long 0, .ref (qa 21), .int 0, .int 0, .int 0, .int 0]))])) (xQ (S := Unit) (fun _ => some (.int 0)) (fun _ => [(h0, .inr (7, [.int 2, .int 0, .int 0, .int 0, .int 0, .int 0, .int (-1), .int (-1), .int 0, .int 0, .int 0, .int 0, .int 0, .int 0, .int 0, .int 0, .ref (qa 0), .ref (qa 1), .ref (qa 2), .ref (qa 3), .int 0, .ref (qa 4), .ref (qa 5), .ref (qa 6), .ref (qa 7), .ref (qa 8), .ref (qa 9), .ref (qa 10), .ref (qa 11), .ref (qa 12), .ref (qa 13), .ref (qa 14), .ref (qa 15), .ref (qa 16), .ref (qa 17), .ref (qa 18), .ref (qa 19), .ref (qa 20), .int 0, .int 0, .int 0, .int 0, .long 0, .long 0, .long 0, .long 0, .long 0, .ref (qa 21), .int 0, .int 0, .int 0, .int 0]))]) (fun _ => []) D (va_A [(h0, .inr (7, [.int 0, .int 0, .int 0, .int 0, .int 0, .int 0, .int (-1), .int (-1), .int 0, .int 0, .int 0, .int 0, .int 0, .int 0, .int 0, .int 0, .ref (qa 0), .ref (qa 1), .ref (qa 2), .ref (qa 3), .int 0, .ref (qa 4), .ref (qa 5), .ref (qa 6), .ref (qa 7), .ref (qa 8), .ref (qa 9), .ref (qa 10), .ref (qa 11), .ref (qa 12), .ref (qa 13), .ref (qa 14), .ref (qa 15), .ref (qa 16), .ref (qa 17), .ref (qa 18), .ref (qa 19), .ref (qa 20), .int 0, .int 0, .int 0, .int 0, .long 0, .long 0, .long 0, .long 0, .long 0, .ref (qa 21), .int 0, .int 0, .int 0, .int 0]))] sz)) 0 0 (va_A [(h0, .inr (7, [.int 0, .int 0, .int 0, .int 0, .int 0, .int 0, .int (-1), .int (-1), .int 0, .int 0, .int 0, .int 0, .int 0, .int 0, .int 0, .int 0, .ref (qa 0), .ref (qa 1), .ref (qa 2), .ref (qa 3), .int 0, .ref (qa 4), .ref (qa 5), .ref (qa 6), .ref (qa 7), .ref (qa 8), .ref (qa 9), .ref (qa 10), .ref (qa 11), .ref (qa 12), .ref (qa 13), .ref (qa 14), .ref (qa 15), .ref (qa 16), .ref (qa 17), .ref (qa 18), .ref (qa 19), .ref (qa 20), .int 0, .int 0, .int 0, .int 0, .long 0, .long 0, .long 0, .long 0, .long 0, .ref (qa 21), .int 0, .int 0, .int 0, .int 0]))] sz) := by
  refine Met.ofW (cc := b_Mo_refuse) (maxL := 2) (ret := (some .int)) (by decide) rfl ?_
  intro p e s m args below meth c s₁ B hml hv
  obtain ⟨rfl, hsz, hP, hK, hD0, hN, hZ⟩ := hv
  have hx := B.exec
  have hb := B.bytes
  have hr := B.returns
  have hlocks := B.notSynchronized
  have hts : ∀ w ∈ bw, w.before _ s = true := fun w h => atoms_spec (ws := Cond.code y_Mo_refuse b_Mo_refuse 2 (some .int) :: bw) B.pre w (List.mem_cons_of_mem _ h)
  have hown : s.vm.findClass "ObjectForgeModel" = some m.cls := findClass_of_methodNamed B.named
  subst hsz
  have hP0 := hP
  have hD := hD0.self (sz := s.heap.size)
  generalize hAe : va_A [(h0, .inr (7, [.int 0, .int 0, .int 0, .int 0, .int 0, .int 0, .int (-1), .int (-1), .int 0, .int 0, .int 0, .int 0, .int 0, .int 0, .int 0, .int 0, .ref (qa 0), .ref (qa 1), .ref (qa 2), .ref (qa 3), .int 0, .ref (qa 4), .ref (qa 5), .ref (qa 6), .ref (qa 7), .ref (qa 8), .ref (qa 9), .ref (qa 10), .ref (qa 11), .ref (qa 12), .ref (qa 13), .ref (qa 14), .ref (qa 15), .ref (qa 16), .ref (qa 17), .ref (qa 18), .ref (qa 19), .ref (qa 20), .int 0, .int 0, .int 0, .int 0, .long 0, .long 0, .long 0, .long 0, .long 0, .ref (qa 21), .int 0, .int 0, .int 0, .int 0]))] s.heap.size = A at hD hZ ⊢
  have hA : ∀ q : Nat, s.heap.size ≤ q → A q := fun q h => by rw [← hAe]; exact Or.inr h
  have hS : va_S A s.heap s.heap [] := va_S.rf
  have hl := lv_entry ([.ref h0, .int 2]) (n := 2) (Nat.le_of_ble_eq_true rfl)
  rw [lg_entry_eq]
  generalize (lg_sl ([.ref h0, .int 2]) ++ List.replicate (2 - (lg_sl ([.ref h0, .int 2])).length) Slot.unset).toArray = ls at hl ⊢
  have hl : lv_has ls 2 [(0, .ref h0), (1, .int 2)] := hl
  refine lv_aload_n hx hb d_Mo_refuse_0 rfl (lv_at hl 0 rfl) ?_
  refine lv_iload_n hx hb d_Mo_refuse_1 rfl (lv_at hl 1 rfl) ?_
  refine va_put (D := D) (ci := 7) (v := .int 2) (ty := .int) (C := R_Mo) (T := F_Mo) (N := 52) hx hb hts i_Mo t_Mo t_Mo_ok n_Mo hown hK hP hD hS 0 rfl rfl 0 (by decide) (hts _ w_397) (fun _ h9 => h9) rfl (by decide +kernel) rfl rfl (Nat.le_of_ble_eq_true rfl) d_Mo_refuse_2 (fun H locs hP hD hS => ?_)
  have hP : va_P D cls [(h0, .inr (7, [.int 2, .int 0, .int 0, .int 0, .int 0, .int 0, .int (-1), .int (-1), .int 0, .int 0, .int 0, .int 0, .int 0, .int 0, .int 0, .int 0, .ref (qa 0), .ref (qa 1), .ref (qa 2), .ref (qa 3), .int 0, .ref (qa 4), .ref (qa 5), .ref (qa 6), .ref (qa 7), .ref (qa 8), .ref (qa 9), .ref (qa 10), .ref (qa 11), .ref (qa 12), .ref (qa 13), .ref (qa 14), .ref (qa 15), .ref (qa 16), .ref (qa 17), .ref (qa 18), .ref (qa 19), .ref (qa 20), .int 0, .int 0, .int 0, .int 0, .long 0, .long 0, .long 0, .long 0, .long 0, .ref (qa 21), .int 0, .int 0, .int 0, .int 0]))] H := hP
  have hD : va_D A [(h0, .inr (7, [.int 2, .int 0, .int 0, .int 0, .int 0, .int 0, .int (-1), .int (-1), .int 0, .int 0, .int 0, .int 0, .int 0, .int 0, .int 0, .int 0, .ref (qa 0), .ref (qa 1), .ref (qa 2), .ref (qa 3), .int 0, .ref (qa 4), .ref (qa 5), .ref (qa 6), .ref (qa 7), .ref (qa 8), .ref (qa 9), .ref (qa 10), .ref (qa 11), .ref (qa 12), .ref (qa 13), .ref (qa 14), .ref (qa 15), .ref (qa 16), .ref (qa 17), .ref (qa 18), .ref (qa 19), .ref (qa 20), .int 0, .int 0, .int 0, .int 0, .long 0, .long 0, .long 0, .long 0, .long 0, .ref (qa 21), .int 0, .int 0, .int 0, .int 0]))] := hD
  refine lv_iconst (v := 0) hx hb d_Mo_refuse_5 (by decide) ?_
  exact xr_i hx hb hr hlocks hP hD hK hS (()) [0] rfl rfl (by decide) [] rfl rfl d_Mo_refuse_6

theorem d_Mo_within_0 : decode b_Mo_within 0 = .ok (.iload_n 0, 1) := by decide +kernel
theorem d_Mo_within_1 : decode b_Mo_within 1 = .ok (.ifCond .lt 12, 3) := by decide +kernel
theorem d_Mo_within_13 : decode b_Mo_within 13 = .ok (.iconst 0, 1) := by decide +kernel
theorem d_Mo_within_14 : decode b_Mo_within 14 = .ok (.ireturn, 1) := by decide +kernel
set_option maxHeartbeats 4000000 in
set_option maxRecDepth 100000 in
theorem c_Mo_within_n (l : Launch) (D : va_G) (k n : Int32) (hk : k < 0) (sz : Nat) : Met l y_Mo_within (Cond.code y_Mo_within b_Mo_within 2 (some .boolean) :: bw) (xR 1 0 0) (va_Pc [.int k, .int n] (xP D [] sz [])) (xQ (S := Unit) (fun _ => some (.int 0)) (fun _ => []) (fun _ => []) D (va_A [] sz)) 0 0 (va_A [] sz) := by
  refine Met.ofW (cc := b_Mo_within) (maxL := 2) (ret := (some .boolean)) (by decide) rfl ?_
  intro p e s m args below meth c s₁ B hml hv
  obtain ⟨rfl, hsz, hP, hK, hD0, hN, hZ⟩ := hv
  have hx := B.exec
  have hb := B.bytes
  have hr := B.returns
  have hlocks := B.notSynchronized
  have hts : ∀ w ∈ bw, w.before _ s = true := fun w h => atoms_spec (ws := Cond.code y_Mo_within b_Mo_within 2 (some .boolean) :: bw) B.pre w (List.mem_cons_of_mem _ h)
  have hown : s.vm.findClass "ObjectForgeModel" = some m.cls := findClass_of_methodNamed B.named
  subst hsz
  have hP0 := hP
  have hD := hD0.self (sz := s.heap.size)
  generalize hAe : va_A [] s.heap.size = A at hD hZ ⊢
  have hA : ∀ q : Nat, s.heap.size ≤ q → A q := fun q h => by rw [← hAe]; exact Or.inr h
  have hS : va_S A s.heap s.heap [] := va_S.rf
  have hl := lv_entry ([.int k, .int n]) (n := 2) (Nat.le_of_ble_eq_true rfl)
  rw [lg_entry_eq]
  generalize (lg_sl ([.int k, .int n]) ++ List.replicate (2 - (lg_sl ([.int k, .int n])).length) Slot.unset).toArray = ls at hl ⊢
  have hl : lv_has ls 2 [(0, .int k), (1, .int n)] := hl
  refine lv_iload_n hx hb d_Mo_within_0 rfl (lv_at hl 0 rfl) ?_
  refine lv_if_lt (tgt := 13) hx hb d_Mo_within_1 (by decide) (fun _ => ?_) (fun q9 => absurd hk q9)
  refine lv_iconst (v := 0) hx hb d_Mo_within_13 (by decide) ?_
  exact xr_z hx hb hr rfl hlocks hP hD hK hS (()) [] rfl rfl (by decide) [] rfl rfl d_Mo_within_14

theorem d_Mo_within_4 : decode b_Mo_within 4 = .ok (.iload_n 0, 1) := by decide +kernel
theorem d_Mo_within_5 : decode b_Mo_within 5 = .ok (.iload_n 1, 1) := by decide +kernel
theorem d_Mo_within_6 : decode b_Mo_within 6 = .ok (.if_icmp .ge 7, 3) := by decide +kernel
set_option maxHeartbeats 4000000 in
set_option maxRecDepth 100000 in
theorem c_Mo_within_g (l : Launch) (D : va_G) (k n : Int32) (hk : ¬ k < 0) (hg : n ≤ k) (sz : Nat) : Met l y_Mo_within (Cond.code y_Mo_within b_Mo_within 2 (some .boolean) :: bw) (xR 1 0 0) (va_Pc [.int k, .int n] (xP D [] sz [])) (xQ (S := Unit) (fun _ => some (.int 0)) (fun _ => []) (fun _ => []) D (va_A [] sz)) 0 0 (va_A [] sz) := by
  refine Met.ofW (cc := b_Mo_within) (maxL := 2) (ret := (some .boolean)) (by decide) rfl ?_
  intro p e s m args below meth c s₁ B hml hv
  obtain ⟨rfl, hsz, hP, hK, hD0, hN, hZ⟩ := hv
  have hx := B.exec
  have hb := B.bytes
  have hr := B.returns
  have hlocks := B.notSynchronized
  have hts : ∀ w ∈ bw, w.before _ s = true := fun w h => atoms_spec (ws := Cond.code y_Mo_within b_Mo_within 2 (some .boolean) :: bw) B.pre w (List.mem_cons_of_mem _ h)
  have hown : s.vm.findClass "ObjectForgeModel" = some m.cls := findClass_of_methodNamed B.named
  subst hsz
  have hP0 := hP
  have hD := hD0.self (sz := s.heap.size)
  generalize hAe : va_A [] s.heap.size = A at hD hZ ⊢
  have hA : ∀ q : Nat, s.heap.size ≤ q → A q := fun q h => by rw [← hAe]; exact Or.inr h
  have hS : va_S A s.heap s.heap [] := va_S.rf
  have hl := lv_entry ([.int k, .int n]) (n := 2) (Nat.le_of_ble_eq_true rfl)
  rw [lg_entry_eq]
  generalize (lg_sl ([.int k, .int n]) ++ List.replicate (2 - (lg_sl ([.int k, .int n])).length) Slot.unset).toArray = ls at hl ⊢
  have hl : lv_has ls 2 [(0, .int k), (1, .int n)] := hl
  refine lv_iload_n hx hb d_Mo_within_0 rfl (lv_at hl 0 rfl) ?_
  refine lv_if_lt (tgt := 13) hx hb d_Mo_within_1 (by decide) (fun q9 => absurd q9 hk) (fun _ => ?_)
  refine lv_iload_n hx hb d_Mo_within_4 rfl (lv_at hl 0 rfl) ?_
  refine lv_iload_n hx hb d_Mo_within_5 rfl (lv_at hl 1 rfl) ?_
  refine lv_icmp_ge (tgt := 13) hx hb d_Mo_within_6 (by decide) (fun _ => ?_) (fun q9 => absurd hg q9)
  refine lv_iconst (v := 0) hx hb d_Mo_within_13 (by decide) ?_
  exact xr_z hx hb hr rfl hlocks hP hD hK hS (()) [] rfl rfl (by decide) [] rfl rfl d_Mo_within_14

theorem d_Mo_within_9 : decode b_Mo_within 9 = .ok (.iconst 1, 1) := by decide +kernel
theorem d_Mo_within_10 : decode b_Mo_within 10 = .ok (.goto 4, 3) := by decide +kernel
set_option maxHeartbeats 4000000 in
set_option maxRecDepth 100000 in
theorem c_Mo_within_0 (l : Launch) (D : va_G) (sz : Nat) : Met l y_Mo_within (Cond.code y_Mo_within b_Mo_within 2 (some .boolean) :: bw) (xR 1 0 0) (va_Pc [.int 0, .int 4] (xP D [] sz [])) (xQ (S := Unit) (fun _ => some (.int 1)) (fun _ => []) (fun _ => []) D (va_A [] sz)) 0 0 (va_A [] sz) := by
  refine Met.ofW (cc := b_Mo_within) (maxL := 2) (ret := (some .boolean)) (by decide) rfl ?_
  intro p e s m args below meth c s₁ B hml hv
  obtain ⟨rfl, hsz, hP, hK, hD0, hN, hZ⟩ := hv
  have hx := B.exec
  have hb := B.bytes
  have hr := B.returns
  have hlocks := B.notSynchronized
  have hts : ∀ w ∈ bw, w.before _ s = true := fun w h => atoms_spec (ws := Cond.code y_Mo_within b_Mo_within 2 (some .boolean) :: bw) B.pre w (List.mem_cons_of_mem _ h)
  have hown : s.vm.findClass "ObjectForgeModel" = some m.cls := findClass_of_methodNamed B.named
  subst hsz
  have hP0 := hP
  have hD := hD0.self (sz := s.heap.size)
  generalize hAe : va_A [] s.heap.size = A at hD hZ ⊢
  have hA : ∀ q : Nat, s.heap.size ≤ q → A q := fun q h => by rw [← hAe]; exact Or.inr h
  have hS : va_S A s.heap s.heap [] := va_S.rf
  have hl := lv_entry ([.int 0, .int 4]) (n := 2) (Nat.le_of_ble_eq_true rfl)
  rw [lg_entry_eq]
  generalize (lg_sl ([.int 0, .int 4]) ++ List.replicate (2 - (lg_sl ([.int 0, .int 4])).length) Slot.unset).toArray = ls at hl ⊢
  have hl : lv_has ls 2 [(0, .int 0), (1, .int 4)] := hl
  refine lv_iload_n hx hb d_Mo_within_0 rfl (lv_at hl 0 rfl) ?_
  refine lv_if_lt (tgt := 13) hx hb d_Mo_within_1 (by decide) (fun q9 => absurd q9 (by decide : ¬ ((0 : Int32) < 0))) (fun _ => ?_)
  refine lv_iload_n hx hb d_Mo_within_4 rfl (lv_at hl 0 rfl) ?_
  refine lv_iload_n hx hb d_Mo_within_5 rfl (lv_at hl 1 rfl) ?_
  refine lv_icmp_ge (tgt := 13) hx hb d_Mo_within_6 (by decide) (fun q9 => absurd q9 (by decide : ¬ ((4 : Int32) ≤ 0))) (fun _ => ?_)
  refine lv_iconst (v := 1) hx hb d_Mo_within_9 (by decide) ?_
  refine lv_goto (tgt := 14) hx hb d_Mo_within_10 (by decide) ?_
  exact xr_z hx hb hr rfl hlocks hP hD hK hS (()) [] rfl rfl (by decide) [] rfl rfl d_Mo_within_14

set_option maxHeartbeats 4000000 in
set_option maxRecDepth 100000 in
theorem c_Mo_within_1 (l : Launch) (D : va_G) (sz : Nat) : Met l y_Mo_within (Cond.code y_Mo_within b_Mo_within 2 (some .boolean) :: bw) (xR 1 0 0) (va_Pc [.int 1, .int 4] (xP D [] sz [])) (xQ (S := Unit) (fun _ => some (.int 1)) (fun _ => []) (fun _ => []) D (va_A [] sz)) 0 0 (va_A [] sz) := by
  refine Met.ofW (cc := b_Mo_within) (maxL := 2) (ret := (some .boolean)) (by decide) rfl ?_
  intro p e s m args below meth c s₁ B hml hv
  obtain ⟨rfl, hsz, hP, hK, hD0, hN, hZ⟩ := hv
  have hx := B.exec
  have hb := B.bytes
  have hr := B.returns
  have hlocks := B.notSynchronized
  have hts : ∀ w ∈ bw, w.before _ s = true := fun w h => atoms_spec (ws := Cond.code y_Mo_within b_Mo_within 2 (some .boolean) :: bw) B.pre w (List.mem_cons_of_mem _ h)
  have hown : s.vm.findClass "ObjectForgeModel" = some m.cls := findClass_of_methodNamed B.named
  subst hsz
  have hP0 := hP
  have hD := hD0.self (sz := s.heap.size)
  generalize hAe : va_A [] s.heap.size = A at hD hZ ⊢
  have hA : ∀ q : Nat, s.heap.size ≤ q → A q := fun q h => by rw [← hAe]; exact Or.inr h
  have hS : va_S A s.heap s.heap [] := va_S.rf
  have hl := lv_entry ([.int 1, .int 4]) (n := 2) (Nat.le_of_ble_eq_true rfl)
  rw [lg_entry_eq]
  generalize (lg_sl ([.int 1, .int 4]) ++ List.replicate (2 - (lg_sl ([.int 1, .int 4])).length) Slot.unset).toArray = ls at hl ⊢
  have hl : lv_has ls 2 [(0, .int 1), (1, .int 4)] := hl
  refine lv_iload_n hx hb d_Mo_within_0 rfl (lv_at hl 0 rfl) ?_
  refine lv_if_lt (tgt := 13) hx hb d_Mo_within_1 (by decide) (fun q9 => absurd q9 (by decide : ¬ ((1 : Int32) < 0))) (fun _ => ?_)
  refine lv_iload_n hx hb d_Mo_within_4 rfl (lv_at hl 0 rfl) ?_
  refine lv_iload_n hx hb d_Mo_within_5 rfl (lv_at hl 1 rfl) ?_
  refine lv_icmp_ge (tgt := 13) hx hb d_Mo_within_6 (by decide) (fun q9 => absurd q9 (by decide : ¬ ((4 : Int32) ≤ 1))) (fun _ => ?_)
  refine lv_iconst (v := 1) hx hb d_Mo_within_9 (by decide) ?_
  refine lv_goto (tgt := 14) hx hb d_Mo_within_10 (by decide) ?_
  exact xr_z hx hb hr rfl hlocks hP hD hK hS (()) [] rfl rfl (by decide) [] rfl rfl d_Mo_within_14

set_option maxHeartbeats 4000000 in
set_option maxRecDepth 100000 in
theorem c_Mo_within_2 (l : Launch) (D : va_G) (sz : Nat) : Met l y_Mo_within (Cond.code y_Mo_within b_Mo_within 2 (some .boolean) :: bw) (xR 1 0 0) (va_Pc [.int 2, .int 4] (xP D [] sz [])) (xQ (S := Unit) (fun _ => some (.int 1)) (fun _ => []) (fun _ => []) D (va_A [] sz)) 0 0 (va_A [] sz) := by
  refine Met.ofW (cc := b_Mo_within) (maxL := 2) (ret := (some .boolean)) (by decide) rfl ?_
  intro p e s m args below meth c s₁ B hml hv
  obtain ⟨rfl, hsz, hP, hK, hD0, hN, hZ⟩ := hv
  have hx := B.exec
  have hb := B.bytes
  have hr := B.returns
  have hlocks := B.notSynchronized
  have hts : ∀ w ∈ bw, w.before _ s = true := fun w h => atoms_spec (ws := Cond.code y_Mo_within b_Mo_within 2 (some .boolean) :: bw) B.pre w (List.mem_cons_of_mem _ h)
  have hown : s.vm.findClass "ObjectForgeModel" = some m.cls := findClass_of_methodNamed B.named
  subst hsz
  have hP0 := hP
  have hD := hD0.self (sz := s.heap.size)
  generalize hAe : va_A [] s.heap.size = A at hD hZ ⊢
  have hA : ∀ q : Nat, s.heap.size ≤ q → A q := fun q h => by rw [← hAe]; exact Or.inr h
  have hS : va_S A s.heap s.heap [] := va_S.rf
  have hl := lv_entry ([.int 2, .int 4]) (n := 2) (Nat.le_of_ble_eq_true rfl)
  rw [lg_entry_eq]
  generalize (lg_sl ([.int 2, .int 4]) ++ List.replicate (2 - (lg_sl ([.int 2, .int 4])).length) Slot.unset).toArray = ls at hl ⊢
  have hl : lv_has ls 2 [(0, .int 2), (1, .int 4)] := hl
  refine lv_iload_n hx hb d_Mo_within_0 rfl (lv_at hl 0 rfl) ?_
  refine lv_if_lt (tgt := 13) hx hb d_Mo_within_1 (by decide) (fun q9 => absurd q9 (by decide : ¬ ((2 : Int32) < 0))) (fun _ => ?_)
  refine lv_iload_n hx hb d_Mo_within_4 rfl (lv_at hl 0 rfl) ?_
  refine lv_iload_n hx hb d_Mo_within_5 rfl (lv_at hl 1 rfl) ?_
  refine lv_icmp_ge (tgt := 13) hx hb d_Mo_within_6 (by decide) (fun q9 => absurd q9 (by decide : ¬ ((4 : Int32) ≤ 2))) (fun _ => ?_)
  refine lv_iconst (v := 1) hx hb d_Mo_within_9 (by decide) ?_
  refine lv_goto (tgt := 14) hx hb d_Mo_within_10 (by decide) ?_
  exact xr_z hx hb hr rfl hlocks hP hD hK hS (()) [] rfl rfl (by decide) [] rfl rfl d_Mo_within_14

set_option maxHeartbeats 4000000 in
set_option maxRecDepth 100000 in
theorem c_Mo_within_3 (l : Launch) (D : va_G) (sz : Nat) : Met l y_Mo_within (Cond.code y_Mo_within b_Mo_within 2 (some .boolean) :: bw) (xR 1 0 0) (va_Pc [.int 3, .int 4] (xP D [] sz [])) (xQ (S := Unit) (fun _ => some (.int 1)) (fun _ => []) (fun _ => []) D (va_A [] sz)) 0 0 (va_A [] sz) := by
  refine Met.ofW (cc := b_Mo_within) (maxL := 2) (ret := (some .boolean)) (by decide) rfl ?_
  intro p e s m args below meth c s₁ B hml hv
  obtain ⟨rfl, hsz, hP, hK, hD0, hN, hZ⟩ := hv
  have hx := B.exec
  have hb := B.bytes
  have hr := B.returns
  have hlocks := B.notSynchronized
  have hts : ∀ w ∈ bw, w.before _ s = true := fun w h => atoms_spec (ws := Cond.code y_Mo_within b_Mo_within 2 (some .boolean) :: bw) B.pre w (List.mem_cons_of_mem _ h)
  have hown : s.vm.findClass "ObjectForgeModel" = some m.cls := findClass_of_methodNamed B.named
  subst hsz
  have hP0 := hP
  have hD := hD0.self (sz := s.heap.size)
  generalize hAe : va_A [] s.heap.size = A at hD hZ ⊢
  have hA : ∀ q : Nat, s.heap.size ≤ q → A q := fun q h => by rw [← hAe]; exact Or.inr h
  have hS : va_S A s.heap s.heap [] := va_S.rf
  have hl := lv_entry ([.int 3, .int 4]) (n := 2) (Nat.le_of_ble_eq_true rfl)
  rw [lg_entry_eq]
  generalize (lg_sl ([.int 3, .int 4]) ++ List.replicate (2 - (lg_sl ([.int 3, .int 4])).length) Slot.unset).toArray = ls at hl ⊢
  have hl : lv_has ls 2 [(0, .int 3), (1, .int 4)] := hl
  refine lv_iload_n hx hb d_Mo_within_0 rfl (lv_at hl 0 rfl) ?_
  refine lv_if_lt (tgt := 13) hx hb d_Mo_within_1 (by decide) (fun q9 => absurd q9 (by decide : ¬ ((3 : Int32) < 0))) (fun _ => ?_)
  refine lv_iload_n hx hb d_Mo_within_4 rfl (lv_at hl 0 rfl) ?_
  refine lv_iload_n hx hb d_Mo_within_5 rfl (lv_at hl 1 rfl) ?_
  refine lv_icmp_ge (tgt := 13) hx hb d_Mo_within_6 (by decide) (fun q9 => absurd q9 (by decide : ¬ ((4 : Int32) ≤ 3))) (fun _ => ?_)
  refine lv_iconst (v := 1) hx hb d_Mo_within_9 (by decide) ?_
  refine lv_goto (tgt := 14) hx hb d_Mo_within_10 (by decide) ?_
  exact xr_z hx hb hr rfl hlocks hP hD hK hS (()) [] rfl rfl (by decide) [] rfl rfl d_Mo_within_14

theorem d_Mo_size_0 : decode b_Mo_size 0 = .ok (.aload_n 0, 1) := by decide +kernel
theorem d_Mo_size_1 : decode b_Mo_size 1 = .ok (.iconst 0, 1) := by decide +kernel
theorem d_Mo_size_2 : decode b_Mo_size 2 = .ok (.putfield 88, 3) := by decide +kernel
theorem d_Mo_size_5 : decode b_Mo_size 5 = .ok (.iload_n 1, 1) := by decide +kernel
theorem d_Mo_size_6 : decode b_Mo_size 6 = .ok (.aload_n 0, 1) := by decide +kernel
theorem d_Mo_size_7 : decode b_Mo_size 7 = .ok (.getfield 1010, 3) := by decide +kernel
theorem d_Mo_size_10 : decode b_Mo_size 10 = .ok (.invokestatic 1181, 3) := by decide +kernel
theorem d_Mo_size_13 : decode b_Mo_size 13 = .ok (.ifCond .eq 24, 3) := by decide +kernel
theorem d_Mo_size_37 : decode b_Mo_size 37 = .ok (.aload_n 0, 1) := by decide +kernel
theorem d_Mo_size_38 : decode b_Mo_size 38 = .ok (.iconst 1, 1) := by decide +kernel
theorem d_Mo_size_39 : decode b_Mo_size 39 = .ok (.invokevirtual 94, 3) := by decide +kernel
theorem d_Mo_size_42 : decode b_Mo_size 42 = .ok (.ireturn, 1) := by decide +kernel
set_option maxHeartbeats 4000000 in
set_option maxRecDepth 100000 in
theorem c_Mo_size_n (l : Launch) (D : va_G) (h0 : Nat) (qa : Nat → Nat) (p0 p1 : Int32) (hk : p0 < 0) (sz : Nat) : Met l y_Mo_size (Cond.code y_Mo_size b_Mo_size 3 (some .int) :: bw) (xR 2 0 0) (va_Pc [.ref h0, .int p0, .int p1] (xP D [] sz [(h0, .inr (7, [.int 0, .int 0, .int 0, .int 0, .int 0, .int 0, .int (-1), .int (-1), .int 0, .int 0, .int 0, .int 0, .int 0, .int 0, .int 0, .int 0, .ref (qa 0), .ref (qa 1), .ref (qa 2), .ref (qa 3), .int 0, .ref (qa 4), .ref (qa 5), .ref (qa 6), .ref (qa 7), .ref (qa 8), .ref (qa 9), .ref (qa 10), .ref (qa 11), .ref (qa 12), .ref (qa 13), .ref (qa 14), .ref (qa 15), .ref (qa 16), .ref (qa 17), .ref (qa 18), .ref (qa 19), .ref (qa 20), .int 0, .int 0, .int 0, .int 0, .long 0, .long 0, .long 0, .long 0, .long 0, .ref (qa 21), .int 0, .int 0, .int 0, .int 0]))])) (xQ (S := Unit) (fun _ => some (.int 0)) (fun _ => [(h0, .inr (7, [.int 1, .int 0, .int 0, .int 0, .int 0, .int 0, .int (-1), .int (-1), .int 0, .int 0, .int 0, .int 0, .int 0, .int 0, .int 0, .int 0, .ref (qa 0), .ref (qa 1), .ref (qa 2), .ref (qa 3), .int 0, .ref (qa 4), .ref (qa 5), .ref (qa 6), .ref (qa 7), .ref (qa 8), .ref (qa 9), .ref (qa 10), .ref (qa 11), .ref (qa 12), .ref (qa 13), .ref (qa 14), .ref (qa 15), .ref (qa 16), .ref (qa 17), .ref (qa 18), .ref (qa 19), .ref (qa 20), .int 0, .int 0, .int 0, .int 0, .long 0, .long 0, .long 0, .long 0, .long 0, .ref (qa 21), .int 0, .int 0, .int 0, .int 0]))]) (fun _ => []) D (va_A [(h0, .inr (7, [.int 0, .int 0, .int 0, .int 0, .int 0, .int 0, .int (-1), .int (-1), .int 0, .int 0, .int 0, .int 0, .int 0, .int 0, .int 0, .int 0, .ref (qa 0), .ref (qa 1), .ref (qa 2), .ref (qa 3), .int 0, .ref (qa 4), .ref (qa 5), .ref (qa 6), .ref (qa 7), .ref (qa 8), .ref (qa 9), .ref (qa 10), .ref (qa 11), .ref (qa 12), .ref (qa 13), .ref (qa 14), .ref (qa 15), .ref (qa 16), .ref (qa 17), .ref (qa 18), .ref (qa 19), .ref (qa 20), .int 0, .int 0, .int 0, .int 0, .long 0, .long 0, .long 0, .long 0, .long 0, .ref (qa 21), .int 0, .int 0, .int 0, .int 0]))] sz)) 0 0 (va_A [(h0, .inr (7, [.int 0, .int 0, .int 0, .int 0, .int 0, .int 0, .int (-1), .int (-1), .int 0, .int 0, .int 0, .int 0, .int 0, .int 0, .int 0, .int 0, .ref (qa 0), .ref (qa 1), .ref (qa 2), .ref (qa 3), .int 0, .ref (qa 4), .ref (qa 5), .ref (qa 6), .ref (qa 7), .ref (qa 8), .ref (qa 9), .ref (qa 10), .ref (qa 11), .ref (qa 12), .ref (qa 13), .ref (qa 14), .ref (qa 15), .ref (qa 16), .ref (qa 17), .ref (qa 18), .ref (qa 19), .ref (qa 20), .int 0, .int 0, .int 0, .int 0, .long 0, .long 0, .long 0, .long 0, .long 0, .ref (qa 21), .int 0, .int 0, .int 0, .int 0]))] sz) := by
  refine Met.ofW (cc := b_Mo_size) (maxL := 3) (ret := (some .int)) (by decide) rfl ?_
  intro p e s m args below meth c s₁ B hml hv
  obtain ⟨rfl, hsz, hP, hK, hD0, hN, hZ⟩ := hv
  have hx := B.exec
  have hb := B.bytes
  have hr := B.returns
  have hlocks := B.notSynchronized
  have hts : ∀ w ∈ bw, w.before _ s = true := fun w h => atoms_spec (ws := Cond.code y_Mo_size b_Mo_size 3 (some .int) :: bw) B.pre w (List.mem_cons_of_mem _ h)
  have hown : s.vm.findClass "ObjectForgeModel" = some m.cls := findClass_of_methodNamed B.named
  subst hsz
  have hP0 := hP
  have hD := hD0.self (sz := s.heap.size)
  generalize hAe : va_A [(h0, .inr (7, [.int 0, .int 0, .int 0, .int 0, .int 0, .int 0, .int (-1), .int (-1), .int 0, .int 0, .int 0, .int 0, .int 0, .int 0, .int 0, .int 0, .ref (qa 0), .ref (qa 1), .ref (qa 2), .ref (qa 3), .int 0, .ref (qa 4), .ref (qa 5), .ref (qa 6), .ref (qa 7), .ref (qa 8), .ref (qa 9), .ref (qa 10), .ref (qa 11), .ref (qa 12), .ref (qa 13), .ref (qa 14), .ref (qa 15), .ref (qa 16), .ref (qa 17), .ref (qa 18), .ref (qa 19), .ref (qa 20), .int 0, .int 0, .int 0, .int 0, .long 0, .long 0, .long 0, .long 0, .long 0, .ref (qa 21), .int 0, .int 0, .int 0, .int 0]))] s.heap.size = A at hD hZ ⊢
  have hA : ∀ q : Nat, s.heap.size ≤ q → A q := fun q h => by rw [← hAe]; exact Or.inr h
  have hS : va_S A s.heap s.heap [] := va_S.rf
  have hl := lv_entry ([.ref h0, .int p0, .int p1]) (n := 3) (Nat.le_of_ble_eq_true rfl)
  rw [lg_entry_eq]
  generalize (lg_sl ([.ref h0, .int p0, .int p1]) ++ List.replicate (3 - (lg_sl ([.ref h0, .int p0, .int p1])).length) Slot.unset).toArray = ls at hl ⊢
  have hl : lv_has ls 3 [(0, .ref h0), (1, .int p0), (2, .int p1)] := hl
  refine lv_aload_n hx hb d_Mo_size_0 rfl (lv_at hl 0 rfl) ?_
  refine lv_iconst (v := 0) hx hb d_Mo_size_1 (by decide) ?_
  refine va_put (D := D) (ci := 7) (v := .int 0) (ty := .int) (C := R_Mo) (T := F_Mo) (N := 52) hx hb hts i_Mo t_Mo t_Mo_ok n_Mo hown hK hP hD hS 0 rfl rfl 0 (by decide) (hts _ w_397) (fun _ h9 => h9) rfl (by decide +kernel) rfl rfl (Nat.le_of_ble_eq_true rfl) d_Mo_size_2 (fun H locs hP hD hS => ?_)
  have hP : va_P D cls [(h0, .inr (7, [.int 0, .int 0, .int 0, .int 0, .int 0, .int 0, .int (-1), .int (-1), .int 0, .int 0, .int 0, .int 0, .int 0, .int 0, .int 0, .int 0, .ref (qa 0), .ref (qa 1), .ref (qa 2), .ref (qa 3), .int 0, .ref (qa 4), .ref (qa 5), .ref (qa 6), .ref (qa 7), .ref (qa 8), .ref (qa 9), .ref (qa 10), .ref (qa 11), .ref (qa 12), .ref (qa 13), .ref (qa 14), .ref (qa 15), .ref (qa 16), .ref (qa 17), .ref (qa 18), .ref (qa 19), .ref (qa 20), .int 0, .int 0, .int 0, .int 0, .long 0, .long 0, .long 0, .long 0, .long 0, .ref (qa 21), .int 0, .int 0, .int 0, .int 0]))] H := hP
  have hD : va_D A [(h0, .inr (7, [.int 0, .int 0, .int 0, .int 0, .int 0, .int 0, .int (-1), .int (-1), .int 0, .int 0, .int 0, .int 0, .int 0, .int 0, .int 0, .int 0, .ref (qa 0), .ref (qa 1), .ref (qa 2), .ref (qa 3), .int 0, .ref (qa 4), .ref (qa 5), .ref (qa 6), .ref (qa 7), .ref (qa 8), .ref (qa 9), .ref (qa 10), .ref (qa 11), .ref (qa 12), .ref (qa 13), .ref (qa 14), .ref (qa 15), .ref (qa 16), .ref (qa 17), .ref (qa 18), .ref (qa 19), .ref (qa 20), .int 0, .int 0, .int 0, .int 0, .long 0, .long 0, .long 0, .long 0, .long 0, .ref (qa 21), .int 0, .int 0, .int 0, .int 0]))] := hD
  refine lv_iload_n hx hb d_Mo_size_5 rfl (lv_at hl 1 rfl) ?_
  refine lv_aload_n hx hb d_Mo_size_6 rfl (lv_at hl 0 rfl) ?_
  refine va_get (D := D) (ci := 7) (v := .int 0) (C := R_Mo) (T := F_Mo) (N := 52) hx hb hts i_Mo hown hK hP 0 rfl rfl 2 (by decide) (hts _ w_400) (fun _ h9 => h9) rfl d_Mo_size_7 ?_
  refine xc_S (As := [.int p0, .int 0]) (rest := []) (n := 2) (wc := []) (wr := [(h0, .inr (7, [.int 0, .int 0, .int 0, .int 0, .int 0, .int 0, .int (-1), .int (-1), .int 0, .int 0, .int 0, .int 0, .int 0, .int 0, .int 0, .int 0, .ref (qa 0), .ref (qa 1), .ref (qa 2), .ref (qa 3), .int 0, .ref (qa 4), .ref (qa 5), .ref (qa 6), .ref (qa 7), .ref (qa 8), .ref (qa 9), .ref (qa 10), .ref (qa 11), .ref (qa 12), .ref (qa 13), .ref (qa 14), .ref (qa 15), .ref (qa 16), .ref (qa 17), .ref (qa 18), .ref (qa 19), .ref (qa 20), .int 0, .int 0, .int 0, .int 0, .long 0, .long 0, .long 0, .long 0, .long 0, .ref (qa 21), .int 0, .int 0, .int 0, .int 0]))]) (tc := []) (tr := []) ⟨hx, hb, hml, hown, hts⟩ (c_Mo_within_n l D p0 0 hk H.size) rfl rfl w_510 w_508 w_509 w_8 (by decide +kernel) ⟨Nat.le_of_ble_eq_true rfl, Nat.le_of_ble_eq_true rfl⟩ hP hD hK hS hA hN hZ [] [0] rfl rfl (by decide) (by decide) (by decide) [] [] rfl rfl rfl hl.1 rfl (Nat.le_of_ble_eq_true rfl) d_Mo_size_10 ⟨Nat.le_of_ble_eq_true rfl, Nat.le_of_ble_eq_true rfl⟩ (fun u1 H locs hP hD hK hS => ?_)
  have hP : va_P D cls [(h0, .inr (7, [.int 0, .int 0, .int 0, .int 0, .int 0, .int 0, .int (-1), .int (-1), .int 0, .int 0, .int 0, .int 0, .int 0, .int 0, .int 0, .int 0, .ref (qa 0), .ref (qa 1), .ref (qa 2), .ref (qa 3), .int 0, .ref (qa 4), .ref (qa 5), .ref (qa 6), .ref (qa 7), .ref (qa 8), .ref (qa 9), .ref (qa 10), .ref (qa 11), .ref (qa 12), .ref (qa 13), .ref (qa 14), .ref (qa 15), .ref (qa 16), .ref (qa 17), .ref (qa 18), .ref (qa 19), .ref (qa 20), .int 0, .int 0, .int 0, .int 0, .long 0, .long 0, .long 0, .long 0, .long 0, .ref (qa 21), .int 0, .int 0, .int 0, .int 0]))] H := hP
  have hD : va_D A [(h0, .inr (7, [.int 0, .int 0, .int 0, .int 0, .int 0, .int 0, .int (-1), .int (-1), .int 0, .int 0, .int 0, .int 0, .int 0, .int 0, .int 0, .int 0, .ref (qa 0), .ref (qa 1), .ref (qa 2), .ref (qa 3), .int 0, .ref (qa 4), .ref (qa 5), .ref (qa 6), .ref (qa 7), .ref (qa 8), .ref (qa 9), .ref (qa 10), .ref (qa 11), .ref (qa 12), .ref (qa 13), .ref (qa 14), .ref (qa 15), .ref (qa 16), .ref (qa 17), .ref (qa 18), .ref (qa 19), .ref (qa 20), .int 0, .int 0, .int 0, .int 0, .long 0, .long 0, .long 0, .long 0, .long 0, .ref (qa 21), .int 0, .int 0, .int 0, .int 0]))] := hD
  have hK : va_K D cls [] s := hK
  refine W.eq (g2 := F0 m 13 ls [.int 0]) rfl ?_
  refine lv_if_eq (tgt := 37) hx hb d_Mo_size_13 (by decide) (fun _ => ?_) (fun q9 => absurd (by decide : ((0 : Int32) = 0)) q9)
  refine lv_aload_n hx hb d_Mo_size_37 rfl (lv_at hl 0 rfl) ?_
  refine lv_iconst (v := 1) hx hb d_Mo_size_38 (by decide) ?_
  refine xc_V (As := [.int 1]) (rest := []) (n := 1) (wc := [(h0, .inr (7, [.int 0, .int 0, .int 0, .int 0, .int 0, .int 0, .int (-1), .int (-1), .int 0, .int 0, .int 0, .int 0, .int 0, .int 0, .int 0, .int 0, .ref (qa 0), .ref (qa 1), .ref (qa 2), .ref (qa 3), .int 0, .ref (qa 4), .ref (qa 5), .ref (qa 6), .ref (qa 7), .ref (qa 8), .ref (qa 9), .ref (qa 10), .ref (qa 11), .ref (qa 12), .ref (qa 13), .ref (qa 14), .ref (qa 15), .ref (qa 16), .ref (qa 17), .ref (qa 18), .ref (qa 19), .ref (qa 20), .int 0, .int 0, .int 0, .int 0, .long 0, .long 0, .long 0, .long 0, .long 0, .ref (qa 21), .int 0, .int 0, .int 0, .int 0]))]) (wr := []) (tc := []) (tr := []) ⟨hx, hb, hml, hown, hts⟩ (c_Mo_refuse_1 l D h0 qa H.size) rfl rfl w_452 w_450 w_451 w_557 w_8 (by decide +kernel) ⟨Nat.le_of_ble_eq_true rfl, Nat.le_of_ble_eq_true rfl⟩ hP hD hK hS hA hN hZ [0] [] rfl rfl (by decide) (by decide) (by decide) [] [] rfl rfl (ci := 7) (q0 := 0) (q := (R_Mo, F_Mo, 52)) rfl rfl rfl rfl hl.1 rfl (Nat.le_of_ble_eq_true rfl) d_Mo_size_39 ⟨Nat.le_of_ble_eq_true rfl, Nat.le_of_ble_eq_true rfl⟩ (fun u2 H locs hP hD hK hS => ?_)
  have hP : va_P D cls [(h0, .inr (7, [.int 1, .int 0, .int 0, .int 0, .int 0, .int 0, .int (-1), .int (-1), .int 0, .int 0, .int 0, .int 0, .int 0, .int 0, .int 0, .int 0, .ref (qa 0), .ref (qa 1), .ref (qa 2), .ref (qa 3), .int 0, .ref (qa 4), .ref (qa 5), .ref (qa 6), .ref (qa 7), .ref (qa 8), .ref (qa 9), .ref (qa 10), .ref (qa 11), .ref (qa 12), .ref (qa 13), .ref (qa 14), .ref (qa 15), .ref (qa 16), .ref (qa 17), .ref (qa 18), .ref (qa 19), .ref (qa 20), .int 0, .int 0, .int 0, .int 0, .long 0, .long 0, .long 0, .long 0, .long 0, .ref (qa 21), .int 0, .int 0, .int 0, .int 0]))] H := hP
  have hD : va_D A [(h0, .inr (7, [.int 1, .int 0, .int 0, .int 0, .int 0, .int 0, .int (-1), .int (-1), .int 0, .int 0, .int 0, .int 0, .int 0, .int 0, .int 0, .int 0, .ref (qa 0), .ref (qa 1), .ref (qa 2), .ref (qa 3), .int 0, .ref (qa 4), .ref (qa 5), .ref (qa 6), .ref (qa 7), .ref (qa 8), .ref (qa 9), .ref (qa 10), .ref (qa 11), .ref (qa 12), .ref (qa 13), .ref (qa 14), .ref (qa 15), .ref (qa 16), .ref (qa 17), .ref (qa 18), .ref (qa 19), .ref (qa 20), .int 0, .int 0, .int 0, .int 0, .long 0, .long 0, .long 0, .long 0, .long 0, .ref (qa 21), .int 0, .int 0, .int 0, .int 0]))] := hD
  have hK : va_K D cls [] s := hK
  refine W.eq (g2 := F0 m 42 ls [.int 0]) rfl ?_
  exact xr_i hx hb hr hlocks hP hD hK hS (()) [0] rfl rfl (by decide) [] rfl rfl d_Mo_size_42

set_option maxHeartbeats 4000000 in
set_option maxRecDepth 100000 in
theorem c_Mo_size_g (l : Launch) (D : va_G) (h0 : Nat) (qa : Nat → Nat) (p0 p1 : Int32) (hk : ¬ p0 < 0) (hg : 0 ≤ p0) (sz : Nat) : Met l y_Mo_size (Cond.code y_Mo_size b_Mo_size 3 (some .int) :: bw) (xR 2 0 0) (va_Pc [.ref h0, .int p0, .int p1] (xP D [] sz [(h0, .inr (7, [.int 0, .int 0, .int 0, .int 0, .int 0, .int 0, .int (-1), .int (-1), .int 0, .int 0, .int 0, .int 0, .int 0, .int 0, .int 0, .int 0, .ref (qa 0), .ref (qa 1), .ref (qa 2), .ref (qa 3), .int 0, .ref (qa 4), .ref (qa 5), .ref (qa 6), .ref (qa 7), .ref (qa 8), .ref (qa 9), .ref (qa 10), .ref (qa 11), .ref (qa 12), .ref (qa 13), .ref (qa 14), .ref (qa 15), .ref (qa 16), .ref (qa 17), .ref (qa 18), .ref (qa 19), .ref (qa 20), .int 0, .int 0, .int 0, .int 0, .long 0, .long 0, .long 0, .long 0, .long 0, .ref (qa 21), .int 0, .int 0, .int 0, .int 0]))])) (xQ (S := Unit) (fun _ => some (.int 0)) (fun _ => [(h0, .inr (7, [.int 1, .int 0, .int 0, .int 0, .int 0, .int 0, .int (-1), .int (-1), .int 0, .int 0, .int 0, .int 0, .int 0, .int 0, .int 0, .int 0, .ref (qa 0), .ref (qa 1), .ref (qa 2), .ref (qa 3), .int 0, .ref (qa 4), .ref (qa 5), .ref (qa 6), .ref (qa 7), .ref (qa 8), .ref (qa 9), .ref (qa 10), .ref (qa 11), .ref (qa 12), .ref (qa 13), .ref (qa 14), .ref (qa 15), .ref (qa 16), .ref (qa 17), .ref (qa 18), .ref (qa 19), .ref (qa 20), .int 0, .int 0, .int 0, .int 0, .long 0, .long 0, .long 0, .long 0, .long 0, .ref (qa 21), .int 0, .int 0, .int 0, .int 0]))]) (fun _ => []) D (va_A [(h0, .inr (7, [.int 0, .int 0, .int 0, .int 0, .int 0, .int 0, .int (-1), .int (-1), .int 0, .int 0, .int 0, .int 0, .int 0, .int 0, .int 0, .int 0, .ref (qa 0), .ref (qa 1), .ref (qa 2), .ref (qa 3), .int 0, .ref (qa 4), .ref (qa 5), .ref (qa 6), .ref (qa 7), .ref (qa 8), .ref (qa 9), .ref (qa 10), .ref (qa 11), .ref (qa 12), .ref (qa 13), .ref (qa 14), .ref (qa 15), .ref (qa 16), .ref (qa 17), .ref (qa 18), .ref (qa 19), .ref (qa 20), .int 0, .int 0, .int 0, .int 0, .long 0, .long 0, .long 0, .long 0, .long 0, .ref (qa 21), .int 0, .int 0, .int 0, .int 0]))] sz)) 0 0 (va_A [(h0, .inr (7, [.int 0, .int 0, .int 0, .int 0, .int 0, .int 0, .int (-1), .int (-1), .int 0, .int 0, .int 0, .int 0, .int 0, .int 0, .int 0, .int 0, .ref (qa 0), .ref (qa 1), .ref (qa 2), .ref (qa 3), .int 0, .ref (qa 4), .ref (qa 5), .ref (qa 6), .ref (qa 7), .ref (qa 8), .ref (qa 9), .ref (qa 10), .ref (qa 11), .ref (qa 12), .ref (qa 13), .ref (qa 14), .ref (qa 15), .ref (qa 16), .ref (qa 17), .ref (qa 18), .ref (qa 19), .ref (qa 20), .int 0, .int 0, .int 0, .int 0, .long 0, .long 0, .long 0, .long 0, .long 0, .ref (qa 21), .int 0, .int 0, .int 0, .int 0]))] sz) := by
  refine Met.ofW (cc := b_Mo_size) (maxL := 3) (ret := (some .int)) (by decide) rfl ?_
  intro p e s m args below meth c s₁ B hml hv
  obtain ⟨rfl, hsz, hP, hK, hD0, hN, hZ⟩ := hv
  have hx := B.exec
  have hb := B.bytes
  have hr := B.returns
  have hlocks := B.notSynchronized
  have hts : ∀ w ∈ bw, w.before _ s = true := fun w h => atoms_spec (ws := Cond.code y_Mo_size b_Mo_size 3 (some .int) :: bw) B.pre w (List.mem_cons_of_mem _ h)
  have hown : s.vm.findClass "ObjectForgeModel" = some m.cls := findClass_of_methodNamed B.named
  subst hsz
  have hP0 := hP
  have hD := hD0.self (sz := s.heap.size)
  generalize hAe : va_A [(h0, .inr (7, [.int 0, .int 0, .int 0, .int 0, .int 0, .int 0, .int (-1), .int (-1), .int 0, .int 0, .int 0, .int 0, .int 0, .int 0, .int 0, .int 0, .ref (qa 0), .ref (qa 1), .ref (qa 2), .ref (qa 3), .int 0, .ref (qa 4), .ref (qa 5), .ref (qa 6), .ref (qa 7), .ref (qa 8), .ref (qa 9), .ref (qa 10), .ref (qa 11), .ref (qa 12), .ref (qa 13), .ref (qa 14), .ref (qa 15), .ref (qa 16), .ref (qa 17), .ref (qa 18), .ref (qa 19), .ref (qa 20), .int 0, .int 0, .int 0, .int 0, .long 0, .long 0, .long 0, .long 0, .long 0, .ref (qa 21), .int 0, .int 0, .int 0, .int 0]))] s.heap.size = A at hD hZ ⊢
  have hA : ∀ q : Nat, s.heap.size ≤ q → A q := fun q h => by rw [← hAe]; exact Or.inr h
  have hS : va_S A s.heap s.heap [] := va_S.rf
  have hl := lv_entry ([.ref h0, .int p0, .int p1]) (n := 3) (Nat.le_of_ble_eq_true rfl)
  rw [lg_entry_eq]
  generalize (lg_sl ([.ref h0, .int p0, .int p1]) ++ List.replicate (3 - (lg_sl ([.ref h0, .int p0, .int p1])).length) Slot.unset).toArray = ls at hl ⊢
  have hl : lv_has ls 3 [(0, .ref h0), (1, .int p0), (2, .int p1)] := hl
  refine lv_aload_n hx hb d_Mo_size_0 rfl (lv_at hl 0 rfl) ?_
  refine lv_iconst (v := 0) hx hb d_Mo_size_1 (by decide) ?_
  refine va_put (D := D) (ci := 7) (v := .int 0) (ty := .int) (C := R_Mo) (T := F_Mo) (N := 52) hx hb hts i_Mo t_Mo t_Mo_ok n_Mo hown hK hP hD hS 0 rfl rfl 0 (by decide) (hts _ w_397) (fun _ h9 => h9) rfl (by decide +kernel) rfl rfl (Nat.le_of_ble_eq_true rfl) d_Mo_size_2 (fun H locs hP hD hS => ?_)
  have hP : va_P D cls [(h0, .inr (7, [.int 0, .int 0, .int 0, .int 0, .int 0, .int 0, .int (-1), .int (-1), .int 0, .int 0, .int 0, .int 0, .int 0, .int 0, .int 0, .int 0, .ref (qa 0), .ref (qa 1), .ref (qa 2), .ref (qa 3), .int 0, .ref (qa 4), .ref (qa 5), .ref (qa 6), .ref (qa 7), .ref (qa 8), .ref (qa 9), .ref (qa 10), .ref (qa 11), .ref (qa 12), .ref (qa 13), .ref (qa 14), .ref (qa 15), .ref (qa 16), .ref (qa 17), .ref (qa 18), .ref (qa 19), .ref (qa 20), .int 0, .int 0, .int 0, .int 0, .long 0, .long 0, .long 0, .long 0, .long 0, .ref (qa 21), .int 0, .int 0, .int 0, .int 0]))] H := hP
  have hD : va_D A [(h0, .inr (7, [.int 0, .int 0, .int 0, .int 0, .int 0, .int 0, .int (-1), .int (-1), .int 0, .int 0, .int 0, .int 0, .int 0, .int 0, .int 0, .int 0, .ref (qa 0), .ref (qa 1), .ref (qa 2), .ref (qa 3), .int 0, .ref (qa 4), .ref (qa 5), .ref (qa 6), .ref (qa 7), .ref (qa 8), .ref (qa 9), .ref (qa 10), .ref (qa 11), .ref (qa 12), .ref (qa 13), .ref (qa 14), .ref (qa 15), .ref (qa 16), .ref (qa 17), .ref (qa 18), .ref (qa 19), .ref (qa 20), .int 0, .int 0, .int 0, .int 0, .long 0, .long 0, .long 0, .long 0, .long 0, .ref (qa 21), .int 0, .int 0, .int 0, .int 0]))] := hD
  refine lv_iload_n hx hb d_Mo_size_5 rfl (lv_at hl 1 rfl) ?_
  refine lv_aload_n hx hb d_Mo_size_6 rfl (lv_at hl 0 rfl) ?_
  refine va_get (D := D) (ci := 7) (v := .int 0) (C := R_Mo) (T := F_Mo) (N := 52) hx hb hts i_Mo hown hK hP 0 rfl rfl 2 (by decide) (hts _ w_400) (fun _ h9 => h9) rfl d_Mo_size_7 ?_
  refine xc_S (As := [.int p0, .int 0]) (rest := []) (n := 2) (wc := []) (wr := [(h0, .inr (7, [.int 0, .int 0, .int 0, .int 0, .int 0, .int 0, .int (-1), .int (-1), .int 0, .int 0, .int 0, .int 0, .int 0, .int 0, .int 0, .int 0, .ref (qa 0), .ref (qa 1), .ref (qa 2), .ref (qa 3), .int 0, .ref (qa 4), .ref (qa 5), .ref (qa 6), .ref (qa 7), .ref (qa 8), .ref (qa 9), .ref (qa 10), .ref (qa 11), .ref (qa 12), .ref (qa 13), .ref (qa 14), .ref (qa 15), .ref (qa 16), .ref (qa 17), .ref (qa 18), .ref (qa 19), .ref (qa 20), .int 0, .int 0, .int 0, .int 0, .long 0, .long 0, .long 0, .long 0, .long 0, .ref (qa 21), .int 0, .int 0, .int 0, .int 0]))]) (tc := []) (tr := []) ⟨hx, hb, hml, hown, hts⟩ (c_Mo_within_g l D p0 0 hk hg H.size) rfl rfl w_510 w_508 w_509 w_8 (by decide +kernel) ⟨Nat.le_of_ble_eq_true rfl, Nat.le_of_ble_eq_true rfl⟩ hP hD hK hS hA hN hZ [] [0] rfl rfl (by decide) (by decide) (by decide) [] [] rfl rfl rfl hl.1 rfl (Nat.le_of_ble_eq_true rfl) d_Mo_size_10 ⟨Nat.le_of_ble_eq_true rfl, Nat.le_of_ble_eq_true rfl⟩ (fun u1 H locs hP hD hK hS => ?_)
  have hP : va_P D cls [(h0, .inr (7, [.int 0, .int 0, .int 0, .int 0, .int 0, .int 0, .int (-1), .int (-1), .int 0, .int 0, .int 0, .int 0, .int 0, .int 0, .int 0, .int 0, .ref (qa 0), .ref (qa 1), .ref (qa 2), .ref (qa 3), .int 0, .ref (qa 4), .ref (qa 5), .ref (qa 6), .ref (qa 7), .ref (qa 8), .ref (qa 9), .ref (qa 10), .ref (qa 11), .ref (qa 12), .ref (qa 13), .ref (qa 14), .ref (qa 15), .ref (qa 16), .ref (qa 17), .ref (qa 18), .ref (qa 19), .ref (qa 20), .int 0, .int 0, .int 0, .int 0, .long 0, .long 0, .long 0, .long 0, .long 0, .ref (qa 21), .int 0, .int 0, .int 0, .int 0]))] H := hP
  have hD : va_D A [(h0, .inr (7, [.int 0, .int 0, .int 0, .int 0, .int 0, .int 0, .int (-1), .int (-1), .int 0, .int 0, .int 0, .int 0, .int 0, .int 0, .int 0, .int 0, .ref (qa 0), .ref (qa 1), .ref (qa 2), .ref (qa 3), .int 0, .ref (qa 4), .ref (qa 5), .ref (qa 6), .ref (qa 7), .ref (qa 8), .ref (qa 9), .ref (qa 10), .ref (qa 11), .ref (qa 12), .ref (qa 13), .ref (qa 14), .ref (qa 15), .ref (qa 16), .ref (qa 17), .ref (qa 18), .ref (qa 19), .ref (qa 20), .int 0, .int 0, .int 0, .int 0, .long 0, .long 0, .long 0, .long 0, .long 0, .ref (qa 21), .int 0, .int 0, .int 0, .int 0]))] := hD
  have hK : va_K D cls [] s := hK
  refine W.eq (g2 := F0 m 13 ls [.int 0]) rfl ?_
  refine lv_if_eq (tgt := 37) hx hb d_Mo_size_13 (by decide) (fun _ => ?_) (fun q9 => absurd (by decide : ((0 : Int32) = 0)) q9)
  refine lv_aload_n hx hb d_Mo_size_37 rfl (lv_at hl 0 rfl) ?_
  refine lv_iconst (v := 1) hx hb d_Mo_size_38 (by decide) ?_
  refine xc_V (As := [.int 1]) (rest := []) (n := 1) (wc := [(h0, .inr (7, [.int 0, .int 0, .int 0, .int 0, .int 0, .int 0, .int (-1), .int (-1), .int 0, .int 0, .int 0, .int 0, .int 0, .int 0, .int 0, .int 0, .ref (qa 0), .ref (qa 1), .ref (qa 2), .ref (qa 3), .int 0, .ref (qa 4), .ref (qa 5), .ref (qa 6), .ref (qa 7), .ref (qa 8), .ref (qa 9), .ref (qa 10), .ref (qa 11), .ref (qa 12), .ref (qa 13), .ref (qa 14), .ref (qa 15), .ref (qa 16), .ref (qa 17), .ref (qa 18), .ref (qa 19), .ref (qa 20), .int 0, .int 0, .int 0, .int 0, .long 0, .long 0, .long 0, .long 0, .long 0, .ref (qa 21), .int 0, .int 0, .int 0, .int 0]))]) (wr := []) (tc := []) (tr := []) ⟨hx, hb, hml, hown, hts⟩ (c_Mo_refuse_1 l D h0 qa H.size) rfl rfl w_452 w_450 w_451 w_557 w_8 (by decide +kernel) ⟨Nat.le_of_ble_eq_true rfl, Nat.le_of_ble_eq_true rfl⟩ hP hD hK hS hA hN hZ [0] [] rfl rfl (by decide) (by decide) (by decide) [] [] rfl rfl (ci := 7) (q0 := 0) (q := (R_Mo, F_Mo, 52)) rfl rfl rfl rfl hl.1 rfl (Nat.le_of_ble_eq_true rfl) d_Mo_size_39 ⟨Nat.le_of_ble_eq_true rfl, Nat.le_of_ble_eq_true rfl⟩ (fun u2 H locs hP hD hK hS => ?_)
  have hP : va_P D cls [(h0, .inr (7, [.int 1, .int 0, .int 0, .int 0, .int 0, .int 0, .int (-1), .int (-1), .int 0, .int 0, .int 0, .int 0, .int 0, .int 0, .int 0, .int 0, .ref (qa 0), .ref (qa 1), .ref (qa 2), .ref (qa 3), .int 0, .ref (qa 4), .ref (qa 5), .ref (qa 6), .ref (qa 7), .ref (qa 8), .ref (qa 9), .ref (qa 10), .ref (qa 11), .ref (qa 12), .ref (qa 13), .ref (qa 14), .ref (qa 15), .ref (qa 16), .ref (qa 17), .ref (qa 18), .ref (qa 19), .ref (qa 20), .int 0, .int 0, .int 0, .int 0, .long 0, .long 0, .long 0, .long 0, .long 0, .ref (qa 21), .int 0, .int 0, .int 0, .int 0]))] H := hP
  have hD : va_D A [(h0, .inr (7, [.int 1, .int 0, .int 0, .int 0, .int 0, .int 0, .int (-1), .int (-1), .int 0, .int 0, .int 0, .int 0, .int 0, .int 0, .int 0, .int 0, .ref (qa 0), .ref (qa 1), .ref (qa 2), .ref (qa 3), .int 0, .ref (qa 4), .ref (qa 5), .ref (qa 6), .ref (qa 7), .ref (qa 8), .ref (qa 9), .ref (qa 10), .ref (qa 11), .ref (qa 12), .ref (qa 13), .ref (qa 14), .ref (qa 15), .ref (qa 16), .ref (qa 17), .ref (qa 18), .ref (qa 19), .ref (qa 20), .int 0, .int 0, .int 0, .int 0, .long 0, .long 0, .long 0, .long 0, .long 0, .ref (qa 21), .int 0, .int 0, .int 0, .int 0]))] := hD
  have hK : va_K D cls [] s := hK
  refine W.eq (g2 := F0 m 42 ls [.int 0]) rfl ?_
  exact xr_i hx hb hr hlocks hP hD hK hS (()) [0] rfl rfl (by decide) [] rfl rfl d_Mo_size_42

theorem d_Mo_byteAt_0 : decode b_Mo_byteAt 0 = .ok (.aload_n 0, 1) := by decide +kernel
theorem d_Mo_byteAt_1 : decode b_Mo_byteAt 1 = .ok (.iconst 0, 1) := by decide +kernel
theorem d_Mo_byteAt_2 : decode b_Mo_byteAt 2 = .ok (.putfield 88, 3) := by decide +kernel
theorem d_Mo_byteAt_5 : decode b_Mo_byteAt 5 = .ok (.iload_n 1, 1) := by decide +kernel
theorem d_Mo_byteAt_6 : decode b_Mo_byteAt 6 = .ok (.aload_n 0, 1) := by decide +kernel
theorem d_Mo_byteAt_7 : decode b_Mo_byteAt 7 = .ok (.getfield 1010, 3) := by decide +kernel
theorem d_Mo_byteAt_10 : decode b_Mo_byteAt 10 = .ok (.invokestatic 1181, 3) := by decide +kernel
theorem d_Mo_byteAt_13 : decode b_Mo_byteAt 13 = .ok (.ifCond .eq 51, 3) := by decide +kernel
theorem d_Mo_byteAt_64 : decode b_Mo_byteAt 64 = .ok (.aload_n 0, 1) := by decide +kernel
theorem d_Mo_byteAt_65 : decode b_Mo_byteAt 65 = .ok (.iconst 1, 1) := by decide +kernel
theorem d_Mo_byteAt_66 : decode b_Mo_byteAt 66 = .ok (.invokevirtual 94, 3) := by decide +kernel
theorem d_Mo_byteAt_69 : decode b_Mo_byteAt 69 = .ok (.ireturn, 1) := by decide +kernel
set_option maxHeartbeats 4000000 in
set_option maxRecDepth 100000 in
theorem c_Mo_byteAt_n (l : Launch) (D : va_G) (h0 : Nat) (qa : Nat → Nat) (p0 p1 p2 : Int32) (hk : p0 < 0) (sz : Nat) : Met l y_Mo_byteAt (Cond.code y_Mo_byteAt b_Mo_byteAt 4 (some .int) :: bw) (xR 2 0 0) (va_Pc [.ref h0, .int p0, .int p1, .int p2] (xP D [] sz [(h0, .inr (7, [.int 0, .int 0, .int 0, .int 0, .int 0, .int 0, .int (-1), .int (-1), .int 0, .int 0, .int 0, .int 0, .int 0, .int 0, .int 0, .int 0, .ref (qa 0), .ref (qa 1), .ref (qa 2), .ref (qa 3), .int 0, .ref (qa 4), .ref (qa 5), .ref (qa 6), .ref (qa 7), .ref (qa 8), .ref (qa 9), .ref (qa 10), .ref (qa 11), .ref (qa 12), .ref (qa 13), .ref (qa 14), .ref (qa 15), .ref (qa 16), .ref (qa 17), .ref (qa 18), .ref (qa 19), .ref (qa 20), .int 0, .int 0, .int 0, .int 0, .long 0, .long 0, .long 0, .long 0, .long 0, .ref (qa 21), .int 0, .int 0, .int 0, .int 0]))])) (xQ (S := Unit) (fun _ => some (.int 0)) (fun _ => [(h0, .inr (7, [.int 1, .int 0, .int 0, .int 0, .int 0, .int 0, .int (-1), .int (-1), .int 0, .int 0, .int 0, .int 0, .int 0, .int 0, .int 0, .int 0, .ref (qa 0), .ref (qa 1), .ref (qa 2), .ref (qa 3), .int 0, .ref (qa 4), .ref (qa 5), .ref (qa 6), .ref (qa 7), .ref (qa 8), .ref (qa 9), .ref (qa 10), .ref (qa 11), .ref (qa 12), .ref (qa 13), .ref (qa 14), .ref (qa 15), .ref (qa 16), .ref (qa 17), .ref (qa 18), .ref (qa 19), .ref (qa 20), .int 0, .int 0, .int 0, .int 0, .long 0, .long 0, .long 0, .long 0, .long 0, .ref (qa 21), .int 0, .int 0, .int 0, .int 0]))]) (fun _ => []) D (va_A [(h0, .inr (7, [.int 0, .int 0, .int 0, .int 0, .int 0, .int 0, .int (-1), .int (-1), .int 0, .int 0, .int 0, .int 0, .int 0, .int 0, .int 0, .int 0, .ref (qa 0), .ref (qa 1), .ref (qa 2), .ref (qa 3), .int 0, .ref (qa 4), .ref (qa 5), .ref (qa 6), .ref (qa 7), .ref (qa 8), .ref (qa 9), .ref (qa 10), .ref (qa 11), .ref (qa 12), .ref (qa 13), .ref (qa 14), .ref (qa 15), .ref (qa 16), .ref (qa 17), .ref (qa 18), .ref (qa 19), .ref (qa 20), .int 0, .int 0, .int 0, .int 0, .long 0, .long 0, .long 0, .long 0, .long 0, .ref (qa 21), .int 0, .int 0, .int 0, .int 0]))] sz)) 0 0 (va_A [(h0, .inr (7, [.int 0, .int 0, .int 0, .int 0, .int 0, .int 0, .int (-1), .int (-1), .int 0, .int 0, .int 0, .int 0, .int 0, .int 0, .int 0, .int 0, .ref (qa 0), .ref (qa 1), .ref (qa 2), .ref (qa 3), .int 0, .ref (qa 4), .ref (qa 5), .ref (qa 6), .ref (qa 7), .ref (qa 8), .ref (qa 9), .ref (qa 10), .ref (qa 11), .ref (qa 12), .ref (qa 13), .ref (qa 14), .ref (qa 15), .ref (qa 16), .ref (qa 17), .ref (qa 18), .ref (qa 19), .ref (qa 20), .int 0, .int 0, .int 0, .int 0, .long 0, .long 0, .long 0, .long 0, .long 0, .ref (qa 21), .int 0, .int 0, .int 0, .int 0]))] sz) := by
  refine Met.ofW (cc := b_Mo_byteAt) (maxL := 4) (ret := (some .int)) (by decide) rfl ?_
  intro p e s m args below meth c s₁ B hml hv
  obtain ⟨rfl, hsz, hP, hK, hD0, hN, hZ⟩ := hv
  have hx := B.exec
  have hb := B.bytes
  have hr := B.returns
  have hlocks := B.notSynchronized
  have hts : ∀ w ∈ bw, w.before _ s = true := fun w h => atoms_spec (ws := Cond.code y_Mo_byteAt b_Mo_byteAt 4 (some .int) :: bw) B.pre w (List.mem_cons_of_mem _ h)
  have hown : s.vm.findClass "ObjectForgeModel" = some m.cls := findClass_of_methodNamed B.named
  subst hsz
  have hP0 := hP
  have hD := hD0.self (sz := s.heap.size)
  generalize hAe : va_A [(h0, .inr (7, [.int 0, .int 0, .int 0, .int 0, .int 0, .int 0, .int (-1), .int (-1), .int 0, .int 0, .int 0, .int 0, .int 0, .int 0, .int 0, .int 0, .ref (qa 0), .ref (qa 1), .ref (qa 2), .ref (qa 3), .int 0, .ref (qa 4), .ref (qa 5), .ref (qa 6), .ref (qa 7), .ref (qa 8), .ref (qa 9), .ref (qa 10), .ref (qa 11), .ref (qa 12), .ref (qa 13), .ref (qa 14), .ref (qa 15), .ref (qa 16), .ref (qa 17), .ref (qa 18), .ref (qa 19), .ref (qa 20), .int 0, .int 0, .int 0, .int 0, .long 0, .long 0, .long 0, .long 0, .long 0, .ref (qa 21), .int 0, .int 0, .int 0, .int 0]))] s.heap.size = A at hD hZ ⊢
  have hA : ∀ q : Nat, s.heap.size ≤ q → A q := fun q h => by rw [← hAe]; exact Or.inr h
  have hS : va_S A s.heap s.heap [] := va_S.rf
  have hl := lv_entry ([.ref h0, .int p0, .int p1, .int p2]) (n := 4) (Nat.le_of_ble_eq_true rfl)
  rw [lg_entry_eq]
  generalize (lg_sl ([.ref h0, .int p0, .int p1, .int p2]) ++ List.replicate (4 - (lg_sl ([.ref h0, .int p0, .int p1, .int p2])).length) Slot.unset).toArray = ls at hl ⊢
  have hl : lv_has ls 4 [(0, .ref h0), (1, .int p0), (2, .int p1), (3, .int p2)] := hl
  refine lv_aload_n hx hb d_Mo_byteAt_0 rfl (lv_at hl 0 rfl) ?_
  refine lv_iconst (v := 0) hx hb d_Mo_byteAt_1 (by decide) ?_
  refine va_put (D := D) (ci := 7) (v := .int 0) (ty := .int) (C := R_Mo) (T := F_Mo) (N := 52) hx hb hts i_Mo t_Mo t_Mo_ok n_Mo hown hK hP hD hS 0 rfl rfl 0 (by decide) (hts _ w_397) (fun _ h9 => h9) rfl (by decide +kernel) rfl rfl (Nat.le_of_ble_eq_true rfl) d_Mo_byteAt_2 (fun H locs hP hD hS => ?_)
  have hP : va_P D cls [(h0, .inr (7, [.int 0, .int 0, .int 0, .int 0, .int 0, .int 0, .int (-1), .int (-1), .int 0, .int 0, .int 0, .int 0, .int 0, .int 0, .int 0, .int 0, .ref (qa 0), .ref (qa 1), .ref (qa 2), .ref (qa 3), .int 0, .ref (qa 4), .ref (qa 5), .ref (qa 6), .ref (qa 7), .ref (qa 8), .ref (qa 9), .ref (qa 10), .ref (qa 11), .ref (qa 12), .ref (qa 13), .ref (qa 14), .ref (qa 15), .ref (qa 16), .ref (qa 17), .ref (qa 18), .ref (qa 19), .ref (qa 20), .int 0, .int 0, .int 0, .int 0, .long 0, .long 0, .long 0, .long 0, .long 0, .ref (qa 21), .int 0, .int 0, .int 0, .int 0]))] H := hP
  have hD : va_D A [(h0, .inr (7, [.int 0, .int 0, .int 0, .int 0, .int 0, .int 0, .int (-1), .int (-1), .int 0, .int 0, .int 0, .int 0, .int 0, .int 0, .int 0, .int 0, .ref (qa 0), .ref (qa 1), .ref (qa 2), .ref (qa 3), .int 0, .ref (qa 4), .ref (qa 5), .ref (qa 6), .ref (qa 7), .ref (qa 8), .ref (qa 9), .ref (qa 10), .ref (qa 11), .ref (qa 12), .ref (qa 13), .ref (qa 14), .ref (qa 15), .ref (qa 16), .ref (qa 17), .ref (qa 18), .ref (qa 19), .ref (qa 20), .int 0, .int 0, .int 0, .int 0, .long 0, .long 0, .long 0, .long 0, .long 0, .ref (qa 21), .int 0, .int 0, .int 0, .int 0]))] := hD
  refine lv_iload_n hx hb d_Mo_byteAt_5 rfl (lv_at hl 1 rfl) ?_
  refine lv_aload_n hx hb d_Mo_byteAt_6 rfl (lv_at hl 0 rfl) ?_
  refine va_get (D := D) (ci := 7) (v := .int 0) (C := R_Mo) (T := F_Mo) (N := 52) hx hb hts i_Mo hown hK hP 0 rfl rfl 2 (by decide) (hts _ w_400) (fun _ h9 => h9) rfl d_Mo_byteAt_7 ?_
  refine xc_S (As := [.int p0, .int 0]) (rest := []) (n := 2) (wc := []) (wr := [(h0, .inr (7, [.int 0, .int 0, .int 0, .int 0, .int 0, .int 0, .int (-1), .int (-1), .int 0, .int 0, .int 0, .int 0, .int 0, .int 0, .int 0, .int 0, .ref (qa 0), .ref (qa 1), .ref (qa 2), .ref (qa 3), .int 0, .ref (qa 4), .ref (qa 5), .ref (qa 6), .ref (qa 7), .ref (qa 8), .ref (qa 9), .ref (qa 10), .ref (qa 11), .ref (qa 12), .ref (qa 13), .ref (qa 14), .ref (qa 15), .ref (qa 16), .ref (qa 17), .ref (qa 18), .ref (qa 19), .ref (qa 20), .int 0, .int 0, .int 0, .int 0, .long 0, .long 0, .long 0, .long 0, .long 0, .ref (qa 21), .int 0, .int 0, .int 0, .int 0]))]) (tc := []) (tr := []) ⟨hx, hb, hml, hown, hts⟩ (c_Mo_within_n l D p0 0 hk H.size) rfl rfl w_510 w_508 w_509 w_8 (by decide +kernel) ⟨Nat.le_of_ble_eq_true rfl, Nat.le_of_ble_eq_true rfl⟩ hP hD hK hS hA hN hZ [] [0] rfl rfl (by decide) (by decide) (by decide) [] [] rfl rfl rfl hl.1 rfl (Nat.le_of_ble_eq_true rfl) d_Mo_byteAt_10 ⟨Nat.le_of_ble_eq_true rfl, Nat.le_of_ble_eq_true rfl⟩ (fun u1 H locs hP hD hK hS => ?_)
  have hP : va_P D cls [(h0, .inr (7, [.int 0, .int 0, .int 0, .int 0, .int 0, .int 0, .int (-1), .int (-1), .int 0, .int 0, .int 0, .int 0, .int 0, .int 0, .int 0, .int 0, .ref (qa 0), .ref (qa 1), .ref (qa 2), .ref (qa 3), .int 0, .ref (qa 4), .ref (qa 5), .ref (qa 6), .ref (qa 7), .ref (qa 8), .ref (qa 9), .ref (qa 10), .ref (qa 11), .ref (qa 12), .ref (qa 13), .ref (qa 14), .ref (qa 15), .ref (qa 16), .ref (qa 17), .ref (qa 18), .ref (qa 19), .ref (qa 20), .int 0, .int 0, .int 0, .int 0, .long 0, .long 0, .long 0, .long 0, .long 0, .ref (qa 21), .int 0, .int 0, .int 0, .int 0]))] H := hP
  have hD : va_D A [(h0, .inr (7, [.int 0, .int 0, .int 0, .int 0, .int 0, .int 0, .int (-1), .int (-1), .int 0, .int 0, .int 0, .int 0, .int 0, .int 0, .int 0, .int 0, .ref (qa 0), .ref (qa 1), .ref (qa 2), .ref (qa 3), .int 0, .ref (qa 4), .ref (qa 5), .ref (qa 6), .ref (qa 7), .ref (qa 8), .ref (qa 9), .ref (qa 10), .ref (qa 11), .ref (qa 12), .ref (qa 13), .ref (qa 14), .ref (qa 15), .ref (qa 16), .ref (qa 17), .ref (qa 18), .ref (qa 19), .ref (qa 20), .int 0, .int 0, .int 0, .int 0, .long 0, .long 0, .long 0, .long 0, .long 0, .ref (qa 21), .int 0, .int 0, .int 0, .int 0]))] := hD
  have hK : va_K D cls [] s := hK
  refine W.eq (g2 := F0 m 13 ls [.int 0]) rfl ?_
  refine lv_if_eq (tgt := 64) hx hb d_Mo_byteAt_13 (by decide) (fun _ => ?_) (fun q9 => absurd (by decide : ((0 : Int32) = 0)) q9)
  refine lv_aload_n hx hb d_Mo_byteAt_64 rfl (lv_at hl 0 rfl) ?_
  refine lv_iconst (v := 1) hx hb d_Mo_byteAt_65 (by decide) ?_
  refine xc_V (As := [.int 1]) (rest := []) (n := 1) (wc := [(h0, .inr (7, [.int 0, .int 0, .int 0, .int 0, .int 0, .int 0, .int (-1), .int (-1), .int 0, .int 0, .int 0, .int 0, .int 0, .int 0, .int 0, .int 0, .ref (qa 0), .ref (qa 1), .ref (qa 2), .ref (qa 3), .int 0, .ref (qa 4), .ref (qa 5), .ref (qa 6), .ref (qa 7), .ref (qa 8), .ref (qa 9), .ref (qa 10), .ref (qa 11), .ref (qa 12), .ref (qa 13), .ref (qa 14), .ref (qa 15), .ref (qa 16), .ref (qa 17), .ref (qa 18), .ref (qa 19), .ref (qa 20), .int 0, .int 0, .int 0, .int 0, .long 0, .long 0, .long 0, .long 0, .long 0, .ref (qa 21), .int 0, .int 0, .int 0, .int 0]))]) (wr := []) (tc := []) (tr := []) ⟨hx, hb, hml, hown, hts⟩ (c_Mo_refuse_1 l D h0 qa H.size) rfl rfl w_452 w_450 w_451 w_557 w_8 (by decide +kernel) ⟨Nat.le_of_ble_eq_true rfl, Nat.le_of_ble_eq_true rfl⟩ hP hD hK hS hA hN hZ [0] [] rfl rfl (by decide) (by decide) (by decide) [] [] rfl rfl (ci := 7) (q0 := 0) (q := (R_Mo, F_Mo, 52)) rfl rfl rfl rfl hl.1 rfl (Nat.le_of_ble_eq_true rfl) d_Mo_byteAt_66 ⟨Nat.le_of_ble_eq_true rfl, Nat.le_of_ble_eq_true rfl⟩ (fun u2 H locs hP hD hK hS => ?_)
  have hP : va_P D cls [(h0, .inr (7, [.int 1, .int 0, .int 0, .int 0, .int 0, .int 0, .int (-1), .int (-1), .int 0, .int 0, .int 0, .int 0, .int 0, .int 0, .int 0, .int 0, .ref (qa 0), .ref (qa 1), .ref (qa 2), .ref (qa 3), .int 0, .ref (qa 4), .ref (qa 5), .ref (qa 6), .ref (qa 7), .ref (qa 8), .ref (qa 9), .ref (qa 10), .ref (qa 11), .ref (qa 12), .ref (qa 13), .ref (qa 14), .ref (qa 15), .ref (qa 16), .ref (qa 17), .ref (qa 18), .ref (qa 19), .ref (qa 20), .int 0, .int 0, .int 0, .int 0, .long 0, .long 0, .long 0, .long 0, .long 0, .ref (qa 21), .int 0, .int 0, .int 0, .int 0]))] H := hP
  have hD : va_D A [(h0, .inr (7, [.int 1, .int 0, .int 0, .int 0, .int 0, .int 0, .int (-1), .int (-1), .int 0, .int 0, .int 0, .int 0, .int 0, .int 0, .int 0, .int 0, .ref (qa 0), .ref (qa 1), .ref (qa 2), .ref (qa 3), .int 0, .ref (qa 4), .ref (qa 5), .ref (qa 6), .ref (qa 7), .ref (qa 8), .ref (qa 9), .ref (qa 10), .ref (qa 11), .ref (qa 12), .ref (qa 13), .ref (qa 14), .ref (qa 15), .ref (qa 16), .ref (qa 17), .ref (qa 18), .ref (qa 19), .ref (qa 20), .int 0, .int 0, .int 0, .int 0, .long 0, .long 0, .long 0, .long 0, .long 0, .ref (qa 21), .int 0, .int 0, .int 0, .int 0]))] := hD
  have hK : va_K D cls [] s := hK
  refine W.eq (g2 := F0 m 69 ls [.int 0]) rfl ?_
  exact xr_i hx hb hr hlocks hP hD hK hS (()) [0] rfl rfl (by decide) [] rfl rfl d_Mo_byteAt_69

set_option maxHeartbeats 4000000 in
set_option maxRecDepth 100000 in
theorem c_Mo_byteAt_g (l : Launch) (D : va_G) (h0 : Nat) (qa : Nat → Nat) (p0 p1 p2 : Int32) (hk : ¬ p0 < 0) (hg : 0 ≤ p0) (sz : Nat) : Met l y_Mo_byteAt (Cond.code y_Mo_byteAt b_Mo_byteAt 4 (some .int) :: bw) (xR 2 0 0) (va_Pc [.ref h0, .int p0, .int p1, .int p2] (xP D [] sz [(h0, .inr (7, [.int 0, .int 0, .int 0, .int 0, .int 0, .int 0, .int (-1), .int (-1), .int 0, .int 0, .int 0, .int 0, .int 0, .int 0, .int 0, .int 0, .ref (qa 0), .ref (qa 1), .ref (qa 2), .ref (qa 3), .int 0, .ref (qa 4), .ref (qa 5), .ref (qa 6), .ref (qa 7), .ref (qa 8), .ref (qa 9), .ref (qa 10), .ref (qa 11), .ref (qa 12), .ref (qa 13), .ref (qa 14), .ref (qa 15), .ref (qa 16), .ref (qa 17), .ref (qa 18), .ref (qa 19), .ref (qa 20), .int 0, .int 0, .int 0, .int 0, .long 0, .long 0, .long 0, .long 0, .long 0, .ref (qa 21), .int 0, .int 0, .int 0, .int 0]))])) (xQ (S := Unit) (fun _ => some (.int 0)) (fun _ => [(h0, .inr (7, [.int 1, .int 0, .int 0, .int 0, .int 0, .int 0, .int (-1), .int (-1), .int 0, .int 0, .int 0, .int 0, .int 0, .int 0, .int 0, .int 0, .ref (qa 0), .ref (qa 1), .ref (qa 2), .ref (qa 3), .int 0, .ref (qa 4), .ref (qa 5), .ref (qa 6), .ref (qa 7), .ref (qa 8), .ref (qa 9), .ref (qa 10), .ref (qa 11), .ref (qa 12), .ref (qa 13), .ref (qa 14), .ref (qa 15), .ref (qa 16), .ref (qa 17), .ref (qa 18), .ref (qa 19), .ref (qa 20), .int 0, .int 0, .int 0, .int 0, .long 0, .long 0, .long 0, .long 0, .long 0, .ref (qa 21), .int 0, .int 0, .int 0, .int 0]))]) (fun _ => []) D (va_A [(h0, .inr (7, [.int 0, .int 0, .int 0, .int 0, .int 0, .int 0, .int (-1), .int (-1), .int 0, .int 0, .int 0, .int 0, .int 0, .int 0, .int 0, .int 0, .ref (qa 0), .ref (qa 1), .ref (qa 2), .ref (qa 3), .int 0, .ref (qa 4), .ref (qa 5), .ref (qa 6), .ref (qa 7), .ref (qa 8), .ref (qa 9), .ref (qa 10), .ref (qa 11), .ref (qa 12), .ref (qa 13), .ref (qa 14), .ref (qa 15), .ref (qa 16), .ref (qa 17), .ref (qa 18), .ref (qa 19), .ref (qa 20), .int 0, .int 0, .int 0, .int 0, .long 0, .long 0, .long 0, .long 0, .long 0, .ref (qa 21), .int 0, .int 0, .int 0, .int 0]))] sz)) 0 0 (va_A [(h0, .inr (7, [.int 0, .int 0, .int 0, .int 0, .int 0, .int 0, .int (-1), .int (-1), .int 0, .int 0, .int 0, .int 0, .int 0, .int 0, .int 0, .int 0, .ref (qa 0), .ref (qa 1), .ref (qa 2), .ref (qa 3), .int 0, .ref (qa 4), .ref (qa 5), .ref (qa 6), .ref (qa 7), .ref (qa 8), .ref (qa 9), .ref (qa 10), .ref (qa 11), .ref (qa 12), .ref (qa 13), .ref (qa 14), .ref (qa 15), .ref (qa 16), .ref (qa 17), .ref (qa 18), .ref (qa 19), .ref (qa 20), .int 0, .int 0, .int 0, .int 0, .long 0, .long 0, .long 0, .long 0, .long 0, .ref (qa 21), .int 0, .int 0, .int 0, .int 0]))] sz) := by
  refine Met.ofW (cc := b_Mo_byteAt) (maxL := 4) (ret := (some .int)) (by decide) rfl ?_
  intro p e s m args below meth c s₁ B hml hv
  obtain ⟨rfl, hsz, hP, hK, hD0, hN, hZ⟩ := hv
  have hx := B.exec
  have hb := B.bytes
  have hr := B.returns
  have hlocks := B.notSynchronized
  have hts : ∀ w ∈ bw, w.before _ s = true := fun w h => atoms_spec (ws := Cond.code y_Mo_byteAt b_Mo_byteAt 4 (some .int) :: bw) B.pre w (List.mem_cons_of_mem _ h)
  have hown : s.vm.findClass "ObjectForgeModel" = some m.cls := findClass_of_methodNamed B.named
  subst hsz
  have hP0 := hP
  have hD := hD0.self (sz := s.heap.size)
  generalize hAe : va_A [(h0, .inr (7, [.int 0, .int 0, .int 0, .int 0, .int 0, .int 0, .int (-1), .int (-1), .int 0, .int 0, .int 0, .int 0, .int 0, .int 0, .int 0, .int 0, .ref (qa 0), .ref (qa 1), .ref (qa 2), .ref (qa 3), .int 0, .ref (qa 4), .ref (qa 5), .ref (qa 6), .ref (qa 7), .ref (qa 8), .ref (qa 9), .ref (qa 10), .ref (qa 11), .ref (qa 12), .ref (qa 13), .ref (qa 14), .ref (qa 15), .ref (qa 16), .ref (qa 17), .ref (qa 18), .ref (qa 19), .ref (qa 20), .int 0, .int 0, .int 0, .int 0, .long 0, .long 0, .long 0, .long 0, .long 0, .ref (qa 21), .int 0, .int 0, .int 0, .int 0]))] s.heap.size = A at hD hZ ⊢
  have hA : ∀ q : Nat, s.heap.size ≤ q → A q := fun q h => by rw [← hAe]; exact Or.inr h
  have hS : va_S A s.heap s.heap [] := va_S.rf
  have hl := lv_entry ([.ref h0, .int p0, .int p1, .int p2]) (n := 4) (Nat.le_of_ble_eq_true rfl)
  rw [lg_entry_eq]
  generalize (lg_sl ([.ref h0, .int p0, .int p1, .int p2]) ++ List.replicate (4 - (lg_sl ([.ref h0, .int p0, .int p1, .int p2])).length) Slot.unset).toArray = ls at hl ⊢
  have hl : lv_has ls 4 [(0, .ref h0), (1, .int p0), (2, .int p1), (3, .int p2)] := hl
  refine lv_aload_n hx hb d_Mo_byteAt_0 rfl (lv_at hl 0 rfl) ?_
  refine lv_iconst (v := 0) hx hb d_Mo_byteAt_1 (by decide) ?_
  refine va_put (D := D) (ci := 7) (v := .int 0) (ty := .int) (C := R_Mo) (T := F_Mo) (N := 52) hx hb hts i_Mo t_Mo t_Mo_ok n_Mo hown hK hP hD hS 0 rfl rfl 0 (by decide) (hts _ w_397) (fun _ h9 => h9) rfl (by decide +kernel) rfl rfl (Nat.le_of_ble_eq_true rfl) d_Mo_byteAt_2 (fun H locs hP hD hS => ?_)
  have hP : va_P D cls [(h0, .inr (7, [.int 0, .int 0, .int 0, .int 0, .int 0, .int 0, .int (-1), .int (-1), .int 0, .int 0, .int 0, .int 0, .int 0, .int 0, .int 0, .int 0, .ref (qa 0), .ref (qa 1), .ref (qa 2), .ref (qa 3), .int 0, .ref (qa 4), .ref (qa 5), .ref (qa 6), .ref (qa 7), .ref (qa 8), .ref (qa 9), .ref (qa 10), .ref (qa 11), .ref (qa 12), .ref (qa 13), .ref (qa 14), .ref (qa 15), .ref (qa 16), .ref (qa 17), .ref (qa 18), .ref (qa 19), .ref (qa 20), .int 0, .int 0, .int 0, .int 0, .long 0, .long 0, .long 0, .long 0, .long 0, .ref (qa 21), .int 0, .int 0, .int 0, .int 0]))] H := hP
  have hD : va_D A [(h0, .inr (7, [.int 0, .int 0, .int 0, .int 0, .int 0, .int 0, .int (-1), .int (-1), .int 0, .int 0, .int 0, .int 0, .int 0, .int 0, .int 0, .int 0, .ref (qa 0), .ref (qa 1), .ref (qa 2), .ref (qa 3), .int 0, .ref (qa 4), .ref (qa 5), .ref (qa 6), .ref (qa 7), .ref (qa 8), .ref (qa 9), .ref (qa 10), .ref (qa 11), .ref (qa 12), .ref (qa 13), .ref (qa 14), .ref (qa 15), .ref (qa 16), .ref (qa 17), .ref (qa 18), .ref (qa 19), .ref (qa 20), .int 0, .int 0, .int 0, .int 0, .long 0, .long 0, .long 0, .long 0, .long 0, .ref (qa 21), .int 0, .int 0, .int 0, .int 0]))] := hD
  refine lv_iload_n hx hb d_Mo_byteAt_5 rfl (lv_at hl 1 rfl) ?_
  refine lv_aload_n hx hb d_Mo_byteAt_6 rfl (lv_at hl 0 rfl) ?_
  refine va_get (D := D) (ci := 7) (v := .int 0) (C := R_Mo) (T := F_Mo) (N := 52) hx hb hts i_Mo hown hK hP 0 rfl rfl 2 (by decide) (hts _ w_400) (fun _ h9 => h9) rfl d_Mo_byteAt_7 ?_
  refine xc_S (As := [.int p0, .int 0]) (rest := []) (n := 2) (wc := []) (wr := [(h0, .inr (7, [.int 0, .int 0, .int 0, .int 0, .int 0, .int 0, .int (-1), .int (-1), .int 0, .int 0, .int 0, .int 0, .int 0, .int 0, .int 0, .int 0, .ref (qa 0), .ref (qa 1), .ref (qa 2), .ref (qa 3), .int 0, .ref (qa 4), .ref (qa 5), .ref (qa 6), .ref (qa 7), .ref (qa 8), .ref (qa 9), .ref (qa 10), .ref (qa 11), .ref (qa 12), .ref (qa 13), .ref (qa 14), .ref (qa 15), .ref (qa 16), .ref (qa 17), .ref (qa 18), .ref (qa 19), .ref (qa 20), .int 0, .int 0, .int 0, .int 0, .long 0, .long 0, .long 0, .long 0, .long 0, .ref (qa 21), .int 0, .int 0, .int 0, .int 0]))]) (tc := []) (tr := []) ⟨hx, hb, hml, hown, hts⟩ (c_Mo_within_g l D p0 0 hk hg H.size) rfl rfl w_510 w_508 w_509 w_8 (by decide +kernel) ⟨Nat.le_of_ble_eq_true rfl, Nat.le_of_ble_eq_true rfl⟩ hP hD hK hS hA hN hZ [] [0] rfl rfl (by decide) (by decide) (by decide) [] [] rfl rfl rfl hl.1 rfl (Nat.le_of_ble_eq_true rfl) d_Mo_byteAt_10 ⟨Nat.le_of_ble_eq_true rfl, Nat.le_of_ble_eq_true rfl⟩ (fun u1 H locs hP hD hK hS => ?_)
  have hP : va_P D cls [(h0, .inr (7, [.int 0, .int 0, .int 0, .int 0, .int 0, .int 0, .int (-1), .int (-1), .int 0, .int 0, .int 0, .int 0, .int 0, .int 0, .int 0, .int 0, .ref (qa 0), .ref (qa 1), .ref (qa 2), .ref (qa 3), .int 0, .ref (qa 4), .ref (qa 5), .ref (qa 6), .ref (qa 7), .ref (qa 8), .ref (qa 9), .ref (qa 10), .ref (qa 11), .ref (qa 12), .ref (qa 13), .ref (qa 14), .ref (qa 15), .ref (qa 16), .ref (qa 17), .ref (qa 18), .ref (qa 19), .ref (qa 20), .int 0, .int 0, .int 0, .int 0, .long 0, .long 0, .long 0, .long 0, .long 0, .ref (qa 21), .int 0, .int 0, .int 0, .int 0]))] H := hP
  have hD : va_D A [(h0, .inr (7, [.int 0, .int 0, .int 0, .int 0, .int 0, .int 0, .int (-1), .int (-1), .int 0, .int 0, .int 0, .int 0, .int 0, .int 0, .int 0, .int 0, .ref (qa 0), .ref (qa 1), .ref (qa 2), .ref (qa 3), .int 0, .ref (qa 4), .ref (qa 5), .ref (qa 6), .ref (qa 7), .ref (qa 8), .ref (qa 9), .ref (qa 10), .ref (qa 11), .ref (qa 12), .ref (qa 13), .ref (qa 14), .ref (qa 15), .ref (qa 16), .ref (qa 17), .ref (qa 18), .ref (qa 19), .ref (qa 20), .int 0, .int 0, .int 0, .int 0, .long 0, .long 0, .long 0, .long 0, .long 0, .ref (qa 21), .int 0, .int 0, .int 0, .int 0]))] := hD
  have hK : va_K D cls [] s := hK
  refine W.eq (g2 := F0 m 13 ls [.int 0]) rfl ?_
  refine lv_if_eq (tgt := 64) hx hb d_Mo_byteAt_13 (by decide) (fun _ => ?_) (fun q9 => absurd (by decide : ((0 : Int32) = 0)) q9)
  refine lv_aload_n hx hb d_Mo_byteAt_64 rfl (lv_at hl 0 rfl) ?_
  refine lv_iconst (v := 1) hx hb d_Mo_byteAt_65 (by decide) ?_
  refine xc_V (As := [.int 1]) (rest := []) (n := 1) (wc := [(h0, .inr (7, [.int 0, .int 0, .int 0, .int 0, .int 0, .int 0, .int (-1), .int (-1), .int 0, .int 0, .int 0, .int 0, .int 0, .int 0, .int 0, .int 0, .ref (qa 0), .ref (qa 1), .ref (qa 2), .ref (qa 3), .int 0, .ref (qa 4), .ref (qa 5), .ref (qa 6), .ref (qa 7), .ref (qa 8), .ref (qa 9), .ref (qa 10), .ref (qa 11), .ref (qa 12), .ref (qa 13), .ref (qa 14), .ref (qa 15), .ref (qa 16), .ref (qa 17), .ref (qa 18), .ref (qa 19), .ref (qa 20), .int 0, .int 0, .int 0, .int 0, .long 0, .long 0, .long 0, .long 0, .long 0, .ref (qa 21), .int 0, .int 0, .int 0, .int 0]))]) (wr := []) (tc := []) (tr := []) ⟨hx, hb, hml, hown, hts⟩ (c_Mo_refuse_1 l D h0 qa H.size) rfl rfl w_452 w_450 w_451 w_557 w_8 (by decide +kernel) ⟨Nat.le_of_ble_eq_true rfl, Nat.le_of_ble_eq_true rfl⟩ hP hD hK hS hA hN hZ [0] [] rfl rfl (by decide) (by decide) (by decide) [] [] rfl rfl (ci := 7) (q0 := 0) (q := (R_Mo, F_Mo, 52)) rfl rfl rfl rfl hl.1 rfl (Nat.le_of_ble_eq_true rfl) d_Mo_byteAt_66 ⟨Nat.le_of_ble_eq_true rfl, Nat.le_of_ble_eq_true rfl⟩ (fun u2 H locs hP hD hK hS => ?_)
  have hP : va_P D cls [(h0, .inr (7, [.int 1, .int 0, .int 0, .int 0, .int 0, .int 0, .int (-1), .int (-1), .int 0, .int 0, .int 0, .int 0, .int 0, .int 0, .int 0, .int 0, .ref (qa 0), .ref (qa 1), .ref (qa 2), .ref (qa 3), .int 0, .ref (qa 4), .ref (qa 5), .ref (qa 6), .ref (qa 7), .ref (qa 8), .ref (qa 9), .ref (qa 10), .ref (qa 11), .ref (qa 12), .ref (qa 13), .ref (qa 14), .ref (qa 15), .ref (qa 16), .ref (qa 17), .ref (qa 18), .ref (qa 19), .ref (qa 20), .int 0, .int 0, .int 0, .int 0, .long 0, .long 0, .long 0, .long 0, .long 0, .ref (qa 21), .int 0, .int 0, .int 0, .int 0]))] H := hP
  have hD : va_D A [(h0, .inr (7, [.int 1, .int 0, .int 0, .int 0, .int 0, .int 0, .int (-1), .int (-1), .int 0, .int 0, .int 0, .int 0, .int 0, .int 0, .int 0, .int 0, .ref (qa 0), .ref (qa 1), .ref (qa 2), .ref (qa 3), .int 0, .ref (qa 4), .ref (qa 5), .ref (qa 6), .ref (qa 7), .ref (qa 8), .ref (qa 9), .ref (qa 10), .ref (qa 11), .ref (qa 12), .ref (qa 13), .ref (qa 14), .ref (qa 15), .ref (qa 16), .ref (qa 17), .ref (qa 18), .ref (qa 19), .ref (qa 20), .int 0, .int 0, .int 0, .int 0, .long 0, .long 0, .long 0, .long 0, .long 0, .ref (qa 21), .int 0, .int 0, .int 0, .int 0]))] := hD
  have hK : va_K D cls [] s := hK
  refine W.eq (g2 := F0 m 69 ls [.int 0]) rfl ?_
  exact xr_i hx hb hr hlocks hP hD hK hS (()) [0] rfl rfl (by decide) [] rfl rfl d_Mo_byteAt_69

theorem d_Mo_symbol_0 : decode b_Mo_symbol 0 = .ok (.aload_n 0, 1) := by decide +kernel
theorem d_Mo_symbol_1 : decode b_Mo_symbol 1 = .ok (.iconst 0, 1) := by decide +kernel
theorem d_Mo_symbol_2 : decode b_Mo_symbol 2 = .ok (.putfield 88, 3) := by decide +kernel
theorem d_Mo_symbol_5 : decode b_Mo_symbol 5 = .ok (.iload_n 1, 1) := by decide +kernel
theorem d_Mo_symbol_6 : decode b_Mo_symbol 6 = .ok (.aload_n 0, 1) := by decide +kernel
theorem d_Mo_symbol_7 : decode b_Mo_symbol 7 = .ok (.getfield 1010, 3) := by decide +kernel
theorem d_Mo_symbol_10 : decode b_Mo_symbol 10 = .ok (.invokestatic 1181, 3) := by decide +kernel
theorem d_Mo_symbol_13 : decode b_Mo_symbol 13 = .ok (.ifCond .eq 24, 3) := by decide +kernel
theorem d_Mo_symbol_37 : decode b_Mo_symbol 37 = .ok (.aload_n 0, 1) := by decide +kernel
theorem d_Mo_symbol_38 : decode b_Mo_symbol 38 = .ok (.iconst 1, 1) := by decide +kernel
theorem d_Mo_symbol_39 : decode b_Mo_symbol 39 = .ok (.invokevirtual 94, 3) := by decide +kernel
theorem d_Mo_symbol_42 : decode b_Mo_symbol 42 = .ok (.ireturn, 1) := by decide +kernel
set_option maxHeartbeats 4000000 in
set_option maxRecDepth 100000 in
theorem c_Mo_symbol_n (l : Launch) (D : va_G) (h0 : Nat) (qa : Nat → Nat) (p0 p1 p2 : Int32) (hk : p0 < 0) (sz : Nat) : Met l y_Mo_symbol (Cond.code y_Mo_symbol b_Mo_symbol 5 (some .int) :: bw) (xR 2 0 0) (va_Pc [.ref h0, .int p0, .int p1, .int p2] (xP D [] sz [(h0, .inr (7, [.int 0, .int 0, .int 0, .int 0, .int 0, .int 0, .int (-1), .int (-1), .int 0, .int 0, .int 0, .int 0, .int 0, .int 0, .int 0, .int 0, .ref (qa 0), .ref (qa 1), .ref (qa 2), .ref (qa 3), .int 0, .ref (qa 4), .ref (qa 5), .ref (qa 6), .ref (qa 7), .ref (qa 8), .ref (qa 9), .ref (qa 10), .ref (qa 11), .ref (qa 12), .ref (qa 13), .ref (qa 14), .ref (qa 15), .ref (qa 16), .ref (qa 17), .ref (qa 18), .ref (qa 19), .ref (qa 20), .int 0, .int 0, .int 0, .int 0, .long 0, .long 0, .long 0, .long 0, .long 0, .ref (qa 21), .int 0, .int 0, .int 0, .int 0]))])) (xQ (S := Unit) (fun _ => some (.int 0)) (fun _ => [(h0, .inr (7, [.int 1, .int 0, .int 0, .int 0, .int 0, .int 0, .int (-1), .int (-1), .int 0, .int 0, .int 0, .int 0, .int 0, .int 0, .int 0, .int 0, .ref (qa 0), .ref (qa 1), .ref (qa 2), .ref (qa 3), .int 0, .ref (qa 4), .ref (qa 5), .ref (qa 6), .ref (qa 7), .ref (qa 8), .ref (qa 9), .ref (qa 10), .ref (qa 11), .ref (qa 12), .ref (qa 13), .ref (qa 14), .ref (qa 15), .ref (qa 16), .ref (qa 17), .ref (qa 18), .ref (qa 19), .ref (qa 20), .int 0, .int 0, .int 0, .int 0, .long 0, .long 0, .long 0, .long 0, .long 0, .ref (qa 21), .int 0, .int 0, .int 0, .int 0]))]) (fun _ => []) D (va_A [(h0, .inr (7, [.int 0, .int 0, .int 0, .int 0, .int 0, .int 0, .int (-1), .int (-1), .int 0, .int 0, .int 0, .int 0, .int 0, .int 0, .int 0, .int 0, .ref (qa 0), .ref (qa 1), .ref (qa 2), .ref (qa 3), .int 0, .ref (qa 4), .ref (qa 5), .ref (qa 6), .ref (qa 7), .ref (qa 8), .ref (qa 9), .ref (qa 10), .ref (qa 11), .ref (qa 12), .ref (qa 13), .ref (qa 14), .ref (qa 15), .ref (qa 16), .ref (qa 17), .ref (qa 18), .ref (qa 19), .ref (qa 20), .int 0, .int 0, .int 0, .int 0, .long 0, .long 0, .long 0, .long 0, .long 0, .ref (qa 21), .int 0, .int 0, .int 0, .int 0]))] sz)) 0 0 (va_A [(h0, .inr (7, [.int 0, .int 0, .int 0, .int 0, .int 0, .int 0, .int (-1), .int (-1), .int 0, .int 0, .int 0, .int 0, .int 0, .int 0, .int 0, .int 0, .ref (qa 0), .ref (qa 1), .ref (qa 2), .ref (qa 3), .int 0, .ref (qa 4), .ref (qa 5), .ref (qa 6), .ref (qa 7), .ref (qa 8), .ref (qa 9), .ref (qa 10), .ref (qa 11), .ref (qa 12), .ref (qa 13), .ref (qa 14), .ref (qa 15), .ref (qa 16), .ref (qa 17), .ref (qa 18), .ref (qa 19), .ref (qa 20), .int 0, .int 0, .int 0, .int 0, .long 0, .long 0, .long 0, .long 0, .long 0, .ref (qa 21), .int 0, .int 0, .int 0, .int 0]))] sz) := by
  refine Met.ofW (cc := b_Mo_symbol) (maxL := 5) (ret := (some .int)) (by decide) rfl ?_
  intro p e s m args below meth c s₁ B hml hv
  obtain ⟨rfl, hsz, hP, hK, hD0, hN, hZ⟩ := hv
  have hx := B.exec
  have hb := B.bytes
  have hr := B.returns
  have hlocks := B.notSynchronized
  have hts : ∀ w ∈ bw, w.before _ s = true := fun w h => atoms_spec (ws := Cond.code y_Mo_symbol b_Mo_symbol 5 (some .int) :: bw) B.pre w (List.mem_cons_of_mem _ h)
  have hown : s.vm.findClass "ObjectForgeModel" = some m.cls := findClass_of_methodNamed B.named
  subst hsz
  have hP0 := hP
  have hD := hD0.self (sz := s.heap.size)
  generalize hAe : va_A [(h0, .inr (7, [.int 0, .int 0, .int 0, .int 0, .int 0, .int 0, .int (-1), .int (-1), .int 0, .int 0, .int 0, .int 0, .int 0, .int 0, .int 0, .int 0, .ref (qa 0), .ref (qa 1), .ref (qa 2), .ref (qa 3), .int 0, .ref (qa 4), .ref (qa 5), .ref (qa 6), .ref (qa 7), .ref (qa 8), .ref (qa 9), .ref (qa 10), .ref (qa 11), .ref (qa 12), .ref (qa 13), .ref (qa 14), .ref (qa 15), .ref (qa 16), .ref (qa 17), .ref (qa 18), .ref (qa 19), .ref (qa 20), .int 0, .int 0, .int 0, .int 0, .long 0, .long 0, .long 0, .long 0, .long 0, .ref (qa 21), .int 0, .int 0, .int 0, .int 0]))] s.heap.size = A at hD hZ ⊢
  have hA : ∀ q : Nat, s.heap.size ≤ q → A q := fun q h => by rw [← hAe]; exact Or.inr h
  have hS : va_S A s.heap s.heap [] := va_S.rf
  have hl := lv_entry ([.ref h0, .int p0, .int p1, .int p2]) (n := 5) (Nat.le_of_ble_eq_true rfl)
  rw [lg_entry_eq]
  generalize (lg_sl ([.ref h0, .int p0, .int p1, .int p2]) ++ List.replicate (5 - (lg_sl ([.ref h0, .int p0, .int p1, .int p2])).length) Slot.unset).toArray = ls at hl ⊢
  have hl : lv_has ls 5 [(0, .ref h0), (1, .int p0), (2, .int p1), (3, .int p2)] := hl
  refine lv_aload_n hx hb d_Mo_symbol_0 rfl (lv_at hl 0 rfl) ?_
  refine lv_iconst (v := 0) hx hb d_Mo_symbol_1 (by decide) ?_
  refine va_put (D := D) (ci := 7) (v := .int 0) (ty := .int) (C := R_Mo) (T := F_Mo) (N := 52) hx hb hts i_Mo t_Mo t_Mo_ok n_Mo hown hK hP hD hS 0 rfl rfl 0 (by decide) (hts _ w_397) (fun _ h9 => h9) rfl (by decide +kernel) rfl rfl (Nat.le_of_ble_eq_true rfl) d_Mo_symbol_2 (fun H locs hP hD hS => ?_)
  have hP : va_P D cls [(h0, .inr (7, [.int 0, .int 0, .int 0, .int 0, .int 0, .int 0, .int (-1), .int (-1), .int 0, .int 0, .int 0, .int 0, .int 0, .int 0, .int 0, .int 0, .ref (qa 0), .ref (qa 1), .ref (qa 2), .ref (qa 3), .int 0, .ref (qa 4), .ref (qa 5), .ref (qa 6), .ref (qa 7), .ref (qa 8), .ref (qa 9), .ref (qa 10), .ref (qa 11), .ref (qa 12), .ref (qa 13), .ref (qa 14), .ref (qa 15), .ref (qa 16), .ref (qa 17), .ref (qa 18), .ref (qa 19), .ref (qa 20), .int 0, .int 0, .int 0, .int 0, .long 0, .long 0, .long 0, .long 0, .long 0, .ref (qa 21), .int 0, .int 0, .int 0, .int 0]))] H := hP
  have hD : va_D A [(h0, .inr (7, [.int 0, .int 0, .int 0, .int 0, .int 0, .int 0, .int (-1), .int (-1), .int 0, .int 0, .int 0, .int 0, .int 0, .int 0, .int 0, .int 0, .ref (qa 0), .ref (qa 1), .ref (qa 2), .ref (qa 3), .int 0, .ref (qa 4), .ref (qa 5), .ref (qa 6), .ref (qa 7), .ref (qa 8), .ref (qa 9), .ref (qa 10), .ref (qa 11), .ref (qa 12), .ref (qa 13), .ref (qa 14), .ref (qa 15), .ref (qa 16), .ref (qa 17), .ref (qa 18), .ref (qa 19), .ref (qa 20), .int 0, .int 0, .int 0, .int 0, .long 0, .long 0, .long 0, .long 0, .long 0, .ref (qa 21), .int 0, .int 0, .int 0, .int 0]))] := hD
  refine lv_iload_n hx hb d_Mo_symbol_5 rfl (lv_at hl 1 rfl) ?_
  refine lv_aload_n hx hb d_Mo_symbol_6 rfl (lv_at hl 0 rfl) ?_
  refine va_get (D := D) (ci := 7) (v := .int 0) (C := R_Mo) (T := F_Mo) (N := 52) hx hb hts i_Mo hown hK hP 0 rfl rfl 2 (by decide) (hts _ w_400) (fun _ h9 => h9) rfl d_Mo_symbol_7 ?_
  refine xc_S (As := [.int p0, .int 0]) (rest := []) (n := 2) (wc := []) (wr := [(h0, .inr (7, [.int 0, .int 0, .int 0, .int 0, .int 0, .int 0, .int (-1), .int (-1), .int 0, .int 0, .int 0, .int 0, .int 0, .int 0, .int 0, .int 0, .ref (qa 0), .ref (qa 1), .ref (qa 2), .ref (qa 3), .int 0, .ref (qa 4), .ref (qa 5), .ref (qa 6), .ref (qa 7), .ref (qa 8), .ref (qa 9), .ref (qa 10), .ref (qa 11), .ref (qa 12), .ref (qa 13), .ref (qa 14), .ref (qa 15), .ref (qa 16), .ref (qa 17), .ref (qa 18), .ref (qa 19), .ref (qa 20), .int 0, .int 0, .int 0, .int 0, .long 0, .long 0, .long 0, .long 0, .long 0, .ref (qa 21), .int 0, .int 0, .int 0, .int 0]))]) (tc := []) (tr := []) ⟨hx, hb, hml, hown, hts⟩ (c_Mo_within_n l D p0 0 hk H.size) rfl rfl w_510 w_508 w_509 w_8 (by decide +kernel) ⟨Nat.le_of_ble_eq_true rfl, Nat.le_of_ble_eq_true rfl⟩ hP hD hK hS hA hN hZ [] [0] rfl rfl (by decide) (by decide) (by decide) [] [] rfl rfl rfl hl.1 rfl (Nat.le_of_ble_eq_true rfl) d_Mo_symbol_10 ⟨Nat.le_of_ble_eq_true rfl, Nat.le_of_ble_eq_true rfl⟩ (fun u1 H locs hP hD hK hS => ?_)
  have hP : va_P D cls [(h0, .inr (7, [.int 0, .int 0, .int 0, .int 0, .int 0, .int 0, .int (-1), .int (-1), .int 0, .int 0, .int 0, .int 0, .int 0, .int 0, .int 0, .int 0, .ref (qa 0), .ref (qa 1), .ref (qa 2), .ref (qa 3), .int 0, .ref (qa 4), .ref (qa 5), .ref (qa 6), .ref (qa 7), .ref (qa 8), .ref (qa 9), .ref (qa 10), .ref (qa 11), .ref (qa 12), .ref (qa 13), .ref (qa 14), .ref (qa 15), .ref (qa 16), .ref (qa 17), .ref (qa 18), .ref (qa 19), .ref (qa 20), .int 0, .int 0, .int 0, .int 0, .long 0, .long 0, .long 0, .long 0, .long 0, .ref (qa 21), .int 0, .int 0, .int 0, .int 0]))] H := hP
  have hD : va_D A [(h0, .inr (7, [.int 0, .int 0, .int 0, .int 0, .int 0, .int 0, .int (-1), .int (-1), .int 0, .int 0, .int 0, .int 0, .int 0, .int 0, .int 0, .int 0, .ref (qa 0), .ref (qa 1), .ref (qa 2), .ref (qa 3), .int 0, .ref (qa 4), .ref (qa 5), .ref (qa 6), .ref (qa 7), .ref (qa 8), .ref (qa 9), .ref (qa 10), .ref (qa 11), .ref (qa 12), .ref (qa 13), .ref (qa 14), .ref (qa 15), .ref (qa 16), .ref (qa 17), .ref (qa 18), .ref (qa 19), .ref (qa 20), .int 0, .int 0, .int 0, .int 0, .long 0, .long 0, .long 0, .long 0, .long 0, .ref (qa 21), .int 0, .int 0, .int 0, .int 0]))] := hD
  have hK : va_K D cls [] s := hK
  refine W.eq (g2 := F0 m 13 ls [.int 0]) rfl ?_
  refine lv_if_eq (tgt := 37) hx hb d_Mo_symbol_13 (by decide) (fun _ => ?_) (fun q9 => absurd (by decide : ((0 : Int32) = 0)) q9)
  refine lv_aload_n hx hb d_Mo_symbol_37 rfl (lv_at hl 0 rfl) ?_
  refine lv_iconst (v := 1) hx hb d_Mo_symbol_38 (by decide) ?_
  refine xc_V (As := [.int 1]) (rest := []) (n := 1) (wc := [(h0, .inr (7, [.int 0, .int 0, .int 0, .int 0, .int 0, .int 0, .int (-1), .int (-1), .int 0, .int 0, .int 0, .int 0, .int 0, .int 0, .int 0, .int 0, .ref (qa 0), .ref (qa 1), .ref (qa 2), .ref (qa 3), .int 0, .ref (qa 4), .ref (qa 5), .ref (qa 6), .ref (qa 7), .ref (qa 8), .ref (qa 9), .ref (qa 10), .ref (qa 11), .ref (qa 12), .ref (qa 13), .ref (qa 14), .ref (qa 15), .ref (qa 16), .ref (qa 17), .ref (qa 18), .ref (qa 19), .ref (qa 20), .int 0, .int 0, .int 0, .int 0, .long 0, .long 0, .long 0, .long 0, .long 0, .ref (qa 21), .int 0, .int 0, .int 0, .int 0]))]) (wr := []) (tc := []) (tr := []) ⟨hx, hb, hml, hown, hts⟩ (c_Mo_refuse_1 l D h0 qa H.size) rfl rfl w_452 w_450 w_451 w_557 w_8 (by decide +kernel) ⟨Nat.le_of_ble_eq_true rfl, Nat.le_of_ble_eq_true rfl⟩ hP hD hK hS hA hN hZ [0] [] rfl rfl (by decide) (by decide) (by decide) [] [] rfl rfl (ci := 7) (q0 := 0) (q := (R_Mo, F_Mo, 52)) rfl rfl rfl rfl hl.1 rfl (Nat.le_of_ble_eq_true rfl) d_Mo_symbol_39 ⟨Nat.le_of_ble_eq_true rfl, Nat.le_of_ble_eq_true rfl⟩ (fun u2 H locs hP hD hK hS => ?_)
  have hP : va_P D cls [(h0, .inr (7, [.int 1, .int 0, .int 0, .int 0, .int 0, .int 0, .int (-1), .int (-1), .int 0, .int 0, .int 0, .int 0, .int 0, .int 0, .int 0, .int 0, .ref (qa 0), .ref (qa 1), .ref (qa 2), .ref (qa 3), .int 0, .ref (qa 4), .ref (qa 5), .ref (qa 6), .ref (qa 7), .ref (qa 8), .ref (qa 9), .ref (qa 10), .ref (qa 11), .ref (qa 12), .ref (qa 13), .ref (qa 14), .ref (qa 15), .ref (qa 16), .ref (qa 17), .ref (qa 18), .ref (qa 19), .ref (qa 20), .int 0, .int 0, .int 0, .int 0, .long 0, .long 0, .long 0, .long 0, .long 0, .ref (qa 21), .int 0, .int 0, .int 0, .int 0]))] H := hP
  have hD : va_D A [(h0, .inr (7, [.int 1, .int 0, .int 0, .int 0, .int 0, .int 0, .int (-1), .int (-1), .int 0, .int 0, .int 0, .int 0, .int 0, .int 0, .int 0, .int 0, .ref (qa 0), .ref (qa 1), .ref (qa 2), .ref (qa 3), .int 0, .ref (qa 4), .ref (qa 5), .ref (qa 6), .ref (qa 7), .ref (qa 8), .ref (qa 9), .ref (qa 10), .ref (qa 11), .ref (qa 12), .ref (qa 13), .ref (qa 14), .ref (qa 15), .ref (qa 16), .ref (qa 17), .ref (qa 18), .ref (qa 19), .ref (qa 20), .int 0, .int 0, .int 0, .int 0, .long 0, .long 0, .long 0, .long 0, .long 0, .ref (qa 21), .int 0, .int 0, .int 0, .int 0]))] := hD
  have hK : va_K D cls [] s := hK
  refine W.eq (g2 := F0 m 42 ls [.int 0]) rfl ?_
  exact xr_i hx hb hr hlocks hP hD hK hS (()) [0] rfl rfl (by decide) [] rfl rfl d_Mo_symbol_42

set_option maxHeartbeats 4000000 in
set_option maxRecDepth 100000 in
theorem c_Mo_symbol_g (l : Launch) (D : va_G) (h0 : Nat) (qa : Nat → Nat) (p0 p1 p2 : Int32) (hk : ¬ p0 < 0) (hg : 0 ≤ p0) (sz : Nat) : Met l y_Mo_symbol (Cond.code y_Mo_symbol b_Mo_symbol 5 (some .int) :: bw) (xR 2 0 0) (va_Pc [.ref h0, .int p0, .int p1, .int p2] (xP D [] sz [(h0, .inr (7, [.int 0, .int 0, .int 0, .int 0, .int 0, .int 0, .int (-1), .int (-1), .int 0, .int 0, .int 0, .int 0, .int 0, .int 0, .int 0, .int 0, .ref (qa 0), .ref (qa 1), .ref (qa 2), .ref (qa 3), .int 0, .ref (qa 4), .ref (qa 5), .ref (qa 6), .ref (qa 7), .ref (qa 8), .ref (qa 9), .ref (qa 10), .ref (qa 11), .ref (qa 12), .ref (qa 13), .ref (qa 14), .ref (qa 15), .ref (qa 16), .ref (qa 17), .ref (qa 18), .ref (qa 19), .ref (qa 20), .int 0, .int 0, .int 0, .int 0, .long 0, .long 0, .long 0, .long 0, .long 0, .ref (qa 21), .int 0, .int 0, .int 0, .int 0]))])) (xQ (S := Unit) (fun _ => some (.int 0)) (fun _ => [(h0, .inr (7, [.int 1, .int 0, .int 0, .int 0, .int 0, .int 0, .int (-1), .int (-1), .int 0, .int 0, .int 0, .int 0, .int 0, .int 0, .int 0, .int 0, .ref (qa 0), .ref (qa 1), .ref (qa 2), .ref (qa 3), .int 0, .ref (qa 4), .ref (qa 5), .ref (qa 6), .ref (qa 7), .ref (qa 8), .ref (qa 9), .ref (qa 10), .ref (qa 11), .ref (qa 12), .ref (qa 13), .ref (qa 14), .ref (qa 15), .ref (qa 16), .ref (qa 17), .ref (qa 18), .ref (qa 19), .ref (qa 20), .int 0, .int 0, .int 0, .int 0, .long 0, .long 0, .long 0, .long 0, .long 0, .ref (qa 21), .int 0, .int 0, .int 0, .int 0]))]) (fun _ => []) D (va_A [(h0, .inr (7, [.int 0, .int 0, .int 0, .int 0, .int 0, .int 0, .int (-1), .int (-1), .int 0, .int 0, .int 0, .int 0, .int 0, .int 0, .int 0, .int 0, .ref (qa 0), .ref (qa 1), .ref (qa 2), .ref (qa 3), .int 0, .ref (qa 4), .ref (qa 5), .ref (qa 6), .ref (qa 7), .ref (qa 8), .ref (qa 9), .ref (qa 10), .ref (qa 11), .ref (qa 12), .ref (qa 13), .ref (qa 14), .ref (qa 15), .ref (qa 16), .ref (qa 17), .ref (qa 18), .ref (qa 19), .ref (qa 20), .int 0, .int 0, .int 0, .int 0, .long 0, .long 0, .long 0, .long 0, .long 0, .ref (qa 21), .int 0, .int 0, .int 0, .int 0]))] sz)) 0 0 (va_A [(h0, .inr (7, [.int 0, .int 0, .int 0, .int 0, .int 0, .int 0, .int (-1), .int (-1), .int 0, .int 0, .int 0, .int 0, .int 0, .int 0, .int 0, .int 0, .ref (qa 0), .ref (qa 1), .ref (qa 2), .ref (qa 3), .int 0, .ref (qa 4), .ref (qa 5), .ref (qa 6), .ref (qa 7), .ref (qa 8), .ref (qa 9), .ref (qa 10), .ref (qa 11), .ref (qa 12), .ref (qa 13), .ref (qa 14), .ref (qa 15), .ref (qa 16), .ref (qa 17), .ref (qa 18), .ref (qa 19), .ref (qa 20), .int 0, .int 0, .int 0, .int 0, .long 0, .long 0, .long 0, .long 0, .long 0, .ref (qa 21), .int 0, .int 0, .int 0, .int 0]))] sz) := by
  refine Met.ofW (cc := b_Mo_symbol) (maxL := 5) (ret := (some .int)) (by decide) rfl ?_
  intro p e s m args below meth c s₁ B hml hv
  obtain ⟨rfl, hsz, hP, hK, hD0, hN, hZ⟩ := hv
  have hx := B.exec
  have hb := B.bytes
  have hr := B.returns
  have hlocks := B.notSynchronized
  have hts : ∀ w ∈ bw, w.before _ s = true := fun w h => atoms_spec (ws := Cond.code y_Mo_symbol b_Mo_symbol 5 (some .int) :: bw) B.pre w (List.mem_cons_of_mem _ h)
  have hown : s.vm.findClass "ObjectForgeModel" = some m.cls := findClass_of_methodNamed B.named
  subst hsz
  have hP0 := hP
  have hD := hD0.self (sz := s.heap.size)
  generalize hAe : va_A [(h0, .inr (7, [.int 0, .int 0, .int 0, .int 0, .int 0, .int 0, .int (-1), .int (-1), .int 0, .int 0, .int 0, .int 0, .int 0, .int 0, .int 0, .int 0, .ref (qa 0), .ref (qa 1), .ref (qa 2), .ref (qa 3), .int 0, .ref (qa 4), .ref (qa 5), .ref (qa 6), .ref (qa 7), .ref (qa 8), .ref (qa 9), .ref (qa 10), .ref (qa 11), .ref (qa 12), .ref (qa 13), .ref (qa 14), .ref (qa 15), .ref (qa 16), .ref (qa 17), .ref (qa 18), .ref (qa 19), .ref (qa 20), .int 0, .int 0, .int 0, .int 0, .long 0, .long 0, .long 0, .long 0, .long 0, .ref (qa 21), .int 0, .int 0, .int 0, .int 0]))] s.heap.size = A at hD hZ ⊢
  have hA : ∀ q : Nat, s.heap.size ≤ q → A q := fun q h => by rw [← hAe]; exact Or.inr h
  have hS : va_S A s.heap s.heap [] := va_S.rf
  have hl := lv_entry ([.ref h0, .int p0, .int p1, .int p2]) (n := 5) (Nat.le_of_ble_eq_true rfl)
  rw [lg_entry_eq]
  generalize (lg_sl ([.ref h0, .int p0, .int p1, .int p2]) ++ List.replicate (5 - (lg_sl ([.ref h0, .int p0, .int p1, .int p2])).length) Slot.unset).toArray = ls at hl ⊢
  have hl : lv_has ls 5 [(0, .ref h0), (1, .int p0), (2, .int p1), (3, .int p2)] := hl
  refine lv_aload_n hx hb d_Mo_symbol_0 rfl (lv_at hl 0 rfl) ?_
  refine lv_iconst (v := 0) hx hb d_Mo_symbol_1 (by decide) ?_
  refine va_put (D := D) (ci := 7) (v := .int 0) (ty := .int) (C := R_Mo) (T := F_Mo) (N := 52) hx hb hts i_Mo t_Mo t_Mo_ok n_Mo hown hK hP hD hS 0 rfl rfl 0 (by decide) (hts _ w_397) (fun _ h9 => h9) rfl (by decide +kernel) rfl rfl (Nat.le_of_ble_eq_true rfl) d_Mo_symbol_2 (fun H locs hP hD hS => ?_)
  have hP : va_P D cls [(h0, .inr (7, [.int 0, .int 0, .int 0, .int 0, .int 0, .int 0, .int (-1), .int (-1), .int 0, .int 0, .int 0, .int 0, .int 0, .int 0, .int 0, .int 0, .ref (qa 0), .ref (qa 1), .ref (qa 2), .ref (qa 3), .int 0, .ref (qa 4), .ref (qa 5), .ref (qa 6), .ref (qa 7), .ref (qa 8), .ref (qa 9), .ref (qa 10), .ref (qa 11), .ref (qa 12), .ref (qa 13), .ref (qa 14), .ref (qa 15), .ref (qa 16), .ref (qa 17), .ref (qa 18), .ref (qa 19), .ref (qa 20), .int 0, .int 0, .int 0, .int 0, .long 0, .long 0, .long 0, .long 0, .long 0, .ref (qa 21), .int 0, .int 0, .int 0, .int 0]))] H := hP
  have hD : va_D A [(h0, .inr (7, [.int 0, .int 0, .int 0, .int 0, .int 0, .int 0, .int (-1), .int (-1), .int 0, .int 0, .int 0, .int 0, .int 0, .int 0, .int 0, .int 0, .ref (qa 0), .ref (qa 1), .ref (qa 2), .ref (qa 3), .int 0, .ref (qa 4), .ref (qa 5), .ref (qa 6), .ref (qa 7), .ref (qa 8), .ref (qa 9), .ref (qa 10), .ref (qa 11), .ref (qa 12), .ref (qa 13), .ref (qa 14), .ref (qa 15), .ref (qa 16), .ref (qa 17), .ref (qa 18), .ref (qa 19), .ref (qa 20), .int 0, .int 0, .int 0, .int 0, .long 0, .long 0, .long 0, .long 0, .long 0, .ref (qa 21), .int 0, .int 0, .int 0, .int 0]))] := hD
  refine lv_iload_n hx hb d_Mo_symbol_5 rfl (lv_at hl 1 rfl) ?_
  refine lv_aload_n hx hb d_Mo_symbol_6 rfl (lv_at hl 0 rfl) ?_
  refine va_get (D := D) (ci := 7) (v := .int 0) (C := R_Mo) (T := F_Mo) (N := 52) hx hb hts i_Mo hown hK hP 0 rfl rfl 2 (by decide) (hts _ w_400) (fun _ h9 => h9) rfl d_Mo_symbol_7 ?_
  refine xc_S (As := [.int p0, .int 0]) (rest := []) (n := 2) (wc := []) (wr := [(h0, .inr (7, [.int 0, .int 0, .int 0, .int 0, .int 0, .int 0, .int (-1), .int (-1), .int 0, .int 0, .int 0, .int 0, .int 0, .int 0, .int 0, .int 0, .ref (qa 0), .ref (qa 1), .ref (qa 2), .ref (qa 3), .int 0, .ref (qa 4), .ref (qa 5), .ref (qa 6), .ref (qa 7), .ref (qa 8), .ref (qa 9), .ref (qa 10), .ref (qa 11), .ref (qa 12), .ref (qa 13), .ref (qa 14), .ref (qa 15), .ref (qa 16), .ref (qa 17), .ref (qa 18), .ref (qa 19), .ref (qa 20), .int 0, .int 0, .int 0, .int 0, .long 0, .long 0, .long 0, .long 0, .long 0, .ref (qa 21), .int 0, .int 0, .int 0, .int 0]))]) (tc := []) (tr := []) ⟨hx, hb, hml, hown, hts⟩ (c_Mo_within_g l D p0 0 hk hg H.size) rfl rfl w_510 w_508 w_509 w_8 (by decide +kernel) ⟨Nat.le_of_ble_eq_true rfl, Nat.le_of_ble_eq_true rfl⟩ hP hD hK hS hA hN hZ [] [0] rfl rfl (by decide) (by decide) (by decide) [] [] rfl rfl rfl hl.1 rfl (Nat.le_of_ble_eq_true rfl) d_Mo_symbol_10 ⟨Nat.le_of_ble_eq_true rfl, Nat.le_of_ble_eq_true rfl⟩ (fun u1 H locs hP hD hK hS => ?_)
  have hP : va_P D cls [(h0, .inr (7, [.int 0, .int 0, .int 0, .int 0, .int 0, .int 0, .int (-1), .int (-1), .int 0, .int 0, .int 0, .int 0, .int 0, .int 0, .int 0, .int 0, .ref (qa 0), .ref (qa 1), .ref (qa 2), .ref (qa 3), .int 0, .ref (qa 4), .ref (qa 5), .ref (qa 6), .ref (qa 7), .ref (qa 8), .ref (qa 9), .ref (qa 10), .ref (qa 11), .ref (qa 12), .ref (qa 13), .ref (qa 14), .ref (qa 15), .ref (qa 16), .ref (qa 17), .ref (qa 18), .ref (qa 19), .ref (qa 20), .int 0, .int 0, .int 0, .int 0, .long 0, .long 0, .long 0, .long 0, .long 0, .ref (qa 21), .int 0, .int 0, .int 0, .int 0]))] H := hP
  have hD : va_D A [(h0, .inr (7, [.int 0, .int 0, .int 0, .int 0, .int 0, .int 0, .int (-1), .int (-1), .int 0, .int 0, .int 0, .int 0, .int 0, .int 0, .int 0, .int 0, .ref (qa 0), .ref (qa 1), .ref (qa 2), .ref (qa 3), .int 0, .ref (qa 4), .ref (qa 5), .ref (qa 6), .ref (qa 7), .ref (qa 8), .ref (qa 9), .ref (qa 10), .ref (qa 11), .ref (qa 12), .ref (qa 13), .ref (qa 14), .ref (qa 15), .ref (qa 16), .ref (qa 17), .ref (qa 18), .ref (qa 19), .ref (qa 20), .int 0, .int 0, .int 0, .int 0, .long 0, .long 0, .long 0, .long 0, .long 0, .ref (qa 21), .int 0, .int 0, .int 0, .int 0]))] := hD
  have hK : va_K D cls [] s := hK
  refine W.eq (g2 := F0 m 13 ls [.int 0]) rfl ?_
  refine lv_if_eq (tgt := 37) hx hb d_Mo_symbol_13 (by decide) (fun _ => ?_) (fun q9 => absurd (by decide : ((0 : Int32) = 0)) q9)
  refine lv_aload_n hx hb d_Mo_symbol_37 rfl (lv_at hl 0 rfl) ?_
  refine lv_iconst (v := 1) hx hb d_Mo_symbol_38 (by decide) ?_
  refine xc_V (As := [.int 1]) (rest := []) (n := 1) (wc := [(h0, .inr (7, [.int 0, .int 0, .int 0, .int 0, .int 0, .int 0, .int (-1), .int (-1), .int 0, .int 0, .int 0, .int 0, .int 0, .int 0, .int 0, .int 0, .ref (qa 0), .ref (qa 1), .ref (qa 2), .ref (qa 3), .int 0, .ref (qa 4), .ref (qa 5), .ref (qa 6), .ref (qa 7), .ref (qa 8), .ref (qa 9), .ref (qa 10), .ref (qa 11), .ref (qa 12), .ref (qa 13), .ref (qa 14), .ref (qa 15), .ref (qa 16), .ref (qa 17), .ref (qa 18), .ref (qa 19), .ref (qa 20), .int 0, .int 0, .int 0, .int 0, .long 0, .long 0, .long 0, .long 0, .long 0, .ref (qa 21), .int 0, .int 0, .int 0, .int 0]))]) (wr := []) (tc := []) (tr := []) ⟨hx, hb, hml, hown, hts⟩ (c_Mo_refuse_1 l D h0 qa H.size) rfl rfl w_452 w_450 w_451 w_557 w_8 (by decide +kernel) ⟨Nat.le_of_ble_eq_true rfl, Nat.le_of_ble_eq_true rfl⟩ hP hD hK hS hA hN hZ [0] [] rfl rfl (by decide) (by decide) (by decide) [] [] rfl rfl (ci := 7) (q0 := 0) (q := (R_Mo, F_Mo, 52)) rfl rfl rfl rfl hl.1 rfl (Nat.le_of_ble_eq_true rfl) d_Mo_symbol_39 ⟨Nat.le_of_ble_eq_true rfl, Nat.le_of_ble_eq_true rfl⟩ (fun u2 H locs hP hD hK hS => ?_)
  have hP : va_P D cls [(h0, .inr (7, [.int 1, .int 0, .int 0, .int 0, .int 0, .int 0, .int (-1), .int (-1), .int 0, .int 0, .int 0, .int 0, .int 0, .int 0, .int 0, .int 0, .ref (qa 0), .ref (qa 1), .ref (qa 2), .ref (qa 3), .int 0, .ref (qa 4), .ref (qa 5), .ref (qa 6), .ref (qa 7), .ref (qa 8), .ref (qa 9), .ref (qa 10), .ref (qa 11), .ref (qa 12), .ref (qa 13), .ref (qa 14), .ref (qa 15), .ref (qa 16), .ref (qa 17), .ref (qa 18), .ref (qa 19), .ref (qa 20), .int 0, .int 0, .int 0, .int 0, .long 0, .long 0, .long 0, .long 0, .long 0, .ref (qa 21), .int 0, .int 0, .int 0, .int 0]))] H := hP
  have hD : va_D A [(h0, .inr (7, [.int 1, .int 0, .int 0, .int 0, .int 0, .int 0, .int (-1), .int (-1), .int 0, .int 0, .int 0, .int 0, .int 0, .int 0, .int 0, .int 0, .ref (qa 0), .ref (qa 1), .ref (qa 2), .ref (qa 3), .int 0, .ref (qa 4), .ref (qa 5), .ref (qa 6), .ref (qa 7), .ref (qa 8), .ref (qa 9), .ref (qa 10), .ref (qa 11), .ref (qa 12), .ref (qa 13), .ref (qa 14), .ref (qa 15), .ref (qa 16), .ref (qa 17), .ref (qa 18), .ref (qa 19), .ref (qa 20), .int 0, .int 0, .int 0, .int 0, .long 0, .long 0, .long 0, .long 0, .long 0, .ref (qa 21), .int 0, .int 0, .int 0, .int 0]))] := hD
  have hK : va_K D cls [] s := hK
  refine W.eq (g2 := F0 m 42 ls [.int 0]) rfl ?_
  exact xr_i hx hb hr hlocks hP hD hK hS (()) [0] rfl rfl (by decide) [] rfl rfl d_Mo_symbol_42

theorem d_Mo_letter_0 : decode b_Mo_letter 0 = .ok (.aload_n 0, 1) := by decide +kernel
theorem d_Mo_letter_1 : decode b_Mo_letter 1 = .ok (.iconst 0, 1) := by decide +kernel
theorem d_Mo_letter_2 : decode b_Mo_letter 2 = .ok (.putfield 88, 3) := by decide +kernel
theorem d_Mo_letter_5 : decode b_Mo_letter 5 = .ok (.iload_n 1, 1) := by decide +kernel
theorem d_Mo_letter_6 : decode b_Mo_letter 6 = .ok (.aload_n 0, 1) := by decide +kernel
theorem d_Mo_letter_7 : decode b_Mo_letter 7 = .ok (.getfield 1010, 3) := by decide +kernel
theorem d_Mo_letter_10 : decode b_Mo_letter 10 = .ok (.invokestatic 1181, 3) := by decide +kernel
theorem d_Mo_letter_13 : decode b_Mo_letter 13 = .ok (.ifCond .eq 34, 3) := by decide +kernel
theorem d_Mo_letter_47 : decode b_Mo_letter 47 = .ok (.aload_n 0, 1) := by decide +kernel
theorem d_Mo_letter_48 : decode b_Mo_letter 48 = .ok (.iconst 1, 1) := by decide +kernel
theorem d_Mo_letter_49 : decode b_Mo_letter 49 = .ok (.invokevirtual 94, 3) := by decide +kernel
theorem d_Mo_letter_52 : decode b_Mo_letter 52 = .ok (.ireturn, 1) := by decide +kernel
set_option maxHeartbeats 4000000 in
set_option maxRecDepth 100000 in
theorem c_Mo_letter_n (l : Launch) (D : va_G) (h0 : Nat) (qa : Nat → Nat) (p0 p1 p2 : Int32) (hk : p0 < 0) (sz : Nat) : Met l y_Mo_letter (Cond.code y_Mo_letter b_Mo_letter 9 (some .int) :: bw) (xR 2 0 0) (va_Pc [.ref h0, .int p0, .int p1, .int p2] (xP D [] sz [(h0, .inr (7, [.int 0, .int 0, .int 0, .int 0, .int 0, .int 0, .int (-1), .int (-1), .int 0, .int 0, .int 0, .int 0, .int 0, .int 0, .int 0, .int 0, .ref (qa 0), .ref (qa 1), .ref (qa 2), .ref (qa 3), .int 0, .ref (qa 4), .ref (qa 5), .ref (qa 6), .ref (qa 7), .ref (qa 8), .ref (qa 9), .ref (qa 10), .ref (qa 11), .ref (qa 12), .ref (qa 13), .ref (qa 14), .ref (qa 15), .ref (qa 16), .ref (qa 17), .ref (qa 18), .ref (qa 19), .ref (qa 20), .int 0, .int 0, .int 0, .int 0, .long 0, .long 0, .long 0, .long 0, .long 0, .ref (qa 21), .int 0, .int 0, .int 0, .int 0]))])) (xQ (S := Unit) (fun _ => some (.int 0)) (fun _ => [(h0, .inr (7, [.int 1, .int 0, .int 0, .int 0, .int 0, .int 0, .int (-1), .int (-1), .int 0, .int 0, .int 0, .int 0, .int 0, .int 0, .int 0, .int 0, .ref (qa 0), .ref (qa 1), .ref (qa 2), .ref (qa 3), .int 0, .ref (qa 4), .ref (qa 5), .ref (qa 6), .ref (qa 7), .ref (qa 8), .ref (qa 9), .ref (qa 10), .ref (qa 11), .ref (qa 12), .ref (qa 13), .ref (qa 14), .ref (qa 15), .ref (qa 16), .ref (qa 17), .ref (qa 18), .ref (qa 19), .ref (qa 20), .int 0, .int 0, .int 0, .int 0, .long 0, .long 0, .long 0, .long 0, .long 0, .ref (qa 21), .int 0, .int 0, .int 0, .int 0]))]) (fun _ => []) D (va_A [(h0, .inr (7, [.int 0, .int 0, .int 0, .int 0, .int 0, .int 0, .int (-1), .int (-1), .int 0, .int 0, .int 0, .int 0, .int 0, .int 0, .int 0, .int 0, .ref (qa 0), .ref (qa 1), .ref (qa 2), .ref (qa 3), .int 0, .ref (qa 4), .ref (qa 5), .ref (qa 6), .ref (qa 7), .ref (qa 8), .ref (qa 9), .ref (qa 10), .ref (qa 11), .ref (qa 12), .ref (qa 13), .ref (qa 14), .ref (qa 15), .ref (qa 16), .ref (qa 17), .ref (qa 18), .ref (qa 19), .ref (qa 20), .int 0, .int 0, .int 0, .int 0, .long 0, .long 0, .long 0, .long 0, .long 0, .ref (qa 21), .int 0, .int 0, .int 0, .int 0]))] sz)) 0 0 (va_A [(h0, .inr (7, [.int 0, .int 0, .int 0, .int 0, .int 0, .int 0, .int (-1), .int (-1), .int 0, .int 0, .int 0, .int 0, .int 0, .int 0, .int 0, .int 0, .ref (qa 0), .ref (qa 1), .ref (qa 2), .ref (qa 3), .int 0, .ref (qa 4), .ref (qa 5), .ref (qa 6), .ref (qa 7), .ref (qa 8), .ref (qa 9), .ref (qa 10), .ref (qa 11), .ref (qa 12), .ref (qa 13), .ref (qa 14), .ref (qa 15), .ref (qa 16), .ref (qa 17), .ref (qa 18), .ref (qa 19), .ref (qa 20), .int 0, .int 0, .int 0, .int 0, .long 0, .long 0, .long 0, .long 0, .long 0, .ref (qa 21), .int 0, .int 0, .int 0, .int 0]))] sz) := by
  refine Met.ofW (cc := b_Mo_letter) (maxL := 9) (ret := (some .int)) (by decide) rfl ?_
  intro p e s m args below meth c s₁ B hml hv
  obtain ⟨rfl, hsz, hP, hK, hD0, hN, hZ⟩ := hv
  have hx := B.exec
  have hb := B.bytes
  have hr := B.returns
  have hlocks := B.notSynchronized
  have hts : ∀ w ∈ bw, w.before _ s = true := fun w h => atoms_spec (ws := Cond.code y_Mo_letter b_Mo_letter 9 (some .int) :: bw) B.pre w (List.mem_cons_of_mem _ h)
  have hown : s.vm.findClass "ObjectForgeModel" = some m.cls := findClass_of_methodNamed B.named
  subst hsz
  have hP0 := hP
  have hD := hD0.self (sz := s.heap.size)
  generalize hAe : va_A [(h0, .inr (7, [.int 0, .int 0, .int 0, .int 0, .int 0, .int 0, .int (-1), .int (-1), .int 0, .int 0, .int 0, .int 0, .int 0, .int 0, .int 0, .int 0, .ref (qa 0), .ref (qa 1), .ref (qa 2), .ref (qa 3), .int 0, .ref (qa 4), .ref (qa 5), .ref (qa 6), .ref (qa 7), .ref (qa 8), .ref (qa 9), .ref (qa 10), .ref (qa 11), .ref (qa 12), .ref (qa 13), .ref (qa 14), .ref (qa 15), .ref (qa 16), .ref (qa 17), .ref (qa 18), .ref (qa 19), .ref (qa 20), .int 0, .int 0, .int 0, .int 0, .long 0, .long 0, .long 0, .long 0, .long 0, .ref (qa 21), .int 0, .int 0, .int 0, .int 0]))] s.heap.size = A at hD hZ ⊢
  have hA : ∀ q : Nat, s.heap.size ≤ q → A q := fun q h => by rw [← hAe]; exact Or.inr h
  have hS : va_S A s.heap s.heap [] := va_S.rf
  have hl := lv_entry ([.ref h0, .int p0, .int p1, .int p2]) (n := 9) (Nat.le_of_ble_eq_true rfl)
  rw [lg_entry_eq]
  generalize (lg_sl ([.ref h0, .int p0, .int p1, .int p2]) ++ List.replicate (9 - (lg_sl ([.ref h0, .int p0, .int p1, .int p2])).length) Slot.unset).toArray = ls at hl ⊢
  have hl : lv_has ls 9 [(0, .ref h0), (1, .int p0), (2, .int p1), (3, .int p2)] := hl
  refine lv_aload_n hx hb d_Mo_letter_0 rfl (lv_at hl 0 rfl) ?_
  refine lv_iconst (v := 0) hx hb d_Mo_letter_1 (by decide) ?_
  refine va_put (D := D) (ci := 7) (v := .int 0) (ty := .int) (C := R_Mo) (T := F_Mo) (N := 52) hx hb hts i_Mo t_Mo t_Mo_ok n_Mo hown hK hP hD hS 0 rfl rfl 0 (by decide) (hts _ w_397) (fun _ h9 => h9) rfl (by decide +kernel) rfl rfl (Nat.le_of_ble_eq_true rfl) d_Mo_letter_2 (fun H locs hP hD hS => ?_)
  have hP : va_P D cls [(h0, .inr (7, [.int 0, .int 0, .int 0, .int 0, .int 0, .int 0, .int (-1), .int (-1), .int 0, .int 0, .int 0, .int 0, .int 0, .int 0, .int 0, .int 0, .ref (qa 0), .ref (qa 1), .ref (qa 2), .ref (qa 3), .int 0, .ref (qa 4), .ref (qa 5), .ref (qa 6), .ref (qa 7), .ref (qa 8), .ref (qa 9), .ref (qa 10), .ref (qa 11), .ref (qa 12), .ref (qa 13), .ref (qa 14), .ref (qa 15), .ref (qa 16), .ref (qa 17), .ref (qa 18), .ref (qa 19), .ref (qa 20), .int 0, .int 0, .int 0, .int 0, .long 0, .long 0, .long 0, .long 0, .long 0, .ref (qa 21), .int 0, .int 0, .int 0, .int 0]))] H := hP
  have hD : va_D A [(h0, .inr (7, [.int 0, .int 0, .int 0, .int 0, .int 0, .int 0, .int (-1), .int (-1), .int 0, .int 0, .int 0, .int 0, .int 0, .int 0, .int 0, .int 0, .ref (qa 0), .ref (qa 1), .ref (qa 2), .ref (qa 3), .int 0, .ref (qa 4), .ref (qa 5), .ref (qa 6), .ref (qa 7), .ref (qa 8), .ref (qa 9), .ref (qa 10), .ref (qa 11), .ref (qa 12), .ref (qa 13), .ref (qa 14), .ref (qa 15), .ref (qa 16), .ref (qa 17), .ref (qa 18), .ref (qa 19), .ref (qa 20), .int 0, .int 0, .int 0, .int 0, .long 0, .long 0, .long 0, .long 0, .long 0, .ref (qa 21), .int 0, .int 0, .int 0, .int 0]))] := hD
  refine lv_iload_n hx hb d_Mo_letter_5 rfl (lv_at hl 1 rfl) ?_
  refine lv_aload_n hx hb d_Mo_letter_6 rfl (lv_at hl 0 rfl) ?_
  refine va_get (D := D) (ci := 7) (v := .int 0) (C := R_Mo) (T := F_Mo) (N := 52) hx hb hts i_Mo hown hK hP 0 rfl rfl 2 (by decide) (hts _ w_400) (fun _ h9 => h9) rfl d_Mo_letter_7 ?_
  refine xc_S (As := [.int p0, .int 0]) (rest := []) (n := 2) (wc := []) (wr := [(h0, .inr (7, [.int 0, .int 0, .int 0, .int 0, .int 0, .int 0, .int (-1), .int (-1), .int 0, .int 0, .int 0, .int 0, .int 0, .int 0, .int 0, .int 0, .ref (qa 0), .ref (qa 1), .ref (qa 2), .ref (qa 3), .int 0, .ref (qa 4), .ref (qa 5), .ref (qa 6), .ref (qa 7), .ref (qa 8), .ref (qa 9), .ref (qa 10), .ref (qa 11), .ref (qa 12), .ref (qa 13), .ref (qa 14), .ref (qa 15), .ref (qa 16), .ref (qa 17), .ref (qa 18), .ref (qa 19), .ref (qa 20), .int 0, .int 0, .int 0, .int 0, .long 0, .long 0, .long 0, .long 0, .long 0, .ref (qa 21), .int 0, .int 0, .int 0, .int 0]))]) (tc := []) (tr := []) ⟨hx, hb, hml, hown, hts⟩ (c_Mo_within_n l D p0 0 hk H.size) rfl rfl w_510 w_508 w_509 w_8 (by decide +kernel) ⟨Nat.le_of_ble_eq_true rfl, Nat.le_of_ble_eq_true rfl⟩ hP hD hK hS hA hN hZ [] [0] rfl rfl (by decide) (by decide) (by decide) [] [] rfl rfl rfl hl.1 rfl (Nat.le_of_ble_eq_true rfl) d_Mo_letter_10 ⟨Nat.le_of_ble_eq_true rfl, Nat.le_of_ble_eq_true rfl⟩ (fun u1 H locs hP hD hK hS => ?_)
  have hP : va_P D cls [(h0, .inr (7, [.int 0, .int 0, .int 0, .int 0, .int 0, .int 0, .int (-1), .int (-1), .int 0, .int 0, .int 0, .int 0, .int 0, .int 0, .int 0, .int 0, .ref (qa 0), .ref (qa 1), .ref (qa 2), .ref (qa 3), .int 0, .ref (qa 4), .ref (qa 5), .ref (qa 6), .ref (qa 7), .ref (qa 8), .ref (qa 9), .ref (qa 10), .ref (qa 11), .ref (qa 12), .ref (qa 13), .ref (qa 14), .ref (qa 15), .ref (qa 16), .ref (qa 17), .ref (qa 18), .ref (qa 19), .ref (qa 20), .int 0, .int 0, .int 0, .int 0, .long 0, .long 0, .long 0, .long 0, .long 0, .ref (qa 21), .int 0, .int 0, .int 0, .int 0]))] H := hP
  have hD : va_D A [(h0, .inr (7, [.int 0, .int 0, .int 0, .int 0, .int 0, .int 0, .int (-1), .int (-1), .int 0, .int 0, .int 0, .int 0, .int 0, .int 0, .int 0, .int 0, .ref (qa 0), .ref (qa 1), .ref (qa 2), .ref (qa 3), .int 0, .ref (qa 4), .ref (qa 5), .ref (qa 6), .ref (qa 7), .ref (qa 8), .ref (qa 9), .ref (qa 10), .ref (qa 11), .ref (qa 12), .ref (qa 13), .ref (qa 14), .ref (qa 15), .ref (qa 16), .ref (qa 17), .ref (qa 18), .ref (qa 19), .ref (qa 20), .int 0, .int 0, .int 0, .int 0, .long 0, .long 0, .long 0, .long 0, .long 0, .ref (qa 21), .int 0, .int 0, .int 0, .int 0]))] := hD
  have hK : va_K D cls [] s := hK
  refine W.eq (g2 := F0 m 13 ls [.int 0]) rfl ?_
  refine lv_if_eq (tgt := 47) hx hb d_Mo_letter_13 (by decide) (fun _ => ?_) (fun q9 => absurd (by decide : ((0 : Int32) = 0)) q9)
  refine lv_aload_n hx hb d_Mo_letter_47 rfl (lv_at hl 0 rfl) ?_
  refine lv_iconst (v := 1) hx hb d_Mo_letter_48 (by decide) ?_
  refine xc_V (As := [.int 1]) (rest := []) (n := 1) (wc := [(h0, .inr (7, [.int 0, .int 0, .int 0, .int 0, .int 0, .int 0, .int (-1), .int (-1), .int 0, .int 0, .int 0, .int 0, .int 0, .int 0, .int 0, .int 0, .ref (qa 0), .ref (qa 1), .ref (qa 2), .ref (qa 3), .int 0, .ref (qa 4), .ref (qa 5), .ref (qa 6), .ref (qa 7), .ref (qa 8), .ref (qa 9), .ref (qa 10), .ref (qa 11), .ref (qa 12), .ref (qa 13), .ref (qa 14), .ref (qa 15), .ref (qa 16), .ref (qa 17), .ref (qa 18), .ref (qa 19), .ref (qa 20), .int 0, .int 0, .int 0, .int 0, .long 0, .long 0, .long 0, .long 0, .long 0, .ref (qa 21), .int 0, .int 0, .int 0, .int 0]))]) (wr := []) (tc := []) (tr := []) ⟨hx, hb, hml, hown, hts⟩ (c_Mo_refuse_1 l D h0 qa H.size) rfl rfl w_452 w_450 w_451 w_557 w_8 (by decide +kernel) ⟨Nat.le_of_ble_eq_true rfl, Nat.le_of_ble_eq_true rfl⟩ hP hD hK hS hA hN hZ [0] [] rfl rfl (by decide) (by decide) (by decide) [] [] rfl rfl (ci := 7) (q0 := 0) (q := (R_Mo, F_Mo, 52)) rfl rfl rfl rfl hl.1 rfl (Nat.le_of_ble_eq_true rfl) d_Mo_letter_49 ⟨Nat.le_of_ble_eq_true rfl, Nat.le_of_ble_eq_true rfl⟩ (fun u2 H locs hP hD hK hS => ?_)
  have hP : va_P D cls [(h0, .inr (7, [.int 1, .int 0, .int 0, .int 0, .int 0, .int 0, .int (-1), .int (-1), .int 0, .int 0, .int 0, .int 0, .int 0, .int 0, .int 0, .int 0, .ref (qa 0), .ref (qa 1), .ref (qa 2), .ref (qa 3), .int 0, .ref (qa 4), .ref (qa 5), .ref (qa 6), .ref (qa 7), .ref (qa 8), .ref (qa 9), .ref (qa 10), .ref (qa 11), .ref (qa 12), .ref (qa 13), .ref (qa 14), .ref (qa 15), .ref (qa 16), .ref (qa 17), .ref (qa 18), .ref (qa 19), .ref (qa 20), .int 0, .int 0, .int 0, .int 0, .long 0, .long 0, .long 0, .long 0, .long 0, .ref (qa 21), .int 0, .int 0, .int 0, .int 0]))] H := hP
  have hD : va_D A [(h0, .inr (7, [.int 1, .int 0, .int 0, .int 0, .int 0, .int 0, .int (-1), .int (-1), .int 0, .int 0, .int 0, .int 0, .int 0, .int 0, .int 0, .int 0, .ref (qa 0), .ref (qa 1), .ref (qa 2), .ref (qa 3), .int 0, .ref (qa 4), .ref (qa 5), .ref (qa 6), .ref (qa 7), .ref (qa 8), .ref (qa 9), .ref (qa 10), .ref (qa 11), .ref (qa 12), .ref (qa 13), .ref (qa 14), .ref (qa 15), .ref (qa 16), .ref (qa 17), .ref (qa 18), .ref (qa 19), .ref (qa 20), .int 0, .int 0, .int 0, .int 0, .long 0, .long 0, .long 0, .long 0, .long 0, .ref (qa 21), .int 0, .int 0, .int 0, .int 0]))] := hD
  have hK : va_K D cls [] s := hK
  refine W.eq (g2 := F0 m 52 ls [.int 0]) rfl ?_
  exact xr_i hx hb hr hlocks hP hD hK hS (()) [0] rfl rfl (by decide) [] rfl rfl d_Mo_letter_52

set_option maxHeartbeats 4000000 in
set_option maxRecDepth 100000 in
theorem c_Mo_letter_g (l : Launch) (D : va_G) (h0 : Nat) (qa : Nat → Nat) (p0 p1 p2 : Int32) (hk : ¬ p0 < 0) (hg : 0 ≤ p0) (sz : Nat) : Met l y_Mo_letter (Cond.code y_Mo_letter b_Mo_letter 9 (some .int) :: bw) (xR 2 0 0) (va_Pc [.ref h0, .int p0, .int p1, .int p2] (xP D [] sz [(h0, .inr (7, [.int 0, .int 0, .int 0, .int 0, .int 0, .int 0, .int (-1), .int (-1), .int 0, .int 0, .int 0, .int 0, .int 0, .int 0, .int 0, .int 0, .ref (qa 0), .ref (qa 1), .ref (qa 2), .ref (qa 3), .int 0, .ref (qa 4), .ref (qa 5), .ref (qa 6), .ref (qa 7), .ref (qa 8), .ref (qa 9), .ref (qa 10), .ref (qa 11), .ref (qa 12), .ref (qa 13), .ref (qa 14), .ref (qa 15), .ref (qa 16), .ref (qa 17), .ref (qa 18), .ref (qa 19), .ref (qa 20), .int 0, .int 0, .int 0, .int 0, .long 0, .long 0, .long 0, .long 0, .long 0, .ref (qa 21), .int 0, .int 0, .int 0, .int 0]))])) (xQ (S := Unit) (fun _ => some (.int 0)) (fun _ => [(h0, .inr (7, [.int 1, .int 0, .int 0, .int 0, .int 0, .int 0, .int (-1), .int (-1), .int 0, .int 0, .int 0, .int 0, .int 0, .int 0, .int 0, .int 0, .ref (qa 0), .ref (qa 1), .ref (qa 2), .ref (qa 3), .int 0, .ref (qa 4), .ref (qa 5), .ref (qa 6), .ref (qa 7), .ref (qa 8), .ref (qa 9), .ref (qa 10), .ref (qa 11), .ref (qa 12), .ref (qa 13), .ref (qa 14), .ref (qa 15), .ref (qa 16), .ref (qa 17), .ref (qa 18), .ref (qa 19), .ref (qa 20), .int 0, .int 0, .int 0, .int 0, .long 0, .long 0, .long 0, .long 0, .long 0, .ref (qa 21), .int 0, .int 0, .int 0, .int 0]))]) (fun _ => []) D (va_A [(h0, .inr (7, [.int 0, .int 0, .int 0, .int 0, .int 0, .int 0, .int (-1), .int (-1), .int 0, .int 0, .int 0, .int 0, .int 0, .int 0, .int 0, .int 0, .ref (qa 0), .ref (qa 1), .ref (qa 2), .ref (qa 3), .int 0, .ref (qa 4), .ref (qa 5), .ref (qa 6), .ref (qa 7), .ref (qa 8), .ref (qa 9), .ref (qa 10), .ref (qa 11), .ref (qa 12), .ref (qa 13), .ref (qa 14), .ref (qa 15), .ref (qa 16), .ref (qa 17), .ref (qa 18), .ref (qa 19), .ref (qa 20), .int 0, .int 0, .int 0, .int 0, .long 0, .long 0, .long 0, .long 0, .long 0, .ref (qa 21), .int 0, .int 0, .int 0, .int 0]))] sz)) 0 0 (va_A [(h0, .inr (7, [.int 0, .int 0, .int 0, .int 0, .int 0, .int 0, .int (-1), .int (-1), .int 0, .int 0, .int 0, .int 0, .int 0, .int 0, .int 0, .int 0, .ref (qa 0), .ref (qa 1), .ref (qa 2), .ref (qa 3), .int 0, .ref (qa 4), .ref (qa 5), .ref (qa 6), .ref (qa 7), .ref (qa 8), .ref (qa 9), .ref (qa 10), .ref (qa 11), .ref (qa 12), .ref (qa 13), .ref (qa 14), .ref (qa 15), .ref (qa 16), .ref (qa 17), .ref (qa 18), .ref (qa 19), .ref (qa 20), .int 0, .int 0, .int 0, .int 0, .long 0, .long 0, .long 0, .long 0, .long 0, .ref (qa 21), .int 0, .int 0, .int 0, .int 0]))] sz) := by
  refine Met.ofW (cc := b_Mo_letter) (maxL := 9) (ret := (some .int)) (by decide) rfl ?_
  intro p e s m args below meth c s₁ B hml hv
  obtain ⟨rfl, hsz, hP, hK, hD0, hN, hZ⟩ := hv
  have hx := B.exec
  have hb := B.bytes
  have hr := B.returns
  have hlocks := B.notSynchronized
  have hts : ∀ w ∈ bw, w.before _ s = true := fun w h => atoms_spec (ws := Cond.code y_Mo_letter b_Mo_letter 9 (some .int) :: bw) B.pre w (List.mem_cons_of_mem _ h)
  have hown : s.vm.findClass "ObjectForgeModel" = some m.cls := findClass_of_methodNamed B.named
  subst hsz
  have hP0 := hP
  have hD := hD0.self (sz := s.heap.size)
  generalize hAe : va_A [(h0, .inr (7, [.int 0, .int 0, .int 0, .int 0, .int 0, .int 0, .int (-1), .int (-1), .int 0, .int 0, .int 0, .int 0, .int 0, .int 0, .int 0, .int 0, .ref (qa 0), .ref (qa 1), .ref (qa 2), .ref (qa 3), .int 0, .ref (qa 4), .ref (qa 5), .ref (qa 6), .ref (qa 7), .ref (qa 8), .ref (qa 9), .ref (qa 10), .ref (qa 11), .ref (qa 12), .ref (qa 13), .ref (qa 14), .ref (qa 15), .ref (qa 16), .ref (qa 17), .ref (qa 18), .ref (qa 19), .ref (qa 20), .int 0, .int 0, .int 0, .int 0, .long 0, .long 0, .long 0, .long 0, .long 0, .ref (qa 21), .int 0, .int 0, .int 0, .int 0]))] s.heap.size = A at hD hZ ⊢
  have hA : ∀ q : Nat, s.heap.size ≤ q → A q := fun q h => by rw [← hAe]; exact Or.inr h
  have hS : va_S A s.heap s.heap [] := va_S.rf
  have hl := lv_entry ([.ref h0, .int p0, .int p1, .int p2]) (n := 9) (Nat.le_of_ble_eq_true rfl)
  rw [lg_entry_eq]
  generalize (lg_sl ([.ref h0, .int p0, .int p1, .int p2]) ++ List.replicate (9 - (lg_sl ([.ref h0, .int p0, .int p1, .int p2])).length) Slot.unset).toArray = ls at hl ⊢
  have hl : lv_has ls 9 [(0, .ref h0), (1, .int p0), (2, .int p1), (3, .int p2)] := hl
  refine lv_aload_n hx hb d_Mo_letter_0 rfl (lv_at hl 0 rfl) ?_
  refine lv_iconst (v := 0) hx hb d_Mo_letter_1 (by decide) ?_
  refine va_put (D := D) (ci := 7) (v := .int 0) (ty := .int) (C := R_Mo) (T := F_Mo) (N := 52) hx hb hts i_Mo t_Mo t_Mo_ok n_Mo hown hK hP hD hS 0 rfl rfl 0 (by decide) (hts _ w_397) (fun _ h9 => h9) rfl (by decide +kernel) rfl rfl (Nat.le_of_ble_eq_true rfl) d_Mo_letter_2 (fun H locs hP hD hS => ?_)
  have hP : va_P D cls [(h0, .inr (7, [.int 0, .int 0, .int 0, .int 0, .int 0, .int 0, .int (-1), .int (-1), .int 0, .int 0, .int 0, .int 0, .int 0, .int 0, .int 0, .int 0, .ref (qa 0), .ref (qa 1), .ref (qa 2), .ref (qa 3), .int 0, .ref (qa 4), .ref (qa 5), .ref (qa 6), .ref (qa 7), .ref (qa 8), .ref (qa 9), .ref (qa 10), .ref (qa 11), .ref (qa 12), .ref (qa 13), .ref (qa 14), .ref (qa 15), .ref (qa 16), .ref (qa 17), .ref (qa 18), .ref (qa 19), .ref (qa 20), .int 0, .int 0, .int 0, .int 0, .long 0, .long 0, .long 0, .long 0, .long 0, .ref (qa 21), .int 0, .int 0, .int 0, .int 0]))] H := hP
  have hD : va_D A [(h0, .inr (7, [.int 0, .int 0, .int 0, .int 0, .int 0, .int 0, .int (-1), .int (-1), .int 0, .int 0, .int 0, .int 0, .int 0, .int 0, .int 0, .int 0, .ref (qa 0), .ref (qa 1), .ref (qa 2), .ref (qa 3), .int 0, .ref (qa 4), .ref (qa 5), .ref (qa 6), .ref (qa 7), .ref (qa 8), .ref (qa 9), .ref (qa 10), .ref (qa 11), .ref (qa 12), .ref (qa 13), .ref (qa 14), .ref (qa 15), .ref (qa 16), .ref (qa 17), .ref (qa 18), .ref (qa 19), .ref (qa 20), .int 0, .int 0, .int 0, .int 0, .long 0, .long 0, .long 0, .long 0, .long 0, .ref (qa 21), .int 0, .int 0, .int 0, .int 0]))] := hD
  refine lv_iload_n hx hb d_Mo_letter_5 rfl (lv_at hl 1 rfl) ?_
  refine lv_aload_n hx hb d_Mo_letter_6 rfl (lv_at hl 0 rfl) ?_
  refine va_get (D := D) (ci := 7) (v := .int 0) (C := R_Mo) (T := F_Mo) (N := 52) hx hb hts i_Mo hown hK hP 0 rfl rfl 2 (by decide) (hts _ w_400) (fun _ h9 => h9) rfl d_Mo_letter_7 ?_
  refine xc_S (As := [.int p0, .int 0]) (rest := []) (n := 2) (wc := []) (wr := [(h0, .inr (7, [.int 0, .int 0, .int 0, .int 0, .int 0, .int 0, .int (-1), .int (-1), .int 0, .int 0, .int 0, .int 0, .int 0, .int 0, .int 0, .int 0, .ref (qa 0), .ref (qa 1), .ref (qa 2), .ref (qa 3), .int 0, .ref (qa 4), .ref (qa 5), .ref (qa 6), .ref (qa 7), .ref (qa 8), .ref (qa 9), .ref (qa 10), .ref (qa 11), .ref (qa 12), .ref (qa 13), .ref (qa 14), .ref (qa 15), .ref (qa 16), .ref (qa 17), .ref (qa 18), .ref (qa 19), .ref (qa 20), .int 0, .int 0, .int 0, .int 0, .long 0, .long 0, .long 0, .long 0, .long 0, .ref (qa 21), .int 0, .int 0, .int 0, .int 0]))]) (tc := []) (tr := []) ⟨hx, hb, hml, hown, hts⟩ (c_Mo_within_g l D p0 0 hk hg H.size) rfl rfl w_510 w_508 w_509 w_8 (by decide +kernel) ⟨Nat.le_of_ble_eq_true rfl, Nat.le_of_ble_eq_true rfl⟩ hP hD hK hS hA hN hZ [] [0] rfl rfl (by decide) (by decide) (by decide) [] [] rfl rfl rfl hl.1 rfl (Nat.le_of_ble_eq_true rfl) d_Mo_letter_10 ⟨Nat.le_of_ble_eq_true rfl, Nat.le_of_ble_eq_true rfl⟩ (fun u1 H locs hP hD hK hS => ?_)
  have hP : va_P D cls [(h0, .inr (7, [.int 0, .int 0, .int 0, .int 0, .int 0, .int 0, .int (-1), .int (-1), .int 0, .int 0, .int 0, .int 0, .int 0, .int 0, .int 0, .int 0, .ref (qa 0), .ref (qa 1), .ref (qa 2), .ref (qa 3), .int 0, .ref (qa 4), .ref (qa 5), .ref (qa 6), .ref (qa 7), .ref (qa 8), .ref (qa 9), .ref (qa 10), .ref (qa 11), .ref (qa 12), .ref (qa 13), .ref (qa 14), .ref (qa 15), .ref (qa 16), .ref (qa 17), .ref (qa 18), .ref (qa 19), .ref (qa 20), .int 0, .int 0, .int 0, .int 0, .long 0, .long 0, .long 0, .long 0, .long 0, .ref (qa 21), .int 0, .int 0, .int 0, .int 0]))] H := hP
  have hD : va_D A [(h0, .inr (7, [.int 0, .int 0, .int 0, .int 0, .int 0, .int 0, .int (-1), .int (-1), .int 0, .int 0, .int 0, .int 0, .int 0, .int 0, .int 0, .int 0, .ref (qa 0), .ref (qa 1), .ref (qa 2), .ref (qa 3), .int 0, .ref (qa 4), .ref (qa 5), .ref (qa 6), .ref (qa 7), .ref (qa 8), .ref (qa 9), .ref (qa 10), .ref (qa 11), .ref (qa 12), .ref (qa 13), .ref (qa 14), .ref (qa 15), .ref (qa 16), .ref (qa 17), .ref (qa 18), .ref (qa 19), .ref (qa 20), .int 0, .int 0, .int 0, .int 0, .long 0, .long 0, .long 0, .long 0, .long 0, .ref (qa 21), .int 0, .int 0, .int 0, .int 0]))] := hD
  have hK : va_K D cls [] s := hK
  refine W.eq (g2 := F0 m 13 ls [.int 0]) rfl ?_
  refine lv_if_eq (tgt := 47) hx hb d_Mo_letter_13 (by decide) (fun _ => ?_) (fun q9 => absurd (by decide : ((0 : Int32) = 0)) q9)
  refine lv_aload_n hx hb d_Mo_letter_47 rfl (lv_at hl 0 rfl) ?_
  refine lv_iconst (v := 1) hx hb d_Mo_letter_48 (by decide) ?_
  refine xc_V (As := [.int 1]) (rest := []) (n := 1) (wc := [(h0, .inr (7, [.int 0, .int 0, .int 0, .int 0, .int 0, .int 0, .int (-1), .int (-1), .int 0, .int 0, .int 0, .int 0, .int 0, .int 0, .int 0, .int 0, .ref (qa 0), .ref (qa 1), .ref (qa 2), .ref (qa 3), .int 0, .ref (qa 4), .ref (qa 5), .ref (qa 6), .ref (qa 7), .ref (qa 8), .ref (qa 9), .ref (qa 10), .ref (qa 11), .ref (qa 12), .ref (qa 13), .ref (qa 14), .ref (qa 15), .ref (qa 16), .ref (qa 17), .ref (qa 18), .ref (qa 19), .ref (qa 20), .int 0, .int 0, .int 0, .int 0, .long 0, .long 0, .long 0, .long 0, .long 0, .ref (qa 21), .int 0, .int 0, .int 0, .int 0]))]) (wr := []) (tc := []) (tr := []) ⟨hx, hb, hml, hown, hts⟩ (c_Mo_refuse_1 l D h0 qa H.size) rfl rfl w_452 w_450 w_451 w_557 w_8 (by decide +kernel) ⟨Nat.le_of_ble_eq_true rfl, Nat.le_of_ble_eq_true rfl⟩ hP hD hK hS hA hN hZ [0] [] rfl rfl (by decide) (by decide) (by decide) [] [] rfl rfl (ci := 7) (q0 := 0) (q := (R_Mo, F_Mo, 52)) rfl rfl rfl rfl hl.1 rfl (Nat.le_of_ble_eq_true rfl) d_Mo_letter_49 ⟨Nat.le_of_ble_eq_true rfl, Nat.le_of_ble_eq_true rfl⟩ (fun u2 H locs hP hD hK hS => ?_)
  have hP : va_P D cls [(h0, .inr (7, [.int 1, .int 0, .int 0, .int 0, .int 0, .int 0, .int (-1), .int (-1), .int 0, .int 0, .int 0, .int 0, .int 0, .int 0, .int 0, .int 0, .ref (qa 0), .ref (qa 1), .ref (qa 2), .ref (qa 3), .int 0, .ref (qa 4), .ref (qa 5), .ref (qa 6), .ref (qa 7), .ref (qa 8), .ref (qa 9), .ref (qa 10), .ref (qa 11), .ref (qa 12), .ref (qa 13), .ref (qa 14), .ref (qa 15), .ref (qa 16), .ref (qa 17), .ref (qa 18), .ref (qa 19), .ref (qa 20), .int 0, .int 0, .int 0, .int 0, .long 0, .long 0, .long 0, .long 0, .long 0, .ref (qa 21), .int 0, .int 0, .int 0, .int 0]))] H := hP
  have hD : va_D A [(h0, .inr (7, [.int 1, .int 0, .int 0, .int 0, .int 0, .int 0, .int (-1), .int (-1), .int 0, .int 0, .int 0, .int 0, .int 0, .int 0, .int 0, .int 0, .ref (qa 0), .ref (qa 1), .ref (qa 2), .ref (qa 3), .int 0, .ref (qa 4), .ref (qa 5), .ref (qa 6), .ref (qa 7), .ref (qa 8), .ref (qa 9), .ref (qa 10), .ref (qa 11), .ref (qa 12), .ref (qa 13), .ref (qa 14), .ref (qa 15), .ref (qa 16), .ref (qa 17), .ref (qa 18), .ref (qa 19), .ref (qa 20), .int 0, .int 0, .int 0, .int 0, .long 0, .long 0, .long 0, .long 0, .long 0, .ref (qa 21), .int 0, .int 0, .int 0, .int 0]))] := hD
  have hK : va_K D cls [] s := hK
  refine W.eq (g2 := F0 m 52 ls [.int 0]) rfl ?_
  exact xr_i hx hb hr hlocks hP hD hK hS (()) [0] rfl rfl (by decide) [] rfl rfl d_Mo_letter_52

theorem d_Mo_relocation_0 : decode b_Mo_relocation 0 = .ok (.aload_n 0, 1) := by decide +kernel
theorem d_Mo_relocation_1 : decode b_Mo_relocation 1 = .ok (.iconst 0, 1) := by decide +kernel
theorem d_Mo_relocation_2 : decode b_Mo_relocation 2 = .ok (.putfield 88, 3) := by decide +kernel
theorem d_Mo_relocation_5 : decode b_Mo_relocation 5 = .ok (.iload_n 1, 1) := by decide +kernel
theorem d_Mo_relocation_6 : decode b_Mo_relocation 6 = .ok (.aload_n 0, 1) := by decide +kernel
theorem d_Mo_relocation_7 : decode b_Mo_relocation 7 = .ok (.getfield 1010, 3) := by decide +kernel
theorem d_Mo_relocation_10 : decode b_Mo_relocation 10 = .ok (.invokestatic 1181, 3) := by decide +kernel
theorem d_Mo_relocation_13 : decode b_Mo_relocation 13 = .ok (.ifCond .eq 24, 3) := by decide +kernel
theorem d_Mo_relocation_37 : decode b_Mo_relocation 37 = .ok (.aload_n 0, 1) := by decide +kernel
theorem d_Mo_relocation_38 : decode b_Mo_relocation 38 = .ok (.iconst 1, 1) := by decide +kernel
theorem d_Mo_relocation_39 : decode b_Mo_relocation 39 = .ok (.invokevirtual 94, 3) := by decide +kernel
theorem d_Mo_relocation_42 : decode b_Mo_relocation 42 = .ok (.ireturn, 1) := by decide +kernel
set_option maxHeartbeats 4000000 in
set_option maxRecDepth 100000 in
theorem c_Mo_relocation_n (l : Launch) (D : va_G) (h0 : Nat) (qa : Nat → Nat) (p0 p1 p2 : Int32) (hk : p0 < 0) (sz : Nat) : Met l y_Mo_relocation (Cond.code y_Mo_relocation b_Mo_relocation 5 (some .int) :: bw) (xR 2 0 0) (va_Pc [.ref h0, .int p0, .int p1, .int p2] (xP D [] sz [(h0, .inr (7, [.int 0, .int 0, .int 0, .int 0, .int 0, .int 0, .int (-1), .int (-1), .int 0, .int 0, .int 0, .int 0, .int 0, .int 0, .int 0, .int 0, .ref (qa 0), .ref (qa 1), .ref (qa 2), .ref (qa 3), .int 0, .ref (qa 4), .ref (qa 5), .ref (qa 6), .ref (qa 7), .ref (qa 8), .ref (qa 9), .ref (qa 10), .ref (qa 11), .ref (qa 12), .ref (qa 13), .ref (qa 14), .ref (qa 15), .ref (qa 16), .ref (qa 17), .ref (qa 18), .ref (qa 19), .ref (qa 20), .int 0, .int 0, .int 0, .int 0, .long 0, .long 0, .long 0, .long 0, .long 0, .ref (qa 21), .int 0, .int 0, .int 0, .int 0]))])) (xQ (S := Unit) (fun _ => some (.int 0)) (fun _ => [(h0, .inr (7, [.int 1, .int 0, .int 0, .int 0, .int 0, .int 0, .int (-1), .int (-1), .int 0, .int 0, .int 0, .int 0, .int 0, .int 0, .int 0, .int 0, .ref (qa 0), .ref (qa 1), .ref (qa 2), .ref (qa 3), .int 0, .ref (qa 4), .ref (qa 5), .ref (qa 6), .ref (qa 7), .ref (qa 8), .ref (qa 9), .ref (qa 10), .ref (qa 11), .ref (qa 12), .ref (qa 13), .ref (qa 14), .ref (qa 15), .ref (qa 16), .ref (qa 17), .ref (qa 18), .ref (qa 19), .ref (qa 20), .int 0, .int 0, .int 0, .int 0, .long 0, .long 0, .long 0, .long 0, .long 0, .ref (qa 21), .int 0, .int 0, .int 0, .int 0]))]) (fun _ => []) D (va_A [(h0, .inr (7, [.int 0, .int 0, .int 0, .int 0, .int 0, .int 0, .int (-1), .int (-1), .int 0, .int 0, .int 0, .int 0, .int 0, .int 0, .int 0, .int 0, .ref (qa 0), .ref (qa 1), .ref (qa 2), .ref (qa 3), .int 0, .ref (qa 4), .ref (qa 5), .ref (qa 6), .ref (qa 7), .ref (qa 8), .ref (qa 9), .ref (qa 10), .ref (qa 11), .ref (qa 12), .ref (qa 13), .ref (qa 14), .ref (qa 15), .ref (qa 16), .ref (qa 17), .ref (qa 18), .ref (qa 19), .ref (qa 20), .int 0, .int 0, .int 0, .int 0, .long 0, .long 0, .long 0, .long 0, .long 0, .ref (qa 21), .int 0, .int 0, .int 0, .int 0]))] sz)) 0 0 (va_A [(h0, .inr (7, [.int 0, .int 0, .int 0, .int 0, .int 0, .int 0, .int (-1), .int (-1), .int 0, .int 0, .int 0, .int 0, .int 0, .int 0, .int 0, .int 0, .ref (qa 0), .ref (qa 1), .ref (qa 2), .ref (qa 3), .int 0, .ref (qa 4), .ref (qa 5), .ref (qa 6), .ref (qa 7), .ref (qa 8), .ref (qa 9), .ref (qa 10), .ref (qa 11), .ref (qa 12), .ref (qa 13), .ref (qa 14), .ref (qa 15), .ref (qa 16), .ref (qa 17), .ref (qa 18), .ref (qa 19), .ref (qa 20), .int 0, .int 0, .int 0, .int 0, .long 0, .long 0, .long 0, .long 0, .long 0, .ref (qa 21), .int 0, .int 0, .int 0, .int 0]))] sz) := by
  refine Met.ofW (cc := b_Mo_relocation) (maxL := 5) (ret := (some .int)) (by decide) rfl ?_
  intro p e s m args below meth c s₁ B hml hv
  obtain ⟨rfl, hsz, hP, hK, hD0, hN, hZ⟩ := hv
  have hx := B.exec
  have hb := B.bytes
  have hr := B.returns
  have hlocks := B.notSynchronized
  have hts : ∀ w ∈ bw, w.before _ s = true := fun w h => atoms_spec (ws := Cond.code y_Mo_relocation b_Mo_relocation 5 (some .int) :: bw) B.pre w (List.mem_cons_of_mem _ h)
  have hown : s.vm.findClass "ObjectForgeModel" = some m.cls := findClass_of_methodNamed B.named
  subst hsz
  have hP0 := hP
  have hD := hD0.self (sz := s.heap.size)
  generalize hAe : va_A [(h0, .inr (7, [.int 0, .int 0, .int 0, .int 0, .int 0, .int 0, .int (-1), .int (-1), .int 0, .int 0, .int 0, .int 0, .int 0, .int 0, .int 0, .int 0, .ref (qa 0), .ref (qa 1), .ref (qa 2), .ref (qa 3), .int 0, .ref (qa 4), .ref (qa 5), .ref (qa 6), .ref (qa 7), .ref (qa 8), .ref (qa 9), .ref (qa 10), .ref (qa 11), .ref (qa 12), .ref (qa 13), .ref (qa 14), .ref (qa 15), .ref (qa 16), .ref (qa 17), .ref (qa 18), .ref (qa 19), .ref (qa 20), .int 0, .int 0, .int 0, .int 0, .long 0, .long 0, .long 0, .long 0, .long 0, .ref (qa 21), .int 0, .int 0, .int 0, .int 0]))] s.heap.size = A at hD hZ ⊢
  have hA : ∀ q : Nat, s.heap.size ≤ q → A q := fun q h => by rw [← hAe]; exact Or.inr h
  have hS : va_S A s.heap s.heap [] := va_S.rf
  have hl := lv_entry ([.ref h0, .int p0, .int p1, .int p2]) (n := 5) (Nat.le_of_ble_eq_true rfl)
  rw [lg_entry_eq]
  generalize (lg_sl ([.ref h0, .int p0, .int p1, .int p2]) ++ List.replicate (5 - (lg_sl ([.ref h0, .int p0, .int p1, .int p2])).length) Slot.unset).toArray = ls at hl ⊢
  have hl : lv_has ls 5 [(0, .ref h0), (1, .int p0), (2, .int p1), (3, .int p2)] := hl
  refine lv_aload_n hx hb d_Mo_relocation_0 rfl (lv_at hl 0 rfl) ?_
  refine lv_iconst (v := 0) hx hb d_Mo_relocation_1 (by decide) ?_
  refine va_put (D := D) (ci := 7) (v := .int 0) (ty := .int) (C := R_Mo) (T := F_Mo) (N := 52) hx hb hts i_Mo t_Mo t_Mo_ok n_Mo hown hK hP hD hS 0 rfl rfl 0 (by decide) (hts _ w_397) (fun _ h9 => h9) rfl (by decide +kernel) rfl rfl (Nat.le_of_ble_eq_true rfl) d_Mo_relocation_2 (fun H locs hP hD hS => ?_)
  have hP : va_P D cls [(h0, .inr (7, [.int 0, .int 0, .int 0, .int 0, .int 0, .int 0, .int (-1), .int (-1), .int 0, .int 0, .int 0, .int 0, .int 0, .int 0, .int 0, .int 0, .ref (qa 0), .ref (qa 1), .ref (qa 2), .ref (qa 3), .int 0, .ref (qa 4), .ref (qa 5), .ref (qa 6), .ref (qa 7), .ref (qa 8), .ref (qa 9), .ref (qa 10), .ref (qa 11), .ref (qa 12), .ref (qa 13), .ref (qa 14), .ref (qa 15), .ref (qa 16), .ref (qa 17), .ref (qa 18), .ref (qa 19), .ref (qa 20), .int 0, .int 0, .int 0, .int 0, .long 0, .long 0, .long 0, .long 0, .long 0, .ref (qa 21), .int 0, .int 0, .int 0, .int 0]))] H := hP
  have hD : va_D A [(h0, .inr (7, [.int 0, .int 0, .int 0, .int 0, .int 0, .int 0, .int (-1), .int (-1), .int 0, .int 0, .int 0, .int 0, .int 0, .int 0, .int 0, .int 0, .ref (qa 0), .ref (qa 1), .ref (qa 2), .ref (qa 3), .int 0, .ref (qa 4), .ref (qa 5), .ref (qa 6), .ref (qa 7), .ref (qa 8), .ref (qa 9), .ref (qa 10), .ref (qa 11), .ref (qa 12), .ref (qa 13), .ref (qa 14), .ref (qa 15), .ref (qa 16), .ref (qa 17), .ref (qa 18), .ref (qa 19), .ref (qa 20), .int 0, .int 0, .int 0, .int 0, .long 0, .long 0, .long 0, .long 0, .long 0, .ref (qa 21), .int 0, .int 0, .int 0, .int 0]))] := hD
  refine lv_iload_n hx hb d_Mo_relocation_5 rfl (lv_at hl 1 rfl) ?_
  refine lv_aload_n hx hb d_Mo_relocation_6 rfl (lv_at hl 0 rfl) ?_
  refine va_get (D := D) (ci := 7) (v := .int 0) (C := R_Mo) (T := F_Mo) (N := 52) hx hb hts i_Mo hown hK hP 0 rfl rfl 2 (by decide) (hts _ w_400) (fun _ h9 => h9) rfl d_Mo_relocation_7 ?_
  refine xc_S (As := [.int p0, .int 0]) (rest := []) (n := 2) (wc := []) (wr := [(h0, .inr (7, [.int 0, .int 0, .int 0, .int 0, .int 0, .int 0, .int (-1), .int (-1), .int 0, .int 0, .int 0, .int 0, .int 0, .int 0, .int 0, .int 0, .ref (qa 0), .ref (qa 1), .ref (qa 2), .ref (qa 3), .int 0, .ref (qa 4), .ref (qa 5), .ref (qa 6), .ref (qa 7), .ref (qa 8), .ref (qa 9), .ref (qa 10), .ref (qa 11), .ref (qa 12), .ref (qa 13), .ref (qa 14), .ref (qa 15), .ref (qa 16), .ref (qa 17), .ref (qa 18), .ref (qa 19), .ref (qa 20), .int 0, .int 0, .int 0, .int 0, .long 0, .long 0, .long 0, .long 0, .long 0, .ref (qa 21), .int 0, .int 0, .int 0, .int 0]))]) (tc := []) (tr := []) ⟨hx, hb, hml, hown, hts⟩ (c_Mo_within_n l D p0 0 hk H.size) rfl rfl w_510 w_508 w_509 w_8 (by decide +kernel) ⟨Nat.le_of_ble_eq_true rfl, Nat.le_of_ble_eq_true rfl⟩ hP hD hK hS hA hN hZ [] [0] rfl rfl (by decide) (by decide) (by decide) [] [] rfl rfl rfl hl.1 rfl (Nat.le_of_ble_eq_true rfl) d_Mo_relocation_10 ⟨Nat.le_of_ble_eq_true rfl, Nat.le_of_ble_eq_true rfl⟩ (fun u1 H locs hP hD hK hS => ?_)
  have hP : va_P D cls [(h0, .inr (7, [.int 0, .int 0, .int 0, .int 0, .int 0, .int 0, .int (-1), .int (-1), .int 0, .int 0, .int 0, .int 0, .int 0, .int 0, .int 0, .int 0, .ref (qa 0), .ref (qa 1), .ref (qa 2), .ref (qa 3), .int 0, .ref (qa 4), .ref (qa 5), .ref (qa 6), .ref (qa 7), .ref (qa 8), .ref (qa 9), .ref (qa 10), .ref (qa 11), .ref (qa 12), .ref (qa 13), .ref (qa 14), .ref (qa 15), .ref (qa 16), .ref (qa 17), .ref (qa 18), .ref (qa 19), .ref (qa 20), .int 0, .int 0, .int 0, .int 0, .long 0, .long 0, .long 0, .long 0, .long 0, .ref (qa 21), .int 0, .int 0, .int 0, .int 0]))] H := hP
  have hD : va_D A [(h0, .inr (7, [.int 0, .int 0, .int 0, .int 0, .int 0, .int 0, .int (-1), .int (-1), .int 0, .int 0, .int 0, .int 0, .int 0, .int 0, .int 0, .int 0, .ref (qa 0), .ref (qa 1), .ref (qa 2), .ref (qa 3), .int 0, .ref (qa 4), .ref (qa 5), .ref (qa 6), .ref (qa 7), .ref (qa 8), .ref (qa 9), .ref (qa 10), .ref (qa 11), .ref (qa 12), .ref (qa 13), .ref (qa 14), .ref (qa 15), .ref (qa 16), .ref (qa 17), .ref (qa 18), .ref (qa 19), .ref (qa 20), .int 0, .int 0, .int 0, .int 0, .long 0, .long 0, .long 0, .long 0, .long 0, .ref (qa 21), .int 0, .int 0, .int 0, .int 0]))] := hD
  have hK : va_K D cls [] s := hK
  refine W.eq (g2 := F0 m 13 ls [.int 0]) rfl ?_
  refine lv_if_eq (tgt := 37) hx hb d_Mo_relocation_13 (by decide) (fun _ => ?_) (fun q9 => absurd (by decide : ((0 : Int32) = 0)) q9)
  refine lv_aload_n hx hb d_Mo_relocation_37 rfl (lv_at hl 0 rfl) ?_
  refine lv_iconst (v := 1) hx hb d_Mo_relocation_38 (by decide) ?_
  refine xc_V (As := [.int 1]) (rest := []) (n := 1) (wc := [(h0, .inr (7, [.int 0, .int 0, .int 0, .int 0, .int 0, .int 0, .int (-1), .int (-1), .int 0, .int 0, .int 0, .int 0, .int 0, .int 0, .int 0, .int 0, .ref (qa 0), .ref (qa 1), .ref (qa 2), .ref (qa 3), .int 0, .ref (qa 4), .ref (qa 5), .ref (qa 6), .ref (qa 7), .ref (qa 8), .ref (qa 9), .ref (qa 10), .ref (qa 11), .ref (qa 12), .ref (qa 13), .ref (qa 14), .ref (qa 15), .ref (qa 16), .ref (qa 17), .ref (qa 18), .ref (qa 19), .ref (qa 20), .int 0, .int 0, .int 0, .int 0, .long 0, .long 0, .long 0, .long 0, .long 0, .ref (qa 21), .int 0, .int 0, .int 0, .int 0]))]) (wr := []) (tc := []) (tr := []) ⟨hx, hb, hml, hown, hts⟩ (c_Mo_refuse_1 l D h0 qa H.size) rfl rfl w_452 w_450 w_451 w_557 w_8 (by decide +kernel) ⟨Nat.le_of_ble_eq_true rfl, Nat.le_of_ble_eq_true rfl⟩ hP hD hK hS hA hN hZ [0] [] rfl rfl (by decide) (by decide) (by decide) [] [] rfl rfl (ci := 7) (q0 := 0) (q := (R_Mo, F_Mo, 52)) rfl rfl rfl rfl hl.1 rfl (Nat.le_of_ble_eq_true rfl) d_Mo_relocation_39 ⟨Nat.le_of_ble_eq_true rfl, Nat.le_of_ble_eq_true rfl⟩ (fun u2 H locs hP hD hK hS => ?_)
  have hP : va_P D cls [(h0, .inr (7, [.int 1, .int 0, .int 0, .int 0, .int 0, .int 0, .int (-1), .int (-1), .int 0, .int 0, .int 0, .int 0, .int 0, .int 0, .int 0, .int 0, .ref (qa 0), .ref (qa 1), .ref (qa 2), .ref (qa 3), .int 0, .ref (qa 4), .ref (qa 5), .ref (qa 6), .ref (qa 7), .ref (qa 8), .ref (qa 9), .ref (qa 10), .ref (qa 11), .ref (qa 12), .ref (qa 13), .ref (qa 14), .ref (qa 15), .ref (qa 16), .ref (qa 17), .ref (qa 18), .ref (qa 19), .ref (qa 20), .int 0, .int 0, .int 0, .int 0, .long 0, .long 0, .long 0, .long 0, .long 0, .ref (qa 21), .int 0, .int 0, .int 0, .int 0]))] H := hP
  have hD : va_D A [(h0, .inr (7, [.int 1, .int 0, .int 0, .int 0, .int 0, .int 0, .int (-1), .int (-1), .int 0, .int 0, .int 0, .int 0, .int 0, .int 0, .int 0, .int 0, .ref (qa 0), .ref (qa 1), .ref (qa 2), .ref (qa 3), .int 0, .ref (qa 4), .ref (qa 5), .ref (qa 6), .ref (qa 7), .ref (qa 8), .ref (qa 9), .ref (qa 10), .ref (qa 11), .ref (qa 12), .ref (qa 13), .ref (qa 14), .ref (qa 15), .ref (qa 16), .ref (qa 17), .ref (qa 18), .ref (qa 19), .ref (qa 20), .int 0, .int 0, .int 0, .int 0, .long 0, .long 0, .long 0, .long 0, .long 0, .ref (qa 21), .int 0, .int 0, .int 0, .int 0]))] := hD
  have hK : va_K D cls [] s := hK
  refine W.eq (g2 := F0 m 42 ls [.int 0]) rfl ?_
  exact xr_i hx hb hr hlocks hP hD hK hS (()) [0] rfl rfl (by decide) [] rfl rfl d_Mo_relocation_42

set_option maxHeartbeats 4000000 in
set_option maxRecDepth 100000 in
theorem c_Mo_relocation_g (l : Launch) (D : va_G) (h0 : Nat) (qa : Nat → Nat) (p0 p1 p2 : Int32) (hk : ¬ p0 < 0) (hg : 0 ≤ p0) (sz : Nat) : Met l y_Mo_relocation (Cond.code y_Mo_relocation b_Mo_relocation 5 (some .int) :: bw) (xR 2 0 0) (va_Pc [.ref h0, .int p0, .int p1, .int p2] (xP D [] sz [(h0, .inr (7, [.int 0, .int 0, .int 0, .int 0, .int 0, .int 0, .int (-1), .int (-1), .int 0, .int 0, .int 0, .int 0, .int 0, .int 0, .int 0, .int 0, .ref (qa 0), .ref (qa 1), .ref (qa 2), .ref (qa 3), .int 0, .ref (qa 4), .ref (qa 5), .ref (qa 6), .ref (qa 7), .ref (qa 8), .ref (qa 9), .ref (qa 10), .ref (qa 11), .ref (qa 12), .ref (qa 13), .ref (qa 14), .ref (qa 15), .ref (qa 16), .ref (qa 17), .ref (qa 18), .ref (qa 19), .ref (qa 20), .int 0, .int 0, .int 0, .int 0, .long 0, .long 0, .long 0, .long 0, .long 0, .ref (qa 21), .int 0, .int 0, .int 0, .int 0]))])) (xQ (S := Unit) (fun _ => some (.int 0)) (fun _ => [(h0, .inr (7, [.int 1, .int 0, .int 0, .int 0, .int 0, .int 0, .int (-1), .int (-1), .int 0, .int 0, .int 0, .int 0, .int 0, .int 0, .int 0, .int 0, .ref (qa 0), .ref (qa 1), .ref (qa 2), .ref (qa 3), .int 0, .ref (qa 4), .ref (qa 5), .ref (qa 6), .ref (qa 7), .ref (qa 8), .ref (qa 9), .ref (qa 10), .ref (qa 11), .ref (qa 12), .ref (qa 13), .ref (qa 14), .ref (qa 15), .ref (qa 16), .ref (qa 17), .ref (qa 18), .ref (qa 19), .ref (qa 20), .int 0, .int 0, .int 0, .int 0, .long 0, .long 0, .long 0, .long 0, .long 0, .ref (qa 21), .int 0, .int 0, .int 0, .int 0]))]) (fun _ => []) D (va_A [(h0, .inr (7, [.int 0, .int 0, .int 0, .int 0, .int 0, .int 0, .int (-1), .int (-1), .int 0, .int 0, .int 0, .int 0, .int 0, .int 0, .int 0, .int 0, .ref (qa 0), .ref (qa 1), .ref (qa 2), .ref (qa 3), .int 0, .ref (qa 4), .ref (qa 5), .ref (qa 6), .ref (qa 7), .ref (qa 8), .ref (qa 9), .ref (qa 10), .ref (qa 11), .ref (qa 12), .ref (qa 13), .ref (qa 14), .ref (qa 15), .ref (qa 16), .ref (qa 17), .ref (qa 18), .ref (qa 19), .ref (qa 20), .int 0, .int 0, .int 0, .int 0, .long 0, .long 0, .long 0, .long 0, .long 0, .ref (qa 21), .int 0, .int 0, .int 0, .int 0]))] sz)) 0 0 (va_A [(h0, .inr (7, [.int 0, .int 0, .int 0, .int 0, .int 0, .int 0, .int (-1), .int (-1), .int 0, .int 0, .int 0, .int 0, .int 0, .int 0, .int 0, .int 0, .ref (qa 0), .ref (qa 1), .ref (qa 2), .ref (qa 3), .int 0, .ref (qa 4), .ref (qa 5), .ref (qa 6), .ref (qa 7), .ref (qa 8), .ref (qa 9), .ref (qa 10), .ref (qa 11), .ref (qa 12), .ref (qa 13), .ref (qa 14), .ref (qa 15), .ref (qa 16), .ref (qa 17), .ref (qa 18), .ref (qa 19), .ref (qa 20), .int 0, .int 0, .int 0, .int 0, .long 0, .long 0, .long 0, .long 0, .long 0, .ref (qa 21), .int 0, .int 0, .int 0, .int 0]))] sz) := by
  refine Met.ofW (cc := b_Mo_relocation) (maxL := 5) (ret := (some .int)) (by decide) rfl ?_
  intro p e s m args below meth c s₁ B hml hv
  obtain ⟨rfl, hsz, hP, hK, hD0, hN, hZ⟩ := hv
  have hx := B.exec
  have hb := B.bytes
  have hr := B.returns
  have hlocks := B.notSynchronized
  have hts : ∀ w ∈ bw, w.before _ s = true := fun w h => atoms_spec (ws := Cond.code y_Mo_relocation b_Mo_relocation 5 (some .int) :: bw) B.pre w (List.mem_cons_of_mem _ h)
  have hown : s.vm.findClass "ObjectForgeModel" = some m.cls := findClass_of_methodNamed B.named
  subst hsz
  have hP0 := hP
  have hD := hD0.self (sz := s.heap.size)
  generalize hAe : va_A [(h0, .inr (7, [.int 0, .int 0, .int 0, .int 0, .int 0, .int 0, .int (-1), .int (-1), .int 0, .int 0, .int 0, .int 0, .int 0, .int 0, .int 0, .int 0, .ref (qa 0), .ref (qa 1), .ref (qa 2), .ref (qa 3), .int 0, .ref (qa 4), .ref (qa 5), .ref (qa 6), .ref (qa 7), .ref (qa 8), .ref (qa 9), .ref (qa 10), .ref (qa 11), .ref (qa 12), .ref (qa 13), .ref (qa 14), .ref (qa 15), .ref (qa 16), .ref (qa 17), .ref (qa 18), .ref (qa 19), .ref (qa 20), .int 0, .int 0, .int 0, .int 0, .long 0, .long 0, .long 0, .long 0, .long 0, .ref (qa 21), .int 0, .int 0, .int 0, .int 0]))] s.heap.size = A at hD hZ ⊢
  have hA : ∀ q : Nat, s.heap.size ≤ q → A q := fun q h => by rw [← hAe]; exact Or.inr h
  have hS : va_S A s.heap s.heap [] := va_S.rf
  have hl := lv_entry ([.ref h0, .int p0, .int p1, .int p2]) (n := 5) (Nat.le_of_ble_eq_true rfl)
  rw [lg_entry_eq]
  generalize (lg_sl ([.ref h0, .int p0, .int p1, .int p2]) ++ List.replicate (5 - (lg_sl ([.ref h0, .int p0, .int p1, .int p2])).length) Slot.unset).toArray = ls at hl ⊢
  have hl : lv_has ls 5 [(0, .ref h0), (1, .int p0), (2, .int p1), (3, .int p2)] := hl
  refine lv_aload_n hx hb d_Mo_relocation_0 rfl (lv_at hl 0 rfl) ?_
  refine lv_iconst (v := 0) hx hb d_Mo_relocation_1 (by decide) ?_
  refine va_put (D := D) (ci := 7) (v := .int 0) (ty := .int) (C := R_Mo) (T := F_Mo) (N := 52) hx hb hts i_Mo t_Mo t_Mo_ok n_Mo hown hK hP hD hS 0 rfl rfl 0 (by decide) (hts _ w_397) (fun _ h9 => h9) rfl (by decide +kernel) rfl rfl (Nat.le_of_ble_eq_true rfl) d_Mo_relocation_2 (fun H locs hP hD hS => ?_)
  have hP : va_P D cls [(h0, .inr (7, [.int 0, .int 0, .int 0, .int 0, .int 0, .int 0, .int (-1), .int (-1), .int 0, .int 0, .int 0, .int 0, .int 0, .int 0, .int 0, .int 0, .ref (qa 0), .ref (qa 1), .ref (qa 2), .ref (qa 3), .int 0, .ref (qa 4), .ref (qa 5), .ref (qa 6), .ref (qa 7), .ref (qa 8), .ref (qa 9), .ref (qa 10), .ref (qa 11), .ref (qa 12), .ref (qa 13), .ref (qa 14), .ref (qa 15), .ref (qa 16), .ref (qa 17), .ref (qa 18), .ref (qa 19), .ref (qa 20), .int 0, .int 0, .int 0, .int 0, .long 0, .long 0, .long 0, .long 0, .long 0, .ref (qa 21), .int 0, .int 0, .int 0, .int 0]))] H := hP
  have hD : va_D A [(h0, .inr (7, [.int 0, .int 0, .int 0, .int 0, .int 0, .int 0, .int (-1), .int (-1), .int 0, .int 0, .int 0, .int 0, .int 0, .int 0, .int 0, .int 0, .ref (qa 0), .ref (qa 1), .ref (qa 2), .ref (qa 3), .int 0, .ref (qa 4), .ref (qa 5), .ref (qa 6), .ref (qa 7), .ref (qa 8), .ref (qa 9), .ref (qa 10), .ref (qa 11), .ref (qa 12), .ref (qa 13), .ref (qa 14), .ref (qa 15), .ref (qa 16), .ref (qa 17), .ref (qa 18), .ref (qa 19), .ref (qa 20), .int 0, .int 0, .int 0, .int 0, .long 0, .long 0, .long 0, .long 0, .long 0, .ref (qa 21), .int 0, .int 0, .int 0, .int 0]))] := hD
  refine lv_iload_n hx hb d_Mo_relocation_5 rfl (lv_at hl 1 rfl) ?_
  refine lv_aload_n hx hb d_Mo_relocation_6 rfl (lv_at hl 0 rfl) ?_
  refine va_get (D := D) (ci := 7) (v := .int 0) (C := R_Mo) (T := F_Mo) (N := 52) hx hb hts i_Mo hown hK hP 0 rfl rfl 2 (by decide) (hts _ w_400) (fun _ h9 => h9) rfl d_Mo_relocation_7 ?_
  refine xc_S (As := [.int p0, .int 0]) (rest := []) (n := 2) (wc := []) (wr := [(h0, .inr (7, [.int 0, .int 0, .int 0, .int 0, .int 0, .int 0, .int (-1), .int (-1), .int 0, .int 0, .int 0, .int 0, .int 0, .int 0, .int 0, .int 0, .ref (qa 0), .ref (qa 1), .ref (qa 2), .ref (qa 3), .int 0, .ref (qa 4), .ref (qa 5), .ref (qa 6), .ref (qa 7), .ref (qa 8), .ref (qa 9), .ref (qa 10), .ref (qa 11), .ref (qa 12), .ref (qa 13), .ref (qa 14), .ref (qa 15), .ref (qa 16), .ref (qa 17), .ref (qa 18), .ref (qa 19), .ref (qa 20), .int 0, .int 0, .int 0, .int 0, .long 0, .long 0, .long 0, .long 0, .long 0, .ref (qa 21), .int 0, .int 0, .int 0, .int 0]))]) (tc := []) (tr := []) ⟨hx, hb, hml, hown, hts⟩ (c_Mo_within_g l D p0 0 hk hg H.size) rfl rfl w_510 w_508 w_509 w_8 (by decide +kernel) ⟨Nat.le_of_ble_eq_true rfl, Nat.le_of_ble_eq_true rfl⟩ hP hD hK hS hA hN hZ [] [0] rfl rfl (by decide) (by decide) (by decide) [] [] rfl rfl rfl hl.1 rfl (Nat.le_of_ble_eq_true rfl) d_Mo_relocation_10 ⟨Nat.le_of_ble_eq_true rfl, Nat.le_of_ble_eq_true rfl⟩ (fun u1 H locs hP hD hK hS => ?_)
  have hP : va_P D cls [(h0, .inr (7, [.int 0, .int 0, .int 0, .int 0, .int 0, .int 0, .int (-1), .int (-1), .int 0, .int 0, .int 0, .int 0, .int 0, .int 0, .int 0, .int 0, .ref (qa 0), .ref (qa 1), .ref (qa 2), .ref (qa 3), .int 0, .ref (qa 4), .ref (qa 5), .ref (qa 6), .ref (qa 7), .ref (qa 8), .ref (qa 9), .ref (qa 10), .ref (qa 11), .ref (qa 12), .ref (qa 13), .ref (qa 14), .ref (qa 15), .ref (qa 16), .ref (qa 17), .ref (qa 18), .ref (qa 19), .ref (qa 20), .int 0, .int 0, .int 0, .int 0, .long 0, .long 0, .long 0, .long 0, .long 0, .ref (qa 21), .int 0, .int 0, .int 0, .int 0]))] H := hP
  have hD : va_D A [(h0, .inr (7, [.int 0, .int 0, .int 0, .int 0, .int 0, .int 0, .int (-1), .int (-1), .int 0, .int 0, .int 0, .int 0, .int 0, .int 0, .int 0, .int 0, .ref (qa 0), .ref (qa 1), .ref (qa 2), .ref (qa 3), .int 0, .ref (qa 4), .ref (qa 5), .ref (qa 6), .ref (qa 7), .ref (qa 8), .ref (qa 9), .ref (qa 10), .ref (qa 11), .ref (qa 12), .ref (qa 13), .ref (qa 14), .ref (qa 15), .ref (qa 16), .ref (qa 17), .ref (qa 18), .ref (qa 19), .ref (qa 20), .int 0, .int 0, .int 0, .int 0, .long 0, .long 0, .long 0, .long 0, .long 0, .ref (qa 21), .int 0, .int 0, .int 0, .int 0]))] := hD
  have hK : va_K D cls [] s := hK
  refine W.eq (g2 := F0 m 13 ls [.int 0]) rfl ?_
  refine lv_if_eq (tgt := 37) hx hb d_Mo_relocation_13 (by decide) (fun _ => ?_) (fun q9 => absurd (by decide : ((0 : Int32) = 0)) q9)
  refine lv_aload_n hx hb d_Mo_relocation_37 rfl (lv_at hl 0 rfl) ?_
  refine lv_iconst (v := 1) hx hb d_Mo_relocation_38 (by decide) ?_
  refine xc_V (As := [.int 1]) (rest := []) (n := 1) (wc := [(h0, .inr (7, [.int 0, .int 0, .int 0, .int 0, .int 0, .int 0, .int (-1), .int (-1), .int 0, .int 0, .int 0, .int 0, .int 0, .int 0, .int 0, .int 0, .ref (qa 0), .ref (qa 1), .ref (qa 2), .ref (qa 3), .int 0, .ref (qa 4), .ref (qa 5), .ref (qa 6), .ref (qa 7), .ref (qa 8), .ref (qa 9), .ref (qa 10), .ref (qa 11), .ref (qa 12), .ref (qa 13), .ref (qa 14), .ref (qa 15), .ref (qa 16), .ref (qa 17), .ref (qa 18), .ref (qa 19), .ref (qa 20), .int 0, .int 0, .int 0, .int 0, .long 0, .long 0, .long 0, .long 0, .long 0, .ref (qa 21), .int 0, .int 0, .int 0, .int 0]))]) (wr := []) (tc := []) (tr := []) ⟨hx, hb, hml, hown, hts⟩ (c_Mo_refuse_1 l D h0 qa H.size) rfl rfl w_452 w_450 w_451 w_557 w_8 (by decide +kernel) ⟨Nat.le_of_ble_eq_true rfl, Nat.le_of_ble_eq_true rfl⟩ hP hD hK hS hA hN hZ [0] [] rfl rfl (by decide) (by decide) (by decide) [] [] rfl rfl (ci := 7) (q0 := 0) (q := (R_Mo, F_Mo, 52)) rfl rfl rfl rfl hl.1 rfl (Nat.le_of_ble_eq_true rfl) d_Mo_relocation_39 ⟨Nat.le_of_ble_eq_true rfl, Nat.le_of_ble_eq_true rfl⟩ (fun u2 H locs hP hD hK hS => ?_)
  have hP : va_P D cls [(h0, .inr (7, [.int 1, .int 0, .int 0, .int 0, .int 0, .int 0, .int (-1), .int (-1), .int 0, .int 0, .int 0, .int 0, .int 0, .int 0, .int 0, .int 0, .ref (qa 0), .ref (qa 1), .ref (qa 2), .ref (qa 3), .int 0, .ref (qa 4), .ref (qa 5), .ref (qa 6), .ref (qa 7), .ref (qa 8), .ref (qa 9), .ref (qa 10), .ref (qa 11), .ref (qa 12), .ref (qa 13), .ref (qa 14), .ref (qa 15), .ref (qa 16), .ref (qa 17), .ref (qa 18), .ref (qa 19), .ref (qa 20), .int 0, .int 0, .int 0, .int 0, .long 0, .long 0, .long 0, .long 0, .long 0, .ref (qa 21), .int 0, .int 0, .int 0, .int 0]))] H := hP
  have hD : va_D A [(h0, .inr (7, [.int 1, .int 0, .int 0, .int 0, .int 0, .int 0, .int (-1), .int (-1), .int 0, .int 0, .int 0, .int 0, .int 0, .int 0, .int 0, .int 0, .ref (qa 0), .ref (qa 1), .ref (qa 2), .ref (qa 3), .int 0, .ref (qa 4), .ref (qa 5), .ref (qa 6), .ref (qa 7), .ref (qa 8), .ref (qa 9), .ref (qa 10), .ref (qa 11), .ref (qa 12), .ref (qa 13), .ref (qa 14), .ref (qa 15), .ref (qa 16), .ref (qa 17), .ref (qa 18), .ref (qa 19), .ref (qa 20), .int 0, .int 0, .int 0, .int 0, .long 0, .long 0, .long 0, .long 0, .long 0, .ref (qa 21), .int 0, .int 0, .int 0, .int 0]))] := hD
  have hK : va_K D cls [] s := hK
  refine W.eq (g2 := F0 m 42 ls [.int 0]) rfl ?_
  exact xr_i hx hb hr hlocks hP hD hK hS (()) [0] rfl rfl (by decide) [] rfl rfl d_Mo_relocation_42

theorem d_Mo_address_0 : decode b_Mo_address 0 = .ok (.aload_n 0, 1) := by decide +kernel
theorem d_Mo_address_1 : decode b_Mo_address 1 = .ok (.iconst 0, 1) := by decide +kernel
theorem d_Mo_address_2 : decode b_Mo_address 2 = .ok (.putfield 88, 3) := by decide +kernel
theorem d_Mo_address_5 : decode b_Mo_address 5 = .ok (.iload_n 1, 1) := by decide +kernel
theorem d_Mo_address_6 : decode b_Mo_address 6 = .ok (.aload_n 0, 1) := by decide +kernel
theorem d_Mo_address_7 : decode b_Mo_address 7 = .ok (.getfield 1010, 3) := by decide +kernel
theorem d_Mo_address_10 : decode b_Mo_address 10 = .ok (.invokestatic 1181, 3) := by decide +kernel
theorem d_Mo_address_13 : decode b_Mo_address 13 = .ok (.ifCond .eq 16, 3) := by decide +kernel
theorem d_Mo_address_29 : decode b_Mo_address 29 = .ok (.aload_n 0, 1) := by decide +kernel
theorem d_Mo_address_30 : decode b_Mo_address 30 = .ok (.iconst 1, 1) := by decide +kernel
theorem d_Mo_address_31 : decode b_Mo_address 31 = .ok (.invokevirtual 94, 3) := by decide +kernel
theorem d_Mo_address_34 : decode b_Mo_address 34 = .ok (.ireturn, 1) := by decide +kernel
set_option maxHeartbeats 4000000 in
set_option maxRecDepth 100000 in
theorem c_Mo_address_n (l : Launch) (D : va_G) (h0 : Nat) (qa : Nat → Nat) (p0 p1 : Int32) (hk : p0 < 0) (sz : Nat) : Met l y_Mo_address (Cond.code y_Mo_address b_Mo_address 3 (some .int) :: bw) (xR 2 0 0) (va_Pc [.ref h0, .int p0, .int p1] (xP D [] sz [(h0, .inr (7, [.int 0, .int 0, .int 0, .int 0, .int 0, .int 0, .int (-1), .int (-1), .int 0, .int 0, .int 0, .int 0, .int 0, .int 0, .int 0, .int 0, .ref (qa 0), .ref (qa 1), .ref (qa 2), .ref (qa 3), .int 0, .ref (qa 4), .ref (qa 5), .ref (qa 6), .ref (qa 7), .ref (qa 8), .ref (qa 9), .ref (qa 10), .ref (qa 11), .ref (qa 12), .ref (qa 13), .ref (qa 14), .ref (qa 15), .ref (qa 16), .ref (qa 17), .ref (qa 18), .ref (qa 19), .ref (qa 20), .int 0, .int 0, .int 0, .int 0, .long 0, .long 0, .long 0, .long 0, .long 0, .ref (qa 21), .int 0, .int 0, .int 0, .int 0]))])) (xQ (S := Unit) (fun _ => some (.int 0)) (fun _ => [(h0, .inr (7, [.int 1, .int 0, .int 0, .int 0, .int 0, .int 0, .int (-1), .int (-1), .int 0, .int 0, .int 0, .int 0, .int 0, .int 0, .int 0, .int 0, .ref (qa 0), .ref (qa 1), .ref (qa 2), .ref (qa 3), .int 0, .ref (qa 4), .ref (qa 5), .ref (qa 6), .ref (qa 7), .ref (qa 8), .ref (qa 9), .ref (qa 10), .ref (qa 11), .ref (qa 12), .ref (qa 13), .ref (qa 14), .ref (qa 15), .ref (qa 16), .ref (qa 17), .ref (qa 18), .ref (qa 19), .ref (qa 20), .int 0, .int 0, .int 0, .int 0, .long 0, .long 0, .long 0, .long 0, .long 0, .ref (qa 21), .int 0, .int 0, .int 0, .int 0]))]) (fun _ => []) D (va_A [(h0, .inr (7, [.int 0, .int 0, .int 0, .int 0, .int 0, .int 0, .int (-1), .int (-1), .int 0, .int 0, .int 0, .int 0, .int 0, .int 0, .int 0, .int 0, .ref (qa 0), .ref (qa 1), .ref (qa 2), .ref (qa 3), .int 0, .ref (qa 4), .ref (qa 5), .ref (qa 6), .ref (qa 7), .ref (qa 8), .ref (qa 9), .ref (qa 10), .ref (qa 11), .ref (qa 12), .ref (qa 13), .ref (qa 14), .ref (qa 15), .ref (qa 16), .ref (qa 17), .ref (qa 18), .ref (qa 19), .ref (qa 20), .int 0, .int 0, .int 0, .int 0, .long 0, .long 0, .long 0, .long 0, .long 0, .ref (qa 21), .int 0, .int 0, .int 0, .int 0]))] sz)) 0 0 (va_A [(h0, .inr (7, [.int 0, .int 0, .int 0, .int 0, .int 0, .int 0, .int (-1), .int (-1), .int 0, .int 0, .int 0, .int 0, .int 0, .int 0, .int 0, .int 0, .ref (qa 0), .ref (qa 1), .ref (qa 2), .ref (qa 3), .int 0, .ref (qa 4), .ref (qa 5), .ref (qa 6), .ref (qa 7), .ref (qa 8), .ref (qa 9), .ref (qa 10), .ref (qa 11), .ref (qa 12), .ref (qa 13), .ref (qa 14), .ref (qa 15), .ref (qa 16), .ref (qa 17), .ref (qa 18), .ref (qa 19), .ref (qa 20), .int 0, .int 0, .int 0, .int 0, .long 0, .long 0, .long 0, .long 0, .long 0, .ref (qa 21), .int 0, .int 0, .int 0, .int 0]))] sz) := by
  refine Met.ofW (cc := b_Mo_address) (maxL := 3) (ret := (some .int)) (by decide) rfl ?_
  intro p e s m args below meth c s₁ B hml hv
  obtain ⟨rfl, hsz, hP, hK, hD0, hN, hZ⟩ := hv
  have hx := B.exec
  have hb := B.bytes
  have hr := B.returns
  have hlocks := B.notSynchronized
  have hts : ∀ w ∈ bw, w.before _ s = true := fun w h => atoms_spec (ws := Cond.code y_Mo_address b_Mo_address 3 (some .int) :: bw) B.pre w (List.mem_cons_of_mem _ h)
  have hown : s.vm.findClass "ObjectForgeModel" = some m.cls := findClass_of_methodNamed B.named
  subst hsz
  have hP0 := hP
  have hD := hD0.self (sz := s.heap.size)
  generalize hAe : va_A [(h0, .inr (7, [.int 0, .int 0, .int 0, .int 0, .int 0, .int 0, .int (-1), .int (-1), .int 0, .int 0, .int 0, .int 0, .int 0, .int 0, .int 0, .int 0, .ref (qa 0), .ref (qa 1), .ref (qa 2), .ref (qa 3), .int 0, .ref (qa 4), .ref (qa 5), .ref (qa 6), .ref (qa 7), .ref (qa 8), .ref (qa 9), .ref (qa 10), .ref (qa 11), .ref (qa 12), .ref (qa 13), .ref (qa 14), .ref (qa 15), .ref (qa 16), .ref (qa 17), .ref (qa 18), .ref (qa 19), .ref (qa 20), .int 0, .int 0, .int 0, .int 0, .long 0, .long 0, .long 0, .long 0, .long 0, .ref (qa 21), .int 0, .int 0, .int 0, .int 0]))] s.heap.size = A at hD hZ ⊢
  have hA : ∀ q : Nat, s.heap.size ≤ q → A q := fun q h => by rw [← hAe]; exact Or.inr h
  have hS : va_S A s.heap s.heap [] := va_S.rf
  have hl := lv_entry ([.ref h0, .int p0, .int p1]) (n := 3) (Nat.le_of_ble_eq_true rfl)
  rw [lg_entry_eq]
  generalize (lg_sl ([.ref h0, .int p0, .int p1]) ++ List.replicate (3 - (lg_sl ([.ref h0, .int p0, .int p1])).length) Slot.unset).toArray = ls at hl ⊢
  have hl : lv_has ls 3 [(0, .ref h0), (1, .int p0), (2, .int p1)] := hl
  refine lv_aload_n hx hb d_Mo_address_0 rfl (lv_at hl 0 rfl) ?_
  refine lv_iconst (v := 0) hx hb d_Mo_address_1 (by decide) ?_
  refine va_put (D := D) (ci := 7) (v := .int 0) (ty := .int) (C := R_Mo) (T := F_Mo) (N := 52) hx hb hts i_Mo t_Mo t_Mo_ok n_Mo hown hK hP hD hS 0 rfl rfl 0 (by decide) (hts _ w_397) (fun _ h9 => h9) rfl (by decide +kernel) rfl rfl (Nat.le_of_ble_eq_true rfl) d_Mo_address_2 (fun H locs hP hD hS => ?_)
  have hP : va_P D cls [(h0, .inr (7, [.int 0, .int 0, .int 0, .int 0, .int 0, .int 0, .int (-1), .int (-1), .int 0, .int 0, .int 0, .int 0, .int 0, .int 0, .int 0, .int 0, .ref (qa 0), .ref (qa 1), .ref (qa 2), .ref (qa 3), .int 0, .ref (qa 4), .ref (qa 5), .ref (qa 6), .ref (qa 7), .ref (qa 8), .ref (qa 9), .ref (qa 10), .ref (qa 11), .ref (qa 12), .ref (qa 13), .ref (qa 14), .ref (qa 15), .ref (qa 16), .ref (qa 17), .ref (qa 18), .ref (qa 19), .ref (qa 20), .int 0, .int 0, .int 0, .int 0, .long 0, .long 0, .long 0, .long 0, .long 0, .ref (qa 21), .int 0, .int 0, .int 0, .int 0]))] H := hP
  have hD : va_D A [(h0, .inr (7, [.int 0, .int 0, .int 0, .int 0, .int 0, .int 0, .int (-1), .int (-1), .int 0, .int 0, .int 0, .int 0, .int 0, .int 0, .int 0, .int 0, .ref (qa 0), .ref (qa 1), .ref (qa 2), .ref (qa 3), .int 0, .ref (qa 4), .ref (qa 5), .ref (qa 6), .ref (qa 7), .ref (qa 8), .ref (qa 9), .ref (qa 10), .ref (qa 11), .ref (qa 12), .ref (qa 13), .ref (qa 14), .ref (qa 15), .ref (qa 16), .ref (qa 17), .ref (qa 18), .ref (qa 19), .ref (qa 20), .int 0, .int 0, .int 0, .int 0, .long 0, .long 0, .long 0, .long 0, .long 0, .ref (qa 21), .int 0, .int 0, .int 0, .int 0]))] := hD
  refine lv_iload_n hx hb d_Mo_address_5 rfl (lv_at hl 1 rfl) ?_
  refine lv_aload_n hx hb d_Mo_address_6 rfl (lv_at hl 0 rfl) ?_
  refine va_get (D := D) (ci := 7) (v := .int 0) (C := R_Mo) (T := F_Mo) (N := 52) hx hb hts i_Mo hown hK hP 0 rfl rfl 2 (by decide) (hts _ w_400) (fun _ h9 => h9) rfl d_Mo_address_7 ?_
  refine xc_S (As := [.int p0, .int 0]) (rest := []) (n := 2) (wc := []) (wr := [(h0, .inr (7, [.int 0, .int 0, .int 0, .int 0, .int 0, .int 0, .int (-1), .int (-1), .int 0, .int 0, .int 0, .int 0, .int 0, .int 0, .int 0, .int 0, .ref (qa 0), .ref (qa 1), .ref (qa 2), .ref (qa 3), .int 0, .ref (qa 4), .ref (qa 5), .ref (qa 6), .ref (qa 7), .ref (qa 8), .ref (qa 9), .ref (qa 10), .ref (qa 11), .ref (qa 12), .ref (qa 13), .ref (qa 14), .ref (qa 15), .ref (qa 16), .ref (qa 17), .ref (qa 18), .ref (qa 19), .ref (qa 20), .int 0, .int 0, .int 0, .int 0, .long 0, .long 0, .long 0, .long 0, .long 0, .ref (qa 21), .int 0, .int 0, .int 0, .int 0]))]) (tc := []) (tr := []) ⟨hx, hb, hml, hown, hts⟩ (c_Mo_within_n l D p0 0 hk H.size) rfl rfl w_510 w_508 w_509 w_8 (by decide +kernel) ⟨Nat.le_of_ble_eq_true rfl, Nat.le_of_ble_eq_true rfl⟩ hP hD hK hS hA hN hZ [] [0] rfl rfl (by decide) (by decide) (by decide) [] [] rfl rfl rfl hl.1 rfl (Nat.le_of_ble_eq_true rfl) d_Mo_address_10 ⟨Nat.le_of_ble_eq_true rfl, Nat.le_of_ble_eq_true rfl⟩ (fun u1 H locs hP hD hK hS => ?_)
  have hP : va_P D cls [(h0, .inr (7, [.int 0, .int 0, .int 0, .int 0, .int 0, .int 0, .int (-1), .int (-1), .int 0, .int 0, .int 0, .int 0, .int 0, .int 0, .int 0, .int 0, .ref (qa 0), .ref (qa 1), .ref (qa 2), .ref (qa 3), .int 0, .ref (qa 4), .ref (qa 5), .ref (qa 6), .ref (qa 7), .ref (qa 8), .ref (qa 9), .ref (qa 10), .ref (qa 11), .ref (qa 12), .ref (qa 13), .ref (qa 14), .ref (qa 15), .ref (qa 16), .ref (qa 17), .ref (qa 18), .ref (qa 19), .ref (qa 20), .int 0, .int 0, .int 0, .int 0, .long 0, .long 0, .long 0, .long 0, .long 0, .ref (qa 21), .int 0, .int 0, .int 0, .int 0]))] H := hP
  have hD : va_D A [(h0, .inr (7, [.int 0, .int 0, .int 0, .int 0, .int 0, .int 0, .int (-1), .int (-1), .int 0, .int 0, .int 0, .int 0, .int 0, .int 0, .int 0, .int 0, .ref (qa 0), .ref (qa 1), .ref (qa 2), .ref (qa 3), .int 0, .ref (qa 4), .ref (qa 5), .ref (qa 6), .ref (qa 7), .ref (qa 8), .ref (qa 9), .ref (qa 10), .ref (qa 11), .ref (qa 12), .ref (qa 13), .ref (qa 14), .ref (qa 15), .ref (qa 16), .ref (qa 17), .ref (qa 18), .ref (qa 19), .ref (qa 20), .int 0, .int 0, .int 0, .int 0, .long 0, .long 0, .long 0, .long 0, .long 0, .ref (qa 21), .int 0, .int 0, .int 0, .int 0]))] := hD
  have hK : va_K D cls [] s := hK
  refine W.eq (g2 := F0 m 13 ls [.int 0]) rfl ?_
  refine lv_if_eq (tgt := 29) hx hb d_Mo_address_13 (by decide) (fun _ => ?_) (fun q9 => absurd (by decide : ((0 : Int32) = 0)) q9)
  refine lv_aload_n hx hb d_Mo_address_29 rfl (lv_at hl 0 rfl) ?_
  refine lv_iconst (v := 1) hx hb d_Mo_address_30 (by decide) ?_
  refine xc_V (As := [.int 1]) (rest := []) (n := 1) (wc := [(h0, .inr (7, [.int 0, .int 0, .int 0, .int 0, .int 0, .int 0, .int (-1), .int (-1), .int 0, .int 0, .int 0, .int 0, .int 0, .int 0, .int 0, .int 0, .ref (qa 0), .ref (qa 1), .ref (qa 2), .ref (qa 3), .int 0, .ref (qa 4), .ref (qa 5), .ref (qa 6), .ref (qa 7), .ref (qa 8), .ref (qa 9), .ref (qa 10), .ref (qa 11), .ref (qa 12), .ref (qa 13), .ref (qa 14), .ref (qa 15), .ref (qa 16), .ref (qa 17), .ref (qa 18), .ref (qa 19), .ref (qa 20), .int 0, .int 0, .int 0, .int 0, .long 0, .long 0, .long 0, .long 0, .long 0, .ref (qa 21), .int 0, .int 0, .int 0, .int 0]))]) (wr := []) (tc := []) (tr := []) ⟨hx, hb, hml, hown, hts⟩ (c_Mo_refuse_1 l D h0 qa H.size) rfl rfl w_452 w_450 w_451 w_557 w_8 (by decide +kernel) ⟨Nat.le_of_ble_eq_true rfl, Nat.le_of_ble_eq_true rfl⟩ hP hD hK hS hA hN hZ [0] [] rfl rfl (by decide) (by decide) (by decide) [] [] rfl rfl (ci := 7) (q0 := 0) (q := (R_Mo, F_Mo, 52)) rfl rfl rfl rfl hl.1 rfl (Nat.le_of_ble_eq_true rfl) d_Mo_address_31 ⟨Nat.le_of_ble_eq_true rfl, Nat.le_of_ble_eq_true rfl⟩ (fun u2 H locs hP hD hK hS => ?_)
  have hP : va_P D cls [(h0, .inr (7, [.int 1, .int 0, .int 0, .int 0, .int 0, .int 0, .int (-1), .int (-1), .int 0, .int 0, .int 0, .int 0, .int 0, .int 0, .int 0, .int 0, .ref (qa 0), .ref (qa 1), .ref (qa 2), .ref (qa 3), .int 0, .ref (qa 4), .ref (qa 5), .ref (qa 6), .ref (qa 7), .ref (qa 8), .ref (qa 9), .ref (qa 10), .ref (qa 11), .ref (qa 12), .ref (qa 13), .ref (qa 14), .ref (qa 15), .ref (qa 16), .ref (qa 17), .ref (qa 18), .ref (qa 19), .ref (qa 20), .int 0, .int 0, .int 0, .int 0, .long 0, .long 0, .long 0, .long 0, .long 0, .ref (qa 21), .int 0, .int 0, .int 0, .int 0]))] H := hP
  have hD : va_D A [(h0, .inr (7, [.int 1, .int 0, .int 0, .int 0, .int 0, .int 0, .int (-1), .int (-1), .int 0, .int 0, .int 0, .int 0, .int 0, .int 0, .int 0, .int 0, .ref (qa 0), .ref (qa 1), .ref (qa 2), .ref (qa 3), .int 0, .ref (qa 4), .ref (qa 5), .ref (qa 6), .ref (qa 7), .ref (qa 8), .ref (qa 9), .ref (qa 10), .ref (qa 11), .ref (qa 12), .ref (qa 13), .ref (qa 14), .ref (qa 15), .ref (qa 16), .ref (qa 17), .ref (qa 18), .ref (qa 19), .ref (qa 20), .int 0, .int 0, .int 0, .int 0, .long 0, .long 0, .long 0, .long 0, .long 0, .ref (qa 21), .int 0, .int 0, .int 0, .int 0]))] := hD
  have hK : va_K D cls [] s := hK
  refine W.eq (g2 := F0 m 34 ls [.int 0]) rfl ?_
  exact xr_i hx hb hr hlocks hP hD hK hS (()) [0] rfl rfl (by decide) [] rfl rfl d_Mo_address_34

set_option maxHeartbeats 4000000 in
set_option maxRecDepth 100000 in
theorem c_Mo_address_g (l : Launch) (D : va_G) (h0 : Nat) (qa : Nat → Nat) (p0 p1 : Int32) (hk : ¬ p0 < 0) (hg : 0 ≤ p0) (sz : Nat) : Met l y_Mo_address (Cond.code y_Mo_address b_Mo_address 3 (some .int) :: bw) (xR 2 0 0) (va_Pc [.ref h0, .int p0, .int p1] (xP D [] sz [(h0, .inr (7, [.int 0, .int 0, .int 0, .int 0, .int 0, .int 0, .int (-1), .int (-1), .int 0, .int 0, .int 0, .int 0, .int 0, .int 0, .int 0, .int 0, .ref (qa 0), .ref (qa 1), .ref (qa 2), .ref (qa 3), .int 0, .ref (qa 4), .ref (qa 5), .ref (qa 6), .ref (qa 7), .ref (qa 8), .ref (qa 9), .ref (qa 10), .ref (qa 11), .ref (qa 12), .ref (qa 13), .ref (qa 14), .ref (qa 15), .ref (qa 16), .ref (qa 17), .ref (qa 18), .ref (qa 19), .ref (qa 20), .int 0, .int 0, .int 0, .int 0, .long 0, .long 0, .long 0, .long 0, .long 0, .ref (qa 21), .int 0, .int 0, .int 0, .int 0]))])) (xQ (S := Unit) (fun _ => some (.int 0)) (fun _ => [(h0, .inr (7, [.int 1, .int 0, .int 0, .int 0, .int 0, .int 0, .int (-1), .int (-1), .int 0, .int 0, .int 0, .int 0, .int 0, .int 0, .int 0, .int 0, .ref (qa 0), .ref (qa 1), .ref (qa 2), .ref (qa 3), .int 0, .ref (qa 4), .ref (qa 5), .ref (qa 6), .ref (qa 7), .ref (qa 8), .ref (qa 9), .ref (qa 10), .ref (qa 11), .ref (qa 12), .ref (qa 13), .ref (qa 14), .ref (qa 15), .ref (qa 16), .ref (qa 17), .ref (qa 18), .ref (qa 19), .ref (qa 20), .int 0, .int 0, .int 0, .int 0, .long 0, .long 0, .long 0, .long 0, .long 0, .ref (qa 21), .int 0, .int 0, .int 0, .int 0]))]) (fun _ => []) D (va_A [(h0, .inr (7, [.int 0, .int 0, .int 0, .int 0, .int 0, .int 0, .int (-1), .int (-1), .int 0, .int 0, .int 0, .int 0, .int 0, .int 0, .int 0, .int 0, .ref (qa 0), .ref (qa 1), .ref (qa 2), .ref (qa 3), .int 0, .ref (qa 4), .ref (qa 5), .ref (qa 6), .ref (qa 7), .ref (qa 8), .ref (qa 9), .ref (qa 10), .ref (qa 11), .ref (qa 12), .ref (qa 13), .ref (qa 14), .ref (qa 15), .ref (qa 16), .ref (qa 17), .ref (qa 18), .ref (qa 19), .ref (qa 20), .int 0, .int 0, .int 0, .int 0, .long 0, .long 0, .long 0, .long 0, .long 0, .ref (qa 21), .int 0, .int 0, .int 0, .int 0]))] sz)) 0 0 (va_A [(h0, .inr (7, [.int 0, .int 0, .int 0, .int 0, .int 0, .int 0, .int (-1), .int (-1), .int 0, .int 0, .int 0, .int 0, .int 0, .int 0, .int 0, .int 0, .ref (qa 0), .ref (qa 1), .ref (qa 2), .ref (qa 3), .int 0, .ref (qa 4), .ref (qa 5), .ref (qa 6), .ref (qa 7), .ref (qa 8), .ref (qa 9), .ref (qa 10), .ref (qa 11), .ref (qa 12), .ref (qa 13), .ref (qa 14), .ref (qa 15), .ref (qa 16), .ref (qa 17), .ref (qa 18), .ref (qa 19), .ref (qa 20), .int 0, .int 0, .int 0, .int 0, .long 0, .long 0, .long 0, .long 0, .long 0, .ref (qa 21), .int 0, .int 0, .int 0, .int 0]))] sz) := by
  refine Met.ofW (cc := b_Mo_address) (maxL := 3) (ret := (some .int)) (by decide) rfl ?_
  intro p e s m args below meth c s₁ B hml hv
  obtain ⟨rfl, hsz, hP, hK, hD0, hN, hZ⟩ := hv
  have hx := B.exec
  have hb := B.bytes
  have hr := B.returns
  have hlocks := B.notSynchronized
  have hts : ∀ w ∈ bw, w.before _ s = true := fun w h => atoms_spec (ws := Cond.code y_Mo_address b_Mo_address 3 (some .int) :: bw) B.pre w (List.mem_cons_of_mem _ h)
  have hown : s.vm.findClass "ObjectForgeModel" = some m.cls := findClass_of_methodNamed B.named
  subst hsz
  have hP0 := hP
  have hD := hD0.self (sz := s.heap.size)
  generalize hAe : va_A [(h0, .inr (7, [.int 0, .int 0, .int 0, .int 0, .int 0, .int 0, .int (-1), .int (-1), .int 0, .int 0, .int 0, .int 0, .int 0, .int 0, .int 0, .int 0, .ref (qa 0), .ref (qa 1), .ref (qa 2), .ref (qa 3), .int 0, .ref (qa 4), .ref (qa 5), .ref (qa 6), .ref (qa 7), .ref (qa 8), .ref (qa 9), .ref (qa 10), .ref (qa 11), .ref (qa 12), .ref (qa 13), .ref (qa 14), .ref (qa 15), .ref (qa 16), .ref (qa 17), .ref (qa 18), .ref (qa 19), .ref (qa 20), .int 0, .int 0, .int 0, .int 0, .long 0, .long 0, .long 0, .long 0, .long 0, .ref (qa 21), .int 0, .int 0, .int 0, .int 0]))] s.heap.size = A at hD hZ ⊢
  have hA : ∀ q : Nat, s.heap.size ≤ q → A q := fun q h => by rw [← hAe]; exact Or.inr h
  have hS : va_S A s.heap s.heap [] := va_S.rf
  have hl := lv_entry ([.ref h0, .int p0, .int p1]) (n := 3) (Nat.le_of_ble_eq_true rfl)
  rw [lg_entry_eq]
  generalize (lg_sl ([.ref h0, .int p0, .int p1]) ++ List.replicate (3 - (lg_sl ([.ref h0, .int p0, .int p1])).length) Slot.unset).toArray = ls at hl ⊢
  have hl : lv_has ls 3 [(0, .ref h0), (1, .int p0), (2, .int p1)] := hl
  refine lv_aload_n hx hb d_Mo_address_0 rfl (lv_at hl 0 rfl) ?_
  refine lv_iconst (v := 0) hx hb d_Mo_address_1 (by decide) ?_
  refine va_put (D := D) (ci := 7) (v := .int 0) (ty := .int) (C := R_Mo) (T := F_Mo) (N := 52) hx hb hts i_Mo t_Mo t_Mo_ok n_Mo hown hK hP hD hS 0 rfl rfl 0 (by decide) (hts _ w_397) (fun _ h9 => h9) rfl (by decide +kernel) rfl rfl (Nat.le_of_ble_eq_true rfl) d_Mo_address_2 (fun H locs hP hD hS => ?_)
  have hP : va_P D cls [(h0, .inr (7, [.int 0, .int 0, .int 0, .int 0, .int 0, .int 0, .int (-1), .int (-1), .int 0, .int 0, .int 0, .int 0, .int 0, .int 0, .int 0, .int 0, .ref (qa 0), .ref (qa 1), .ref (qa 2), .ref (qa 3), .int 0, .ref (qa 4), .ref (qa 5), .ref (qa 6), .ref (qa 7), .ref (qa 8), .ref (qa 9), .ref (qa 10), .ref (qa 11), .ref (qa 12), .ref (qa 13), .ref (qa 14), .ref (qa 15), .ref (qa 16), .ref (qa 17), .ref (qa 18), .ref (qa 19), .ref (qa 20), .int 0, .int 0, .int 0, .int 0, .long 0, .long 0, .long 0, .long 0, .long 0, .ref (qa 21), .int 0, .int 0, .int 0, .int 0]))] H := hP
  have hD : va_D A [(h0, .inr (7, [.int 0, .int 0, .int 0, .int 0, .int 0, .int 0, .int (-1), .int (-1), .int 0, .int 0, .int 0, .int 0, .int 0, .int 0, .int 0, .int 0, .ref (qa 0), .ref (qa 1), .ref (qa 2), .ref (qa 3), .int 0, .ref (qa 4), .ref (qa 5), .ref (qa 6), .ref (qa 7), .ref (qa 8), .ref (qa 9), .ref (qa 10), .ref (qa 11), .ref (qa 12), .ref (qa 13), .ref (qa 14), .ref (qa 15), .ref (qa 16), .ref (qa 17), .ref (qa 18), .ref (qa 19), .ref (qa 20), .int 0, .int 0, .int 0, .int 0, .long 0, .long 0, .long 0, .long 0, .long 0, .ref (qa 21), .int 0, .int 0, .int 0, .int 0]))] := hD
  refine lv_iload_n hx hb d_Mo_address_5 rfl (lv_at hl 1 rfl) ?_
  refine lv_aload_n hx hb d_Mo_address_6 rfl (lv_at hl 0 rfl) ?_
  refine va_get (D := D) (ci := 7) (v := .int 0) (C := R_Mo) (T := F_Mo) (N := 52) hx hb hts i_Mo hown hK hP 0 rfl rfl 2 (by decide) (hts _ w_400) (fun _ h9 => h9) rfl d_Mo_address_7 ?_
  refine xc_S (As := [.int p0, .int 0]) (rest := []) (n := 2) (wc := []) (wr := [(h0, .inr (7, [.int 0, .int 0, .int 0, .int 0, .int 0, .int 0, .int (-1), .int (-1), .int 0, .int 0, .int 0, .int 0, .int 0, .int 0, .int 0, .int 0, .ref (qa 0), .ref (qa 1), .ref (qa 2), .ref (qa 3), .int 0, .ref (qa 4), .ref (qa 5), .ref (qa 6), .ref (qa 7), .ref (qa 8), .ref (qa 9), .ref (qa 10), .ref (qa 11), .ref (qa 12), .ref (qa 13), .ref (qa 14), .ref (qa 15), .ref (qa 16), .ref (qa 17), .ref (qa 18), .ref (qa 19), .ref (qa 20), .int 0, .int 0, .int 0, .int 0, .long 0, .long 0, .long 0, .long 0, .long 0, .ref (qa 21), .int 0, .int 0, .int 0, .int 0]))]) (tc := []) (tr := []) ⟨hx, hb, hml, hown, hts⟩ (c_Mo_within_g l D p0 0 hk hg H.size) rfl rfl w_510 w_508 w_509 w_8 (by decide +kernel) ⟨Nat.le_of_ble_eq_true rfl, Nat.le_of_ble_eq_true rfl⟩ hP hD hK hS hA hN hZ [] [0] rfl rfl (by decide) (by decide) (by decide) [] [] rfl rfl rfl hl.1 rfl (Nat.le_of_ble_eq_true rfl) d_Mo_address_10 ⟨Nat.le_of_ble_eq_true rfl, Nat.le_of_ble_eq_true rfl⟩ (fun u1 H locs hP hD hK hS => ?_)
  have hP : va_P D cls [(h0, .inr (7, [.int 0, .int 0, .int 0, .int 0, .int 0, .int 0, .int (-1), .int (-1), .int 0, .int 0, .int 0, .int 0, .int 0, .int 0, .int 0, .int 0, .ref (qa 0), .ref (qa 1), .ref (qa 2), .ref (qa 3), .int 0, .ref (qa 4), .ref (qa 5), .ref (qa 6), .ref (qa 7), .ref (qa 8), .ref (qa 9), .ref (qa 10), .ref (qa 11), .ref (qa 12), .ref (qa 13), .ref (qa 14), .ref (qa 15), .ref (qa 16), .ref (qa 17), .ref (qa 18), .ref (qa 19), .ref (qa 20), .int 0, .int 0, .int 0, .int 0, .long 0, .long 0, .long 0, .long 0, .long 0, .ref (qa 21), .int 0, .int 0, .int 0, .int 0]))] H := hP
  have hD : va_D A [(h0, .inr (7, [.int 0, .int 0, .int 0, .int 0, .int 0, .int 0, .int (-1), .int (-1), .int 0, .int 0, .int 0, .int 0, .int 0, .int 0, .int 0, .int 0, .ref (qa 0), .ref (qa 1), .ref (qa 2), .ref (qa 3), .int 0, .ref (qa 4), .ref (qa 5), .ref (qa 6), .ref (qa 7), .ref (qa 8), .ref (qa 9), .ref (qa 10), .ref (qa 11), .ref (qa 12), .ref (qa 13), .ref (qa 14), .ref (qa 15), .ref (qa 16), .ref (qa 17), .ref (qa 18), .ref (qa 19), .ref (qa 20), .int 0, .int 0, .int 0, .int 0, .long 0, .long 0, .long 0, .long 0, .long 0, .ref (qa 21), .int 0, .int 0, .int 0, .int 0]))] := hD
  have hK : va_K D cls [] s := hK
  refine W.eq (g2 := F0 m 13 ls [.int 0]) rfl ?_
  refine lv_if_eq (tgt := 29) hx hb d_Mo_address_13 (by decide) (fun _ => ?_) (fun q9 => absurd (by decide : ((0 : Int32) = 0)) q9)
  refine lv_aload_n hx hb d_Mo_address_29 rfl (lv_at hl 0 rfl) ?_
  refine lv_iconst (v := 1) hx hb d_Mo_address_30 (by decide) ?_
  refine xc_V (As := [.int 1]) (rest := []) (n := 1) (wc := [(h0, .inr (7, [.int 0, .int 0, .int 0, .int 0, .int 0, .int 0, .int (-1), .int (-1), .int 0, .int 0, .int 0, .int 0, .int 0, .int 0, .int 0, .int 0, .ref (qa 0), .ref (qa 1), .ref (qa 2), .ref (qa 3), .int 0, .ref (qa 4), .ref (qa 5), .ref (qa 6), .ref (qa 7), .ref (qa 8), .ref (qa 9), .ref (qa 10), .ref (qa 11), .ref (qa 12), .ref (qa 13), .ref (qa 14), .ref (qa 15), .ref (qa 16), .ref (qa 17), .ref (qa 18), .ref (qa 19), .ref (qa 20), .int 0, .int 0, .int 0, .int 0, .long 0, .long 0, .long 0, .long 0, .long 0, .ref (qa 21), .int 0, .int 0, .int 0, .int 0]))]) (wr := []) (tc := []) (tr := []) ⟨hx, hb, hml, hown, hts⟩ (c_Mo_refuse_1 l D h0 qa H.size) rfl rfl w_452 w_450 w_451 w_557 w_8 (by decide +kernel) ⟨Nat.le_of_ble_eq_true rfl, Nat.le_of_ble_eq_true rfl⟩ hP hD hK hS hA hN hZ [0] [] rfl rfl (by decide) (by decide) (by decide) [] [] rfl rfl (ci := 7) (q0 := 0) (q := (R_Mo, F_Mo, 52)) rfl rfl rfl rfl hl.1 rfl (Nat.le_of_ble_eq_true rfl) d_Mo_address_31 ⟨Nat.le_of_ble_eq_true rfl, Nat.le_of_ble_eq_true rfl⟩ (fun u2 H locs hP hD hK hS => ?_)
  have hP : va_P D cls [(h0, .inr (7, [.int 1, .int 0, .int 0, .int 0, .int 0, .int 0, .int (-1), .int (-1), .int 0, .int 0, .int 0, .int 0, .int 0, .int 0, .int 0, .int 0, .ref (qa 0), .ref (qa 1), .ref (qa 2), .ref (qa 3), .int 0, .ref (qa 4), .ref (qa 5), .ref (qa 6), .ref (qa 7), .ref (qa 8), .ref (qa 9), .ref (qa 10), .ref (qa 11), .ref (qa 12), .ref (qa 13), .ref (qa 14), .ref (qa 15), .ref (qa 16), .ref (qa 17), .ref (qa 18), .ref (qa 19), .ref (qa 20), .int 0, .int 0, .int 0, .int 0, .long 0, .long 0, .long 0, .long 0, .long 0, .ref (qa 21), .int 0, .int 0, .int 0, .int 0]))] H := hP
  have hD : va_D A [(h0, .inr (7, [.int 1, .int 0, .int 0, .int 0, .int 0, .int 0, .int (-1), .int (-1), .int 0, .int 0, .int 0, .int 0, .int 0, .int 0, .int 0, .int 0, .ref (qa 0), .ref (qa 1), .ref (qa 2), .ref (qa 3), .int 0, .ref (qa 4), .ref (qa 5), .ref (qa 6), .ref (qa 7), .ref (qa 8), .ref (qa 9), .ref (qa 10), .ref (qa 11), .ref (qa 12), .ref (qa 13), .ref (qa 14), .ref (qa 15), .ref (qa 16), .ref (qa 17), .ref (qa 18), .ref (qa 19), .ref (qa 20), .int 0, .int 0, .int 0, .int 0, .long 0, .long 0, .long 0, .long 0, .long 0, .ref (qa 21), .int 0, .int 0, .int 0, .int 0]))] := hD
  have hK : va_K D cls [] s := hK
  refine W.eq (g2 := F0 m 34 ls [.int 0]) rfl ?_
  exact xr_i hx hb hr hlocks hP hD hK hS (()) [0] rfl rfl (by decide) [] rfl rfl d_Mo_address_34

theorem d_Mo_end_0 : decode b_Mo_end 0 = .ok (.aload_n 0, 1) := by decide +kernel
theorem d_Mo_end_1 : decode b_Mo_end 1 = .ok (.iconst 0, 1) := by decide +kernel
theorem d_Mo_end_2 : decode b_Mo_end 2 = .ok (.putfield 88, 3) := by decide +kernel
theorem d_Mo_end_5 : decode b_Mo_end 5 = .ok (.iload_n 1, 1) := by decide +kernel
theorem d_Mo_end_6 : decode b_Mo_end 6 = .ok (.ifCond .lt 17, 3) := by decide +kernel
theorem d_Mo_end_9 : decode b_Mo_end 9 = .ok (.iload_n 1, 1) := by decide +kernel
theorem d_Mo_end_10 : decode b_Mo_end 10 = .ok (.bipush 15, 2) := by decide +kernel
theorem d_Mo_end_12 : decode b_Mo_end 12 = .ok (.if_icmp .gt 11, 3) := by decide +kernel
theorem d_Mo_end_15 : decode b_Mo_end 15 = .ok (.iload_n 1, 1) := by decide +kernel
theorem d_Mo_end_16 : decode b_Mo_end 16 = .ok (.aload_n 0, 1) := by decide +kernel
theorem d_Mo_end_17 : decode b_Mo_end 17 = .ok (.getfield 91, 3) := by decide +kernel
theorem d_Mo_end_20 : decode b_Mo_end 20 = .ok (.if_icmp .le 9, 3) := by decide +kernel
theorem d_Mo_end_29 : decode b_Mo_end 29 = .ok (.aload_n 0, 1) := by decide +kernel
theorem d_Mo_end_30 : decode b_Mo_end 30 = .ok (.dup, 1) := by decide +kernel
theorem d_Mo_end_31 : decode b_Mo_end 31 = .ok (.getfield 91, 3) := by decide +kernel
theorem d_Mo_end_34 : decode b_Mo_end 34 = .ok (.iload_n 1, 1) := by decide +kernel
theorem d_Mo_end_35 : decode b_Mo_end 35 = .ok (.isub, 1) := by decide +kernel
theorem d_Mo_end_36 : decode b_Mo_end 36 = .ok (.putfield 91, 3) := by decide +kernel
theorem d_Mo_end_39 : decode b_Mo_end 39 = .ok (.aload_n 0, 1) := by decide +kernel
theorem d_Mo_end_40 : decode b_Mo_end 40 = .ok (.getfield 91, 3) := by decide +kernel
theorem d_Mo_end_43 : decode b_Mo_end 43 = .ok (.ireturn, 1) := by decide +kernel
set_option maxHeartbeats 4000000 in
set_option maxRecDepth 100000 in
theorem c_Mo_end_0 (l : Launch) (D : va_G) (h0 : Nat) (qa : Nat → Nat) (sz : Nat) : Met l y_Mo_end (Cond.code y_Mo_end b_Mo_end 2 (some .int) :: bw) (xR 1 0 0) (va_Pc [.ref h0, .int 0] (xP D [] sz [(h0, .inr (7, [.int 0, .int 0, .int 0, .int 0, .int 0, .int 0, .int (-1), .int (-1), .int 0, .int 0, .int 0, .int 0, .int 0, .int 0, .int 0, .int 0, .ref (qa 0), .ref (qa 1), .ref (qa 2), .ref (qa 3), .int 0, .ref (qa 4), .ref (qa 5), .ref (qa 6), .ref (qa 7), .ref (qa 8), .ref (qa 9), .ref (qa 10), .ref (qa 11), .ref (qa 12), .ref (qa 13), .ref (qa 14), .ref (qa 15), .ref (qa 16), .ref (qa 17), .ref (qa 18), .ref (qa 19), .ref (qa 20), .int 0, .int 0, .int 0, .int 0, .long 0, .long 0, .long 0, .long 0, .long 0, .ref (qa 21), .int 0, .int 0, .int 0, .int 0]))])) (xQ (S := Unit) (fun _ => some (.int 0)) (fun _ => [(h0, .inr (7, [.int 0, .int 0, .int 0, .int 0, .int 0, .int 0, .int (-1), .int (-1), .int 0, .int 0, .int 0, .int 0, .int 0, .int 0, .int 0, .int 0, .ref (qa 0), .ref (qa 1), .ref (qa 2), .ref (qa 3), .int 0, .ref (qa 4), .ref (qa 5), .ref (qa 6), .ref (qa 7), .ref (qa 8), .ref (qa 9), .ref (qa 10), .ref (qa 11), .ref (qa 12), .ref (qa 13), .ref (qa 14), .ref (qa 15), .ref (qa 16), .ref (qa 17), .ref (qa 18), .ref (qa 19), .ref (qa 20), .int 0, .int 0, .int 0, .int 0, .long 0, .long 0, .long 0, .long 0, .long 0, .ref (qa 21), .int 0, .int 0, .int 0, .int 0]))]) (fun _ => []) D (va_A [(h0, .inr (7, [.int 0, .int 0, .int 0, .int 0, .int 0, .int 0, .int (-1), .int (-1), .int 0, .int 0, .int 0, .int 0, .int 0, .int 0, .int 0, .int 0, .ref (qa 0), .ref (qa 1), .ref (qa 2), .ref (qa 3), .int 0, .ref (qa 4), .ref (qa 5), .ref (qa 6), .ref (qa 7), .ref (qa 8), .ref (qa 9), .ref (qa 10), .ref (qa 11), .ref (qa 12), .ref (qa 13), .ref (qa 14), .ref (qa 15), .ref (qa 16), .ref (qa 17), .ref (qa 18), .ref (qa 19), .ref (qa 20), .int 0, .int 0, .int 0, .int 0, .long 0, .long 0, .long 0, .long 0, .long 0, .ref (qa 21), .int 0, .int 0, .int 0, .int 0]))] sz)) 0 0 (va_A [(h0, .inr (7, [.int 0, .int 0, .int 0, .int 0, .int 0, .int 0, .int (-1), .int (-1), .int 0, .int 0, .int 0, .int 0, .int 0, .int 0, .int 0, .int 0, .ref (qa 0), .ref (qa 1), .ref (qa 2), .ref (qa 3), .int 0, .ref (qa 4), .ref (qa 5), .ref (qa 6), .ref (qa 7), .ref (qa 8), .ref (qa 9), .ref (qa 10), .ref (qa 11), .ref (qa 12), .ref (qa 13), .ref (qa 14), .ref (qa 15), .ref (qa 16), .ref (qa 17), .ref (qa 18), .ref (qa 19), .ref (qa 20), .int 0, .int 0, .int 0, .int 0, .long 0, .long 0, .long 0, .long 0, .long 0, .ref (qa 21), .int 0, .int 0, .int 0, .int 0]))] sz) := by
  refine Met.ofW (cc := b_Mo_end) (maxL := 2) (ret := (some .int)) (by decide) rfl ?_
  intro p e s m args below meth c s₁ B hml hv
  obtain ⟨rfl, hsz, hP, hK, hD0, hN, hZ⟩ := hv
  have hx := B.exec
  have hb := B.bytes
  have hr := B.returns
  have hlocks := B.notSynchronized
  have hts : ∀ w ∈ bw, w.before _ s = true := fun w h => atoms_spec (ws := Cond.code y_Mo_end b_Mo_end 2 (some .int) :: bw) B.pre w (List.mem_cons_of_mem _ h)
  have hown : s.vm.findClass "ObjectForgeModel" = some m.cls := findClass_of_methodNamed B.named
  subst hsz
  have hP0 := hP
  have hD := hD0.self (sz := s.heap.size)
  generalize hAe : va_A [(h0, .inr (7, [.int 0, .int 0, .int 0, .int 0, .int 0, .int 0, .int (-1), .int (-1), .int 0, .int 0, .int 0, .int 0, .int 0, .int 0, .int 0, .int 0, .ref (qa 0), .ref (qa 1), .ref (qa 2), .ref (qa 3), .int 0, .ref (qa 4), .ref (qa 5), .ref (qa 6), .ref (qa 7), .ref (qa 8), .ref (qa 9), .ref (qa 10), .ref (qa 11), .ref (qa 12), .ref (qa 13), .ref (qa 14), .ref (qa 15), .ref (qa 16), .ref (qa 17), .ref (qa 18), .ref (qa 19), .ref (qa 20), .int 0, .int 0, .int 0, .int 0, .long 0, .long 0, .long 0, .long 0, .long 0, .ref (qa 21), .int 0, .int 0, .int 0, .int 0]))] s.heap.size = A at hD hZ ⊢
  have hA : ∀ q : Nat, s.heap.size ≤ q → A q := fun q h => by rw [← hAe]; exact Or.inr h
  have hS : va_S A s.heap s.heap [] := va_S.rf
  have hl := lv_entry ([.ref h0, .int 0]) (n := 2) (Nat.le_of_ble_eq_true rfl)
  rw [lg_entry_eq]
  generalize (lg_sl ([.ref h0, .int 0]) ++ List.replicate (2 - (lg_sl ([.ref h0, .int 0])).length) Slot.unset).toArray = ls at hl ⊢
  have hl : lv_has ls 2 [(0, .ref h0), (1, .int 0)] := hl
  refine lv_aload_n hx hb d_Mo_end_0 rfl (lv_at hl 0 rfl) ?_
  refine lv_iconst (v := 0) hx hb d_Mo_end_1 (by decide) ?_
  refine va_put (D := D) (ci := 7) (v := .int 0) (ty := .int) (C := R_Mo) (T := F_Mo) (N := 52) hx hb hts i_Mo t_Mo t_Mo_ok n_Mo hown hK hP hD hS 0 rfl rfl 0 (by decide) (hts _ w_397) (fun _ h9 => h9) rfl (by decide +kernel) rfl rfl (Nat.le_of_ble_eq_true rfl) d_Mo_end_2 (fun H locs hP hD hS => ?_)
  have hP : va_P D cls [(h0, .inr (7, [.int 0, .int 0, .int 0, .int 0, .int 0, .int 0, .int (-1), .int (-1), .int 0, .int 0, .int 0, .int 0, .int 0, .int 0, .int 0, .int 0, .ref (qa 0), .ref (qa 1), .ref (qa 2), .ref (qa 3), .int 0, .ref (qa 4), .ref (qa 5), .ref (qa 6), .ref (qa 7), .ref (qa 8), .ref (qa 9), .ref (qa 10), .ref (qa 11), .ref (qa 12), .ref (qa 13), .ref (qa 14), .ref (qa 15), .ref (qa 16), .ref (qa 17), .ref (qa 18), .ref (qa 19), .ref (qa 20), .int 0, .int 0, .int 0, .int 0, .long 0, .long 0, .long 0, .long 0, .long 0, .ref (qa 21), .int 0, .int 0, .int 0, .int 0]))] H := hP
  have hD : va_D A [(h0, .inr (7, [.int 0, .int 0, .int 0, .int 0, .int 0, .int 0, .int (-1), .int (-1), .int 0, .int 0, .int 0, .int 0, .int 0, .int 0, .int 0, .int 0, .ref (qa 0), .ref (qa 1), .ref (qa 2), .ref (qa 3), .int 0, .ref (qa 4), .ref (qa 5), .ref (qa 6), .ref (qa 7), .ref (qa 8), .ref (qa 9), .ref (qa 10), .ref (qa 11), .ref (qa 12), .ref (qa 13), .ref (qa 14), .ref (qa 15), .ref (qa 16), .ref (qa 17), .ref (qa 18), .ref (qa 19), .ref (qa 20), .int 0, .int 0, .int 0, .int 0, .long 0, .long 0, .long 0, .long 0, .long 0, .ref (qa 21), .int 0, .int 0, .int 0, .int 0]))] := hD
  refine lv_iload_n hx hb d_Mo_end_5 rfl (lv_at hl 1 rfl) ?_
  refine lv_if_lt (tgt := 23) hx hb d_Mo_end_6 (by decide) (fun q9 => absurd q9 (by decide : ¬ ((0 : Int32) < 0))) (fun _ => ?_)
  refine lv_iload_n hx hb d_Mo_end_9 rfl (lv_at hl 1 rfl) ?_
  refine lv_bipush (v := 15) hx hb d_Mo_end_10 (by decide) ?_
  refine lv_icmp_gt (tgt := 23) hx hb d_Mo_end_12 (by decide) (fun q9 => absurd q9 (by decide : ¬ ((15 : Int32) < 0))) (fun _ => ?_)
  refine lv_iload_n hx hb d_Mo_end_15 rfl (lv_at hl 1 rfl) ?_
  refine lv_aload_n hx hb d_Mo_end_16 rfl (lv_at hl 0 rfl) ?_
  refine va_get (D := D) (ci := 7) (v := .int 0) (C := R_Mo) (T := F_Mo) (N := 52) hx hb hts i_Mo hown hK hP 0 rfl rfl 1 (by decide) (hts _ w_398) (fun _ h9 => h9) rfl d_Mo_end_17 ?_
  refine lv_icmp_le (tgt := 29) hx hb d_Mo_end_20 (by decide) (fun _ => ?_) (fun q9 => absurd (by decide : ((0 : Int32) ≤ 0)) q9)
  refine lv_aload_n hx hb d_Mo_end_29 rfl (lv_at hl 0 rfl) ?_
  refine lv_dup hx hb d_Mo_end_30 rfl ?_
  refine va_get (D := D) (ci := 7) (v := .int 0) (C := R_Mo) (T := F_Mo) (N := 52) hx hb hts i_Mo hown hK hP 0 rfl rfl 1 (by decide) (hts _ w_398) (fun _ h9 => h9) rfl d_Mo_end_31 ?_
  refine lv_iload_n hx hb d_Mo_end_34 rfl (lv_at hl 1 rfl) ?_
  refine lv_isub hx hb d_Mo_end_35 ?_
  refine lv_topi (fun z1 ez1 => ?_)
  obtain rfl : z1 = 0 := ez1.trans (by decide)
  refine va_put (D := D) (ci := 7) (v := .int 0) (ty := .int) (C := R_Mo) (T := F_Mo) (N := 52) hx hb hts i_Mo t_Mo t_Mo_ok n_Mo hown hK hP hD hS 0 rfl rfl 1 (by decide) (hts _ w_398) (fun _ h9 => h9) rfl (by decide +kernel) rfl rfl (Nat.le_of_ble_eq_true rfl) d_Mo_end_36 (fun H locs hP hD hS => ?_)
  have hP : va_P D cls [(h0, .inr (7, [.int 0, .int 0, .int 0, .int 0, .int 0, .int 0, .int (-1), .int (-1), .int 0, .int 0, .int 0, .int 0, .int 0, .int 0, .int 0, .int 0, .ref (qa 0), .ref (qa 1), .ref (qa 2), .ref (qa 3), .int 0, .ref (qa 4), .ref (qa 5), .ref (qa 6), .ref (qa 7), .ref (qa 8), .ref (qa 9), .ref (qa 10), .ref (qa 11), .ref (qa 12), .ref (qa 13), .ref (qa 14), .ref (qa 15), .ref (qa 16), .ref (qa 17), .ref (qa 18), .ref (qa 19), .ref (qa 20), .int 0, .int 0, .int 0, .int 0, .long 0, .long 0, .long 0, .long 0, .long 0, .ref (qa 21), .int 0, .int 0, .int 0, .int 0]))] H := hP
  have hD : va_D A [(h0, .inr (7, [.int 0, .int 0, .int 0, .int 0, .int 0, .int 0, .int (-1), .int (-1), .int 0, .int 0, .int 0, .int 0, .int 0, .int 0, .int 0, .int 0, .ref (qa 0), .ref (qa 1), .ref (qa 2), .ref (qa 3), .int 0, .ref (qa 4), .ref (qa 5), .ref (qa 6), .ref (qa 7), .ref (qa 8), .ref (qa 9), .ref (qa 10), .ref (qa 11), .ref (qa 12), .ref (qa 13), .ref (qa 14), .ref (qa 15), .ref (qa 16), .ref (qa 17), .ref (qa 18), .ref (qa 19), .ref (qa 20), .int 0, .int 0, .int 0, .int 0, .long 0, .long 0, .long 0, .long 0, .long 0, .ref (qa 21), .int 0, .int 0, .int 0, .int 0]))] := hD
  refine lv_aload_n hx hb d_Mo_end_39 rfl (lv_at hl 0 rfl) ?_
  refine va_get (D := D) (ci := 7) (v := .int 0) (C := R_Mo) (T := F_Mo) (N := 52) hx hb hts i_Mo hown hK hP 0 rfl rfl 1 (by decide) (hts _ w_398) (fun _ h9 => h9) rfl d_Mo_end_40 ?_
  exact xr_i hx hb hr hlocks hP hD hK hS (()) [0] rfl rfl (by decide) [] rfl rfl d_Mo_end_43

theorem d_Mo_end_23 : decode b_Mo_end 23 = .ok (.aload_n 0, 1) := by decide +kernel
theorem d_Mo_end_24 : decode b_Mo_end 24 = .ok (.iconst 1, 1) := by decide +kernel
theorem d_Mo_end_25 : decode b_Mo_end 25 = .ok (.invokevirtual 94, 3) := by decide +kernel
theorem d_Mo_end_28 : decode b_Mo_end 28 = .ok (.ireturn, 1) := by decide +kernel
set_option maxHeartbeats 4000000 in
set_option maxRecDepth 100000 in
theorem c_Mo_end_n (l : Launch) (D : va_G) (h0 : Nat) (qa : Nat → Nat) (p0 : Int32) (h1 : p0 < 0) (sz : Nat) : Met l y_Mo_end (Cond.code y_Mo_end b_Mo_end 2 (some .int) :: bw) (xR 2 0 0) (va_Pc [.ref h0, .int p0] (xP D [] sz [(h0, .inr (7, [.int 0, .int 0, .int 0, .int 0, .int 0, .int 0, .int (-1), .int (-1), .int 0, .int 0, .int 0, .int 0, .int 0, .int 0, .int 0, .int 0, .ref (qa 0), .ref (qa 1), .ref (qa 2), .ref (qa 3), .int 0, .ref (qa 4), .ref (qa 5), .ref (qa 6), .ref (qa 7), .ref (qa 8), .ref (qa 9), .ref (qa 10), .ref (qa 11), .ref (qa 12), .ref (qa 13), .ref (qa 14), .ref (qa 15), .ref (qa 16), .ref (qa 17), .ref (qa 18), .ref (qa 19), .ref (qa 20), .int 0, .int 0, .int 0, .int 0, .long 0, .long 0, .long 0, .long 0, .long 0, .ref (qa 21), .int 0, .int 0, .int 0, .int 0]))])) (xQ (S := Unit) (fun _ => some (.int 0)) (fun _ => [(h0, .inr (7, [.int 1, .int 0, .int 0, .int 0, .int 0, .int 0, .int (-1), .int (-1), .int 0, .int 0, .int 0, .int 0, .int 0, .int 0, .int 0, .int 0, .ref (qa 0), .ref (qa 1), .ref (qa 2), .ref (qa 3), .int 0, .ref (qa 4), .ref (qa 5), .ref (qa 6), .ref (qa 7), .ref (qa 8), .ref (qa 9), .ref (qa 10), .ref (qa 11), .ref (qa 12), .ref (qa 13), .ref (qa 14), .ref (qa 15), .ref (qa 16), .ref (qa 17), .ref (qa 18), .ref (qa 19), .ref (qa 20), .int 0, .int 0, .int 0, .int 0, .long 0, .long 0, .long 0, .long 0, .long 0, .ref (qa 21), .int 0, .int 0, .int 0, .int 0]))]) (fun _ => []) D (va_A [(h0, .inr (7, [.int 0, .int 0, .int 0, .int 0, .int 0, .int 0, .int (-1), .int (-1), .int 0, .int 0, .int 0, .int 0, .int 0, .int 0, .int 0, .int 0, .ref (qa 0), .ref (qa 1), .ref (qa 2), .ref (qa 3), .int 0, .ref (qa 4), .ref (qa 5), .ref (qa 6), .ref (qa 7), .ref (qa 8), .ref (qa 9), .ref (qa 10), .ref (qa 11), .ref (qa 12), .ref (qa 13), .ref (qa 14), .ref (qa 15), .ref (qa 16), .ref (qa 17), .ref (qa 18), .ref (qa 19), .ref (qa 20), .int 0, .int 0, .int 0, .int 0, .long 0, .long 0, .long 0, .long 0, .long 0, .ref (qa 21), .int 0, .int 0, .int 0, .int 0]))] sz)) 0 0 (va_A [(h0, .inr (7, [.int 0, .int 0, .int 0, .int 0, .int 0, .int 0, .int (-1), .int (-1), .int 0, .int 0, .int 0, .int 0, .int 0, .int 0, .int 0, .int 0, .ref (qa 0), .ref (qa 1), .ref (qa 2), .ref (qa 3), .int 0, .ref (qa 4), .ref (qa 5), .ref (qa 6), .ref (qa 7), .ref (qa 8), .ref (qa 9), .ref (qa 10), .ref (qa 11), .ref (qa 12), .ref (qa 13), .ref (qa 14), .ref (qa 15), .ref (qa 16), .ref (qa 17), .ref (qa 18), .ref (qa 19), .ref (qa 20), .int 0, .int 0, .int 0, .int 0, .long 0, .long 0, .long 0, .long 0, .long 0, .ref (qa 21), .int 0, .int 0, .int 0, .int 0]))] sz) := by
  refine Met.ofW (cc := b_Mo_end) (maxL := 2) (ret := (some .int)) (by decide) rfl ?_
  intro p e s m args below meth c s₁ B hml hv
  obtain ⟨rfl, hsz, hP, hK, hD0, hN, hZ⟩ := hv
  have hx := B.exec
  have hb := B.bytes
  have hr := B.returns
  have hlocks := B.notSynchronized
  have hts : ∀ w ∈ bw, w.before _ s = true := fun w h => atoms_spec (ws := Cond.code y_Mo_end b_Mo_end 2 (some .int) :: bw) B.pre w (List.mem_cons_of_mem _ h)
  have hown : s.vm.findClass "ObjectForgeModel" = some m.cls := findClass_of_methodNamed B.named
  subst hsz
  have hP0 := hP
  have hD := hD0.self (sz := s.heap.size)
  generalize hAe : va_A [(h0, .inr (7, [.int 0, .int 0, .int 0, .int 0, .int 0, .int 0, .int (-1), .int (-1), .int 0, .int 0, .int 0, .int 0, .int 0, .int 0, .int 0, .int 0, .ref (qa 0), .ref (qa 1), .ref (qa 2), .ref (qa 3), .int 0, .ref (qa 4), .ref (qa 5), .ref (qa 6), .ref (qa 7), .ref (qa 8), .ref (qa 9), .ref (qa 10), .ref (qa 11), .ref (qa 12), .ref (qa 13), .ref (qa 14), .ref (qa 15), .ref (qa 16), .ref (qa 17), .ref (qa 18), .ref (qa 19), .ref (qa 20), .int 0, .int 0, .int 0, .int 0, .long 0, .long 0, .long 0, .long 0, .long 0, .ref (qa 21), .int 0, .int 0, .int 0, .int 0]))] s.heap.size = A at hD hZ ⊢
  have hA : ∀ q : Nat, s.heap.size ≤ q → A q := fun q h => by rw [← hAe]; exact Or.inr h
  have hS : va_S A s.heap s.heap [] := va_S.rf
  have hl := lv_entry ([.ref h0, .int p0]) (n := 2) (Nat.le_of_ble_eq_true rfl)
  rw [lg_entry_eq]
  generalize (lg_sl ([.ref h0, .int p0]) ++ List.replicate (2 - (lg_sl ([.ref h0, .int p0])).length) Slot.unset).toArray = ls at hl ⊢
  have hl : lv_has ls 2 [(0, .ref h0), (1, .int p0)] := hl
  refine lv_aload_n hx hb d_Mo_end_0 rfl (lv_at hl 0 rfl) ?_
  refine lv_iconst (v := 0) hx hb d_Mo_end_1 (by decide) ?_
  refine va_put (D := D) (ci := 7) (v := .int 0) (ty := .int) (C := R_Mo) (T := F_Mo) (N := 52) hx hb hts i_Mo t_Mo t_Mo_ok n_Mo hown hK hP hD hS 0 rfl rfl 0 (by decide) (hts _ w_397) (fun _ h9 => h9) rfl (by decide +kernel) rfl rfl (Nat.le_of_ble_eq_true rfl) d_Mo_end_2 (fun H locs hP hD hS => ?_)
  have hP : va_P D cls [(h0, .inr (7, [.int 0, .int 0, .int 0, .int 0, .int 0, .int 0, .int (-1), .int (-1), .int 0, .int 0, .int 0, .int 0, .int 0, .int 0, .int 0, .int 0, .ref (qa 0), .ref (qa 1), .ref (qa 2), .ref (qa 3), .int 0, .ref (qa 4), .ref (qa 5), .ref (qa 6), .ref (qa 7), .ref (qa 8), .ref (qa 9), .ref (qa 10), .ref (qa 11), .ref (qa 12), .ref (qa 13), .ref (qa 14), .ref (qa 15), .ref (qa 16), .ref (qa 17), .ref (qa 18), .ref (qa 19), .ref (qa 20), .int 0, .int 0, .int 0, .int 0, .long 0, .long 0, .long 0, .long 0, .long 0, .ref (qa 21), .int 0, .int 0, .int 0, .int 0]))] H := hP
  have hD : va_D A [(h0, .inr (7, [.int 0, .int 0, .int 0, .int 0, .int 0, .int 0, .int (-1), .int (-1), .int 0, .int 0, .int 0, .int 0, .int 0, .int 0, .int 0, .int 0, .ref (qa 0), .ref (qa 1), .ref (qa 2), .ref (qa 3), .int 0, .ref (qa 4), .ref (qa 5), .ref (qa 6), .ref (qa 7), .ref (qa 8), .ref (qa 9), .ref (qa 10), .ref (qa 11), .ref (qa 12), .ref (qa 13), .ref (qa 14), .ref (qa 15), .ref (qa 16), .ref (qa 17), .ref (qa 18), .ref (qa 19), .ref (qa 20), .int 0, .int 0, .int 0, .int 0, .long 0, .long 0, .long 0, .long 0, .long 0, .ref (qa 21), .int 0, .int 0, .int 0, .int 0]))] := hD
  refine lv_iload_n hx hb d_Mo_end_5 rfl (lv_at hl 1 rfl) ?_
  refine lv_if_lt (tgt := 23) hx hb d_Mo_end_6 (by decide) (fun _ => ?_) (fun q9 => absurd h1 q9)
  refine lv_aload_n hx hb d_Mo_end_23 rfl (lv_at hl 0 rfl) ?_
  refine lv_iconst (v := 1) hx hb d_Mo_end_24 (by decide) ?_
  refine xc_V (As := [.int 1]) (rest := []) (n := 1) (wc := [(h0, .inr (7, [.int 0, .int 0, .int 0, .int 0, .int 0, .int 0, .int (-1), .int (-1), .int 0, .int 0, .int 0, .int 0, .int 0, .int 0, .int 0, .int 0, .ref (qa 0), .ref (qa 1), .ref (qa 2), .ref (qa 3), .int 0, .ref (qa 4), .ref (qa 5), .ref (qa 6), .ref (qa 7), .ref (qa 8), .ref (qa 9), .ref (qa 10), .ref (qa 11), .ref (qa 12), .ref (qa 13), .ref (qa 14), .ref (qa 15), .ref (qa 16), .ref (qa 17), .ref (qa 18), .ref (qa 19), .ref (qa 20), .int 0, .int 0, .int 0, .int 0, .long 0, .long 0, .long 0, .long 0, .long 0, .ref (qa 21), .int 0, .int 0, .int 0, .int 0]))]) (wr := []) (tc := []) (tr := []) ⟨hx, hb, hml, hown, hts⟩ (c_Mo_refuse_1 l D h0 qa H.size) rfl rfl w_452 w_450 w_451 w_557 w_8 (by decide +kernel) ⟨Nat.le_of_ble_eq_true rfl, Nat.le_of_ble_eq_true rfl⟩ hP hD hK hS hA hN hZ [0] [] rfl rfl (by decide) (by decide) (by decide) [] [] rfl rfl (ci := 7) (q0 := 0) (q := (R_Mo, F_Mo, 52)) rfl rfl rfl rfl hl.1 rfl (Nat.le_of_ble_eq_true rfl) d_Mo_end_25 ⟨Nat.le_of_ble_eq_true rfl, Nat.le_of_ble_eq_true rfl⟩ (fun u1 H locs hP hD hK hS => ?_)
  have hP : va_P D cls [(h0, .inr (7, [.int 1, .int 0, .int 0, .int 0, .int 0, .int 0, .int (-1), .int (-1), .int 0, .int 0, .int 0, .int 0, .int 0, .int 0, .int 0, .int 0, .ref (qa 0), .ref (qa 1), .ref (qa 2), .ref (qa 3), .int 0, .ref (qa 4), .ref (qa 5), .ref (qa 6), .ref (qa 7), .ref (qa 8), .ref (qa 9), .ref (qa 10), .ref (qa 11), .ref (qa 12), .ref (qa 13), .ref (qa 14), .ref (qa 15), .ref (qa 16), .ref (qa 17), .ref (qa 18), .ref (qa 19), .ref (qa 20), .int 0, .int 0, .int 0, .int 0, .long 0, .long 0, .long 0, .long 0, .long 0, .ref (qa 21), .int 0, .int 0, .int 0, .int 0]))] H := hP
  have hD : va_D A [(h0, .inr (7, [.int 1, .int 0, .int 0, .int 0, .int 0, .int 0, .int (-1), .int (-1), .int 0, .int 0, .int 0, .int 0, .int 0, .int 0, .int 0, .int 0, .ref (qa 0), .ref (qa 1), .ref (qa 2), .ref (qa 3), .int 0, .ref (qa 4), .ref (qa 5), .ref (qa 6), .ref (qa 7), .ref (qa 8), .ref (qa 9), .ref (qa 10), .ref (qa 11), .ref (qa 12), .ref (qa 13), .ref (qa 14), .ref (qa 15), .ref (qa 16), .ref (qa 17), .ref (qa 18), .ref (qa 19), .ref (qa 20), .int 0, .int 0, .int 0, .int 0, .long 0, .long 0, .long 0, .long 0, .long 0, .ref (qa 21), .int 0, .int 0, .int 0, .int 0]))] := hD
  have hK : va_K D cls [] s := hK
  refine W.eq (g2 := F0 m 28 ls [.int 0]) rfl ?_
  exact xr_i hx hb hr hlocks hP hD hK hS (()) [0] rfl rfl (by decide) [] rfl rfl d_Mo_end_28

set_option maxHeartbeats 4000000 in
set_option maxRecDepth 100000 in
theorem c_Mo_end_b (l : Launch) (D : va_G) (h0 : Nat) (qa : Nat → Nat) (p0 : Int32) (h1 : ¬ p0 < 0) (h2 : 15 < p0) (sz : Nat) : Met l y_Mo_end (Cond.code y_Mo_end b_Mo_end 2 (some .int) :: bw) (xR 2 0 0) (va_Pc [.ref h0, .int p0] (xP D [] sz [(h0, .inr (7, [.int 0, .int 0, .int 0, .int 0, .int 0, .int 0, .int (-1), .int (-1), .int 0, .int 0, .int 0, .int 0, .int 0, .int 0, .int 0, .int 0, .ref (qa 0), .ref (qa 1), .ref (qa 2), .ref (qa 3), .int 0, .ref (qa 4), .ref (qa 5), .ref (qa 6), .ref (qa 7), .ref (qa 8), .ref (qa 9), .ref (qa 10), .ref (qa 11), .ref (qa 12), .ref (qa 13), .ref (qa 14), .ref (qa 15), .ref (qa 16), .ref (qa 17), .ref (qa 18), .ref (qa 19), .ref (qa 20), .int 0, .int 0, .int 0, .int 0, .long 0, .long 0, .long 0, .long 0, .long 0, .ref (qa 21), .int 0, .int 0, .int 0, .int 0]))])) (xQ (S := Unit) (fun _ => some (.int 0)) (fun _ => [(h0, .inr (7, [.int 1, .int 0, .int 0, .int 0, .int 0, .int 0, .int (-1), .int (-1), .int 0, .int 0, .int 0, .int 0, .int 0, .int 0, .int 0, .int 0, .ref (qa 0), .ref (qa 1), .ref (qa 2), .ref (qa 3), .int 0, .ref (qa 4), .ref (qa 5), .ref (qa 6), .ref (qa 7), .ref (qa 8), .ref (qa 9), .ref (qa 10), .ref (qa 11), .ref (qa 12), .ref (qa 13), .ref (qa 14), .ref (qa 15), .ref (qa 16), .ref (qa 17), .ref (qa 18), .ref (qa 19), .ref (qa 20), .int 0, .int 0, .int 0, .int 0, .long 0, .long 0, .long 0, .long 0, .long 0, .ref (qa 21), .int 0, .int 0, .int 0, .int 0]))]) (fun _ => []) D (va_A [(h0, .inr (7, [.int 0, .int 0, .int 0, .int 0, .int 0, .int 0, .int (-1), .int (-1), .int 0, .int 0, .int 0, .int 0, .int 0, .int 0, .int 0, .int 0, .ref (qa 0), .ref (qa 1), .ref (qa 2), .ref (qa 3), .int 0, .ref (qa 4), .ref (qa 5), .ref (qa 6), .ref (qa 7), .ref (qa 8), .ref (qa 9), .ref (qa 10), .ref (qa 11), .ref (qa 12), .ref (qa 13), .ref (qa 14), .ref (qa 15), .ref (qa 16), .ref (qa 17), .ref (qa 18), .ref (qa 19), .ref (qa 20), .int 0, .int 0, .int 0, .int 0, .long 0, .long 0, .long 0, .long 0, .long 0, .ref (qa 21), .int 0, .int 0, .int 0, .int 0]))] sz)) 0 0 (va_A [(h0, .inr (7, [.int 0, .int 0, .int 0, .int 0, .int 0, .int 0, .int (-1), .int (-1), .int 0, .int 0, .int 0, .int 0, .int 0, .int 0, .int 0, .int 0, .ref (qa 0), .ref (qa 1), .ref (qa 2), .ref (qa 3), .int 0, .ref (qa 4), .ref (qa 5), .ref (qa 6), .ref (qa 7), .ref (qa 8), .ref (qa 9), .ref (qa 10), .ref (qa 11), .ref (qa 12), .ref (qa 13), .ref (qa 14), .ref (qa 15), .ref (qa 16), .ref (qa 17), .ref (qa 18), .ref (qa 19), .ref (qa 20), .int 0, .int 0, .int 0, .int 0, .long 0, .long 0, .long 0, .long 0, .long 0, .ref (qa 21), .int 0, .int 0, .int 0, .int 0]))] sz) := by
  refine Met.ofW (cc := b_Mo_end) (maxL := 2) (ret := (some .int)) (by decide) rfl ?_
  intro p e s m args below meth c s₁ B hml hv
  obtain ⟨rfl, hsz, hP, hK, hD0, hN, hZ⟩ := hv
  have hx := B.exec
  have hb := B.bytes
  have hr := B.returns
  have hlocks := B.notSynchronized
  have hts : ∀ w ∈ bw, w.before _ s = true := fun w h => atoms_spec (ws := Cond.code y_Mo_end b_Mo_end 2 (some .int) :: bw) B.pre w (List.mem_cons_of_mem _ h)
  have hown : s.vm.findClass "ObjectForgeModel" = some m.cls := findClass_of_methodNamed B.named
  subst hsz
  have hP0 := hP
  have hD := hD0.self (sz := s.heap.size)
  generalize hAe : va_A [(h0, .inr (7, [.int 0, .int 0, .int 0, .int 0, .int 0, .int 0, .int (-1), .int (-1), .int 0, .int 0, .int 0, .int 0, .int 0, .int 0, .int 0, .int 0, .ref (qa 0), .ref (qa 1), .ref (qa 2), .ref (qa 3), .int 0, .ref (qa 4), .ref (qa 5), .ref (qa 6), .ref (qa 7), .ref (qa 8), .ref (qa 9), .ref (qa 10), .ref (qa 11), .ref (qa 12), .ref (qa 13), .ref (qa 14), .ref (qa 15), .ref (qa 16), .ref (qa 17), .ref (qa 18), .ref (qa 19), .ref (qa 20), .int 0, .int 0, .int 0, .int 0, .long 0, .long 0, .long 0, .long 0, .long 0, .ref (qa 21), .int 0, .int 0, .int 0, .int 0]))] s.heap.size = A at hD hZ ⊢
  have hA : ∀ q : Nat, s.heap.size ≤ q → A q := fun q h => by rw [← hAe]; exact Or.inr h
  have hS : va_S A s.heap s.heap [] := va_S.rf
  have hl := lv_entry ([.ref h0, .int p0]) (n := 2) (Nat.le_of_ble_eq_true rfl)
  rw [lg_entry_eq]
  generalize (lg_sl ([.ref h0, .int p0]) ++ List.replicate (2 - (lg_sl ([.ref h0, .int p0])).length) Slot.unset).toArray = ls at hl ⊢
  have hl : lv_has ls 2 [(0, .ref h0), (1, .int p0)] := hl
  refine lv_aload_n hx hb d_Mo_end_0 rfl (lv_at hl 0 rfl) ?_
  refine lv_iconst (v := 0) hx hb d_Mo_end_1 (by decide) ?_
  refine va_put (D := D) (ci := 7) (v := .int 0) (ty := .int) (C := R_Mo) (T := F_Mo) (N := 52) hx hb hts i_Mo t_Mo t_Mo_ok n_Mo hown hK hP hD hS 0 rfl rfl 0 (by decide) (hts _ w_397) (fun _ h9 => h9) rfl (by decide +kernel) rfl rfl (Nat.le_of_ble_eq_true rfl) d_Mo_end_2 (fun H locs hP hD hS => ?_)
  have hP : va_P D cls [(h0, .inr (7, [.int 0, .int 0, .int 0, .int 0, .int 0, .int 0, .int (-1), .int (-1), .int 0, .int 0, .int 0, .int 0, .int 0, .int 0, .int 0, .int 0, .ref (qa 0), .ref (qa 1), .ref (qa 2), .ref (qa 3), .int 0, .ref (qa 4), .ref (qa 5), .ref (qa 6), .ref (qa 7), .ref (qa 8), .ref (qa 9), .ref (qa 10), .ref (qa 11), .ref (qa 12), .ref (qa 13), .ref (qa 14), .ref (qa 15), .ref (qa 16), .ref (qa 17), .ref (qa 18), .ref (qa 19), .ref (qa 20), .int 0, .int 0, .int 0, .int 0, .long 0, .long 0, .long 0, .long 0, .long 0, .ref (qa 21), .int 0, .int 0, .int 0, .int 0]))] H := hP
  have hD : va_D A [(h0, .inr (7, [.int 0, .int 0, .int 0, .int 0, .int 0, .int 0, .int (-1), .int (-1), .int 0, .int 0, .int 0, .int 0, .int 0, .int 0, .int 0, .int 0, .ref (qa 0), .ref (qa 1), .ref (qa 2), .ref (qa 3), .int 0, .ref (qa 4), .ref (qa 5), .ref (qa 6), .ref (qa 7), .ref (qa 8), .ref (qa 9), .ref (qa 10), .ref (qa 11), .ref (qa 12), .ref (qa 13), .ref (qa 14), .ref (qa 15), .ref (qa 16), .ref (qa 17), .ref (qa 18), .ref (qa 19), .ref (qa 20), .int 0, .int 0, .int 0, .int 0, .long 0, .long 0, .long 0, .long 0, .long 0, .ref (qa 21), .int 0, .int 0, .int 0, .int 0]))] := hD
  refine lv_iload_n hx hb d_Mo_end_5 rfl (lv_at hl 1 rfl) ?_
  refine lv_if_lt (tgt := 23) hx hb d_Mo_end_6 (by decide) (fun q9 => absurd q9 h1) (fun _ => ?_)
  refine lv_iload_n hx hb d_Mo_end_9 rfl (lv_at hl 1 rfl) ?_
  refine lv_bipush (v := 15) hx hb d_Mo_end_10 (by decide) ?_
  refine lv_icmp_gt (tgt := 23) hx hb d_Mo_end_12 (by decide) (fun _ => ?_) (fun q9 => absurd h2 q9)
  refine lv_aload_n hx hb d_Mo_end_23 rfl (lv_at hl 0 rfl) ?_
  refine lv_iconst (v := 1) hx hb d_Mo_end_24 (by decide) ?_
  refine xc_V (As := [.int 1]) (rest := []) (n := 1) (wc := [(h0, .inr (7, [.int 0, .int 0, .int 0, .int 0, .int 0, .int 0, .int (-1), .int (-1), .int 0, .int 0, .int 0, .int 0, .int 0, .int 0, .int 0, .int 0, .ref (qa 0), .ref (qa 1), .ref (qa 2), .ref (qa 3), .int 0, .ref (qa 4), .ref (qa 5), .ref (qa 6), .ref (qa 7), .ref (qa 8), .ref (qa 9), .ref (qa 10), .ref (qa 11), .ref (qa 12), .ref (qa 13), .ref (qa 14), .ref (qa 15), .ref (qa 16), .ref (qa 17), .ref (qa 18), .ref (qa 19), .ref (qa 20), .int 0, .int 0, .int 0, .int 0, .long 0, .long 0, .long 0, .long 0, .long 0, .ref (qa 21), .int 0, .int 0, .int 0, .int 0]))]) (wr := []) (tc := []) (tr := []) ⟨hx, hb, hml, hown, hts⟩ (c_Mo_refuse_1 l D h0 qa H.size) rfl rfl w_452 w_450 w_451 w_557 w_8 (by decide +kernel) ⟨Nat.le_of_ble_eq_true rfl, Nat.le_of_ble_eq_true rfl⟩ hP hD hK hS hA hN hZ [0] [] rfl rfl (by decide) (by decide) (by decide) [] [] rfl rfl (ci := 7) (q0 := 0) (q := (R_Mo, F_Mo, 52)) rfl rfl rfl rfl hl.1 rfl (Nat.le_of_ble_eq_true rfl) d_Mo_end_25 ⟨Nat.le_of_ble_eq_true rfl, Nat.le_of_ble_eq_true rfl⟩ (fun u1 H locs hP hD hK hS => ?_)
  have hP : va_P D cls [(h0, .inr (7, [.int 1, .int 0, .int 0, .int 0, .int 0, .int 0, .int (-1), .int (-1), .int 0, .int 0, .int 0, .int 0, .int 0, .int 0, .int 0, .int 0, .ref (qa 0), .ref (qa 1), .ref (qa 2), .ref (qa 3), .int 0, .ref (qa 4), .ref (qa 5), .ref (qa 6), .ref (qa 7), .ref (qa 8), .ref (qa 9), .ref (qa 10), .ref (qa 11), .ref (qa 12), .ref (qa 13), .ref (qa 14), .ref (qa 15), .ref (qa 16), .ref (qa 17), .ref (qa 18), .ref (qa 19), .ref (qa 20), .int 0, .int 0, .int 0, .int 0, .long 0, .long 0, .long 0, .long 0, .long 0, .ref (qa 21), .int 0, .int 0, .int 0, .int 0]))] H := hP
  have hD : va_D A [(h0, .inr (7, [.int 1, .int 0, .int 0, .int 0, .int 0, .int 0, .int (-1), .int (-1), .int 0, .int 0, .int 0, .int 0, .int 0, .int 0, .int 0, .int 0, .ref (qa 0), .ref (qa 1), .ref (qa 2), .ref (qa 3), .int 0, .ref (qa 4), .ref (qa 5), .ref (qa 6), .ref (qa 7), .ref (qa 8), .ref (qa 9), .ref (qa 10), .ref (qa 11), .ref (qa 12), .ref (qa 13), .ref (qa 14), .ref (qa 15), .ref (qa 16), .ref (qa 17), .ref (qa 18), .ref (qa 19), .ref (qa 20), .int 0, .int 0, .int 0, .int 0, .long 0, .long 0, .long 0, .long 0, .long 0, .ref (qa 21), .int 0, .int 0, .int 0, .int 0]))] := hD
  have hK : va_K D cls [] s := hK
  refine W.eq (g2 := F0 m 28 ls [.int 0]) rfl ?_
  exact xr_i hx hb hr hlocks hP hD hK hS (()) [0] rfl rfl (by decide) [] rfl rfl d_Mo_end_28

set_option maxHeartbeats 4000000 in
set_option maxRecDepth 100000 in
theorem c_Mo_end_g (l : Launch) (D : va_G) (h0 : Nat) (qa : Nat → Nat) (p0 : Int32) (h1 : ¬ p0 < 0) (h2 : ¬ 15 < p0) (h3 : ¬ p0 ≤ 0) (sz : Nat) : Met l y_Mo_end (Cond.code y_Mo_end b_Mo_end 2 (some .int) :: bw) (xR 2 0 0) (va_Pc [.ref h0, .int p0] (xP D [] sz [(h0, .inr (7, [.int 0, .int 0, .int 0, .int 0, .int 0, .int 0, .int (-1), .int (-1), .int 0, .int 0, .int 0, .int 0, .int 0, .int 0, .int 0, .int 0, .ref (qa 0), .ref (qa 1), .ref (qa 2), .ref (qa 3), .int 0, .ref (qa 4), .ref (qa 5), .ref (qa 6), .ref (qa 7), .ref (qa 8), .ref (qa 9), .ref (qa 10), .ref (qa 11), .ref (qa 12), .ref (qa 13), .ref (qa 14), .ref (qa 15), .ref (qa 16), .ref (qa 17), .ref (qa 18), .ref (qa 19), .ref (qa 20), .int 0, .int 0, .int 0, .int 0, .long 0, .long 0, .long 0, .long 0, .long 0, .ref (qa 21), .int 0, .int 0, .int 0, .int 0]))])) (xQ (S := Unit) (fun _ => some (.int 0)) (fun _ => [(h0, .inr (7, [.int 1, .int 0, .int 0, .int 0, .int 0, .int 0, .int (-1), .int (-1), .int 0, .int 0, .int 0, .int 0, .int 0, .int 0, .int 0, .int 0, .ref (qa 0), .ref (qa 1), .ref (qa 2), .ref (qa 3), .int 0, .ref (qa 4), .ref (qa 5), .ref (qa 6), .ref (qa 7), .ref (qa 8), .ref (qa 9), .ref (qa 10), .ref (qa 11), .ref (qa 12), .ref (qa 13), .ref (qa 14), .ref (qa 15), .ref (qa 16), .ref (qa 17), .ref (qa 18), .ref (qa 19), .ref (qa 20), .int 0, .int 0, .int 0, .int 0, .long 0, .long 0, .long 0, .long 0, .long 0, .ref (qa 21), .int 0, .int 0, .int 0, .int 0]))]) (fun _ => []) D (va_A [(h0, .inr (7, [.int 0, .int 0, .int 0, .int 0, .int 0, .int 0, .int (-1), .int (-1), .int 0, .int 0, .int 0, .int 0, .int 0, .int 0, .int 0, .int 0, .ref (qa 0), .ref (qa 1), .ref (qa 2), .ref (qa 3), .int 0, .ref (qa 4), .ref (qa 5), .ref (qa 6), .ref (qa 7), .ref (qa 8), .ref (qa 9), .ref (qa 10), .ref (qa 11), .ref (qa 12), .ref (qa 13), .ref (qa 14), .ref (qa 15), .ref (qa 16), .ref (qa 17), .ref (qa 18), .ref (qa 19), .ref (qa 20), .int 0, .int 0, .int 0, .int 0, .long 0, .long 0, .long 0, .long 0, .long 0, .ref (qa 21), .int 0, .int 0, .int 0, .int 0]))] sz)) 0 0 (va_A [(h0, .inr (7, [.int 0, .int 0, .int 0, .int 0, .int 0, .int 0, .int (-1), .int (-1), .int 0, .int 0, .int 0, .int 0, .int 0, .int 0, .int 0, .int 0, .ref (qa 0), .ref (qa 1), .ref (qa 2), .ref (qa 3), .int 0, .ref (qa 4), .ref (qa 5), .ref (qa 6), .ref (qa 7), .ref (qa 8), .ref (qa 9), .ref (qa 10), .ref (qa 11), .ref (qa 12), .ref (qa 13), .ref (qa 14), .ref (qa 15), .ref (qa 16), .ref (qa 17), .ref (qa 18), .ref (qa 19), .ref (qa 20), .int 0, .int 0, .int 0, .int 0, .long 0, .long 0, .long 0, .long 0, .long 0, .ref (qa 21), .int 0, .int 0, .int 0, .int 0]))] sz) := by
  refine Met.ofW (cc := b_Mo_end) (maxL := 2) (ret := (some .int)) (by decide) rfl ?_
  intro p e s m args below meth c s₁ B hml hv
  obtain ⟨rfl, hsz, hP, hK, hD0, hN, hZ⟩ := hv
  have hx := B.exec
  have hb := B.bytes
  have hr := B.returns
  have hlocks := B.notSynchronized
  have hts : ∀ w ∈ bw, w.before _ s = true := fun w h => atoms_spec (ws := Cond.code y_Mo_end b_Mo_end 2 (some .int) :: bw) B.pre w (List.mem_cons_of_mem _ h)
  have hown : s.vm.findClass "ObjectForgeModel" = some m.cls := findClass_of_methodNamed B.named
  subst hsz
  have hP0 := hP
  have hD := hD0.self (sz := s.heap.size)
  generalize hAe : va_A [(h0, .inr (7, [.int 0, .int 0, .int 0, .int 0, .int 0, .int 0, .int (-1), .int (-1), .int 0, .int 0, .int 0, .int 0, .int 0, .int 0, .int 0, .int 0, .ref (qa 0), .ref (qa 1), .ref (qa 2), .ref (qa 3), .int 0, .ref (qa 4), .ref (qa 5), .ref (qa 6), .ref (qa 7), .ref (qa 8), .ref (qa 9), .ref (qa 10), .ref (qa 11), .ref (qa 12), .ref (qa 13), .ref (qa 14), .ref (qa 15), .ref (qa 16), .ref (qa 17), .ref (qa 18), .ref (qa 19), .ref (qa 20), .int 0, .int 0, .int 0, .int 0, .long 0, .long 0, .long 0, .long 0, .long 0, .ref (qa 21), .int 0, .int 0, .int 0, .int 0]))] s.heap.size = A at hD hZ ⊢
  have hA : ∀ q : Nat, s.heap.size ≤ q → A q := fun q h => by rw [← hAe]; exact Or.inr h
  have hS : va_S A s.heap s.heap [] := va_S.rf
  have hl := lv_entry ([.ref h0, .int p0]) (n := 2) (Nat.le_of_ble_eq_true rfl)
  rw [lg_entry_eq]
  generalize (lg_sl ([.ref h0, .int p0]) ++ List.replicate (2 - (lg_sl ([.ref h0, .int p0])).length) Slot.unset).toArray = ls at hl ⊢
  have hl : lv_has ls 2 [(0, .ref h0), (1, .int p0)] := hl
  refine lv_aload_n hx hb d_Mo_end_0 rfl (lv_at hl 0 rfl) ?_
  refine lv_iconst (v := 0) hx hb d_Mo_end_1 (by decide) ?_
  refine va_put (D := D) (ci := 7) (v := .int 0) (ty := .int) (C := R_Mo) (T := F_Mo) (N := 52) hx hb hts i_Mo t_Mo t_Mo_ok n_Mo hown hK hP hD hS 0 rfl rfl 0 (by decide) (hts _ w_397) (fun _ h9 => h9) rfl (by decide +kernel) rfl rfl (Nat.le_of_ble_eq_true rfl) d_Mo_end_2 (fun H locs hP hD hS => ?_)
  have hP : va_P D cls [(h0, .inr (7, [.int 0, .int 0, .int 0, .int 0, .int 0, .int 0, .int (-1), .int (-1), .int 0, .int 0, .int 0, .int 0, .int 0, .int 0, .int 0, .int 0, .ref (qa 0), .ref (qa 1), .ref (qa 2), .ref (qa 3), .int 0, .ref (qa 4), .ref (qa 5), .ref (qa 6), .ref (qa 7), .ref (qa 8), .ref (qa 9), .ref (qa 10), .ref (qa 11), .ref (qa 12), .ref (qa 13), .ref (qa 14), .ref (qa 15), .ref (qa 16), .ref (qa 17), .ref (qa 18), .ref (qa 19), .ref (qa 20), .int 0, .int 0, .int 0, .int 0, .long 0, .long 0, .long 0, .long 0, .long 0, .ref (qa 21), .int 0, .int 0, .int 0, .int 0]))] H := hP
  have hD : va_D A [(h0, .inr (7, [.int 0, .int 0, .int 0, .int 0, .int 0, .int 0, .int (-1), .int (-1), .int 0, .int 0, .int 0, .int 0, .int 0, .int 0, .int 0, .int 0, .ref (qa 0), .ref (qa 1), .ref (qa 2), .ref (qa 3), .int 0, .ref (qa 4), .ref (qa 5), .ref (qa 6), .ref (qa 7), .ref (qa 8), .ref (qa 9), .ref (qa 10), .ref (qa 11), .ref (qa 12), .ref (qa 13), .ref (qa 14), .ref (qa 15), .ref (qa 16), .ref (qa 17), .ref (qa 18), .ref (qa 19), .ref (qa 20), .int 0, .int 0, .int 0, .int 0, .long 0, .long 0, .long 0, .long 0, .long 0, .ref (qa 21), .int 0, .int 0, .int 0, .int 0]))] := hD
  refine lv_iload_n hx hb d_Mo_end_5 rfl (lv_at hl 1 rfl) ?_
  refine lv_if_lt (tgt := 23) hx hb d_Mo_end_6 (by decide) (fun q9 => absurd q9 h1) (fun _ => ?_)
  refine lv_iload_n hx hb d_Mo_end_9 rfl (lv_at hl 1 rfl) ?_
  refine lv_bipush (v := 15) hx hb d_Mo_end_10 (by decide) ?_
  refine lv_icmp_gt (tgt := 23) hx hb d_Mo_end_12 (by decide) (fun q9 => absurd q9 h2) (fun _ => ?_)
  refine lv_iload_n hx hb d_Mo_end_15 rfl (lv_at hl 1 rfl) ?_
  refine lv_aload_n hx hb d_Mo_end_16 rfl (lv_at hl 0 rfl) ?_
  refine va_get (D := D) (ci := 7) (v := .int 0) (C := R_Mo) (T := F_Mo) (N := 52) hx hb hts i_Mo hown hK hP 0 rfl rfl 1 (by decide) (hts _ w_398) (fun _ h9 => h9) rfl d_Mo_end_17 ?_
  refine lv_icmp_le (tgt := 29) hx hb d_Mo_end_20 (by decide) (fun q9 => absurd q9 h3) (fun _ => ?_)
  refine lv_aload_n hx hb d_Mo_end_23 rfl (lv_at hl 0 rfl) ?_
  refine lv_iconst (v := 1) hx hb d_Mo_end_24 (by decide) ?_
  refine xc_V (As := [.int 1]) (rest := []) (n := 1) (wc := [(h0, .inr (7, [.int 0, .int 0, .int 0, .int 0, .int 0, .int 0, .int (-1), .int (-1), .int 0, .int 0, .int 0, .int 0, .int 0, .int 0, .int 0, .int 0, .ref (qa 0), .ref (qa 1), .ref (qa 2), .ref (qa 3), .int 0, .ref (qa 4), .ref (qa 5), .ref (qa 6), .ref (qa 7), .ref (qa 8), .ref (qa 9), .ref (qa 10), .ref (qa 11), .ref (qa 12), .ref (qa 13), .ref (qa 14), .ref (qa 15), .ref (qa 16), .ref (qa 17), .ref (qa 18), .ref (qa 19), .ref (qa 20), .int 0, .int 0, .int 0, .int 0, .long 0, .long 0, .long 0, .long 0, .long 0, .ref (qa 21), .int 0, .int 0, .int 0, .int 0]))]) (wr := []) (tc := []) (tr := []) ⟨hx, hb, hml, hown, hts⟩ (c_Mo_refuse_1 l D h0 qa H.size) rfl rfl w_452 w_450 w_451 w_557 w_8 (by decide +kernel) ⟨Nat.le_of_ble_eq_true rfl, Nat.le_of_ble_eq_true rfl⟩ hP hD hK hS hA hN hZ [0] [] rfl rfl (by decide) (by decide) (by decide) [] [] rfl rfl (ci := 7) (q0 := 0) (q := (R_Mo, F_Mo, 52)) rfl rfl rfl rfl hl.1 rfl (Nat.le_of_ble_eq_true rfl) d_Mo_end_25 ⟨Nat.le_of_ble_eq_true rfl, Nat.le_of_ble_eq_true rfl⟩ (fun u1 H locs hP hD hK hS => ?_)
  have hP : va_P D cls [(h0, .inr (7, [.int 1, .int 0, .int 0, .int 0, .int 0, .int 0, .int (-1), .int (-1), .int 0, .int 0, .int 0, .int 0, .int 0, .int 0, .int 0, .int 0, .ref (qa 0), .ref (qa 1), .ref (qa 2), .ref (qa 3), .int 0, .ref (qa 4), .ref (qa 5), .ref (qa 6), .ref (qa 7), .ref (qa 8), .ref (qa 9), .ref (qa 10), .ref (qa 11), .ref (qa 12), .ref (qa 13), .ref (qa 14), .ref (qa 15), .ref (qa 16), .ref (qa 17), .ref (qa 18), .ref (qa 19), .ref (qa 20), .int 0, .int 0, .int 0, .int 0, .long 0, .long 0, .long 0, .long 0, .long 0, .ref (qa 21), .int 0, .int 0, .int 0, .int 0]))] H := hP
  have hD : va_D A [(h0, .inr (7, [.int 1, .int 0, .int 0, .int 0, .int 0, .int 0, .int (-1), .int (-1), .int 0, .int 0, .int 0, .int 0, .int 0, .int 0, .int 0, .int 0, .ref (qa 0), .ref (qa 1), .ref (qa 2), .ref (qa 3), .int 0, .ref (qa 4), .ref (qa 5), .ref (qa 6), .ref (qa 7), .ref (qa 8), .ref (qa 9), .ref (qa 10), .ref (qa 11), .ref (qa 12), .ref (qa 13), .ref (qa 14), .ref (qa 15), .ref (qa 16), .ref (qa 17), .ref (qa 18), .ref (qa 19), .ref (qa 20), .int 0, .int 0, .int 0, .int 0, .long 0, .long 0, .long 0, .long 0, .long 0, .ref (qa 21), .int 0, .int 0, .int 0, .int 0]))] := hD
  have hK : va_K D cls [] s := hK
  refine W.eq (g2 := F0 m 28 ls [.int 0]) rfl ?_
  exact xr_i hx hb hr hlocks hP hD hK hS (()) [0] rfl rfl (by decide) [] rfl rfl d_Mo_end_28

theorem d_Mo_fault_0 : decode b_Mo_fault 0 = .ok (.aload_n 0, 1) := by decide +kernel
theorem d_Mo_fault_1 : decode b_Mo_fault 1 = .ok (.iconst 0, 1) := by decide +kernel
theorem d_Mo_fault_2 : decode b_Mo_fault 2 = .ok (.putfield 88, 3) := by decide +kernel
theorem d_Mo_fault_5 : decode b_Mo_fault 5 = .ok (.iload_n 1, 1) := by decide +kernel
theorem d_Mo_fault_6 : decode b_Mo_fault 6 = .ok (.ifCond .lt 8, 3) := by decide +kernel
theorem d_Mo_fault_9 : decode b_Mo_fault 9 = .ok (.iload_n 1, 1) := by decide +kernel
theorem d_Mo_fault_10 : decode b_Mo_fault 10 = .ok (.iconst 4, 1) := by decide +kernel
theorem d_Mo_fault_11 : decode b_Mo_fault 11 = .ok (.if_icmp .le 9, 3) := by decide +kernel
theorem d_Mo_fault_20 : decode b_Mo_fault 20 = .ok (.iload_n 1, 1) := by decide +kernel
theorem d_Mo_fault_21 : decode b_Mo_fault 21 = .ok (.ifCond .ne 10, 3) := by decide +kernel
theorem d_Mo_fault_24 : decode b_Mo_fault 24 = .ok (.aload_n 0, 1) := by decide +kernel
theorem d_Mo_fault_25 : decode b_Mo_fault 25 = .ok (.getfield 982, 3) := by decide +kernel
theorem d_Mo_fault_28 : decode b_Mo_fault 28 = .ok (.goto 43, 3) := by decide +kernel
theorem d_Mo_fault_71 : decode b_Mo_fault 71 = .ok (.ireturn, 1) := by decide +kernel
set_option maxHeartbeats 4000000 in
set_option maxRecDepth 100000 in
theorem c_Mo_fault_0 (l : Launch) (D : va_G) (h0 : Nat) (qa : Nat → Nat) (sz : Nat) : Met l y_Mo_fault (Cond.code y_Mo_fault b_Mo_fault 2 (some .int) :: bw) (xR 1 0 0) (va_Pc [.ref h0, .int 0] (xP D [] sz [(h0, .inr (7, [.int 0, .int 0, .int 0, .int 0, .int 0, .int 0, .int (-1), .int (-1), .int 0, .int 0, .int 0, .int 0, .int 0, .int 0, .int 0, .int 0, .ref (qa 0), .ref (qa 1), .ref (qa 2), .ref (qa 3), .int 0, .ref (qa 4), .ref (qa 5), .ref (qa 6), .ref (qa 7), .ref (qa 8), .ref (qa 9), .ref (qa 10), .ref (qa 11), .ref (qa 12), .ref (qa 13), .ref (qa 14), .ref (qa 15), .ref (qa 16), .ref (qa 17), .ref (qa 18), .ref (qa 19), .ref (qa 20), .int 0, .int 0, .int 0, .int 0, .long 0, .long 0, .long 0, .long 0, .long 0, .ref (qa 21), .int 0, .int 0, .int 0, .int 0]))])) (xQ (S := Unit) (fun _ => some (.int 0)) (fun _ => [(h0, .inr (7, [.int 0, .int 0, .int 0, .int 0, .int 0, .int 0, .int (-1), .int (-1), .int 0, .int 0, .int 0, .int 0, .int 0, .int 0, .int 0, .int 0, .ref (qa 0), .ref (qa 1), .ref (qa 2), .ref (qa 3), .int 0, .ref (qa 4), .ref (qa 5), .ref (qa 6), .ref (qa 7), .ref (qa 8), .ref (qa 9), .ref (qa 10), .ref (qa 11), .ref (qa 12), .ref (qa 13), .ref (qa 14), .ref (qa 15), .ref (qa 16), .ref (qa 17), .ref (qa 18), .ref (qa 19), .ref (qa 20), .int 0, .int 0, .int 0, .int 0, .long 0, .long 0, .long 0, .long 0, .long 0, .ref (qa 21), .int 0, .int 0, .int 0, .int 0]))]) (fun _ => []) D (va_A [(h0, .inr (7, [.int 0, .int 0, .int 0, .int 0, .int 0, .int 0, .int (-1), .int (-1), .int 0, .int 0, .int 0, .int 0, .int 0, .int 0, .int 0, .int 0, .ref (qa 0), .ref (qa 1), .ref (qa 2), .ref (qa 3), .int 0, .ref (qa 4), .ref (qa 5), .ref (qa 6), .ref (qa 7), .ref (qa 8), .ref (qa 9), .ref (qa 10), .ref (qa 11), .ref (qa 12), .ref (qa 13), .ref (qa 14), .ref (qa 15), .ref (qa 16), .ref (qa 17), .ref (qa 18), .ref (qa 19), .ref (qa 20), .int 0, .int 0, .int 0, .int 0, .long 0, .long 0, .long 0, .long 0, .long 0, .ref (qa 21), .int 0, .int 0, .int 0, .int 0]))] sz)) 0 0 (va_A [(h0, .inr (7, [.int 0, .int 0, .int 0, .int 0, .int 0, .int 0, .int (-1), .int (-1), .int 0, .int 0, .int 0, .int 0, .int 0, .int 0, .int 0, .int 0, .ref (qa 0), .ref (qa 1), .ref (qa 2), .ref (qa 3), .int 0, .ref (qa 4), .ref (qa 5), .ref (qa 6), .ref (qa 7), .ref (qa 8), .ref (qa 9), .ref (qa 10), .ref (qa 11), .ref (qa 12), .ref (qa 13), .ref (qa 14), .ref (qa 15), .ref (qa 16), .ref (qa 17), .ref (qa 18), .ref (qa 19), .ref (qa 20), .int 0, .int 0, .int 0, .int 0, .long 0, .long 0, .long 0, .long 0, .long 0, .ref (qa 21), .int 0, .int 0, .int 0, .int 0]))] sz) := by
  refine Met.ofW (cc := b_Mo_fault) (maxL := 2) (ret := (some .int)) (by decide) rfl ?_
  intro p e s m args below meth c s₁ B hml hv
  obtain ⟨rfl, hsz, hP, hK, hD0, hN, hZ⟩ := hv
  have hx := B.exec
  have hb := B.bytes
  have hr := B.returns
  have hlocks := B.notSynchronized
  have hts : ∀ w ∈ bw, w.before _ s = true := fun w h => atoms_spec (ws := Cond.code y_Mo_fault b_Mo_fault 2 (some .int) :: bw) B.pre w (List.mem_cons_of_mem _ h)
  have hown : s.vm.findClass "ObjectForgeModel" = some m.cls := findClass_of_methodNamed B.named
  subst hsz
  have hP0 := hP
  have hD := hD0.self (sz := s.heap.size)
  generalize hAe : va_A [(h0, .inr (7, [.int 0, .int 0, .int 0, .int 0, .int 0, .int 0, .int (-1), .int (-1), .int 0, .int 0, .int 0, .int 0, .int 0, .int 0, .int 0, .int 0, .ref (qa 0), .ref (qa 1), .ref (qa 2), .ref (qa 3), .int 0, .ref (qa 4), .ref (qa 5), .ref (qa 6), .ref (qa 7), .ref (qa 8), .ref (qa 9), .ref (qa 10), .ref (qa 11), .ref (qa 12), .ref (qa 13), .ref (qa 14), .ref (qa 15), .ref (qa 16), .ref (qa 17), .ref (qa 18), .ref (qa 19), .ref (qa 20), .int 0, .int 0, .int 0, .int 0, .long 0, .long 0, .long 0, .long 0, .long 0, .ref (qa 21), .int 0, .int 0, .int 0, .int 0]))] s.heap.size = A at hD hZ ⊢
  have hA : ∀ q : Nat, s.heap.size ≤ q → A q := fun q h => by rw [← hAe]; exact Or.inr h
  have hS : va_S A s.heap s.heap [] := va_S.rf
  have hl := lv_entry ([.ref h0, .int 0]) (n := 2) (Nat.le_of_ble_eq_true rfl)
  rw [lg_entry_eq]
  generalize (lg_sl ([.ref h0, .int 0]) ++ List.replicate (2 - (lg_sl ([.ref h0, .int 0])).length) Slot.unset).toArray = ls at hl ⊢
  have hl : lv_has ls 2 [(0, .ref h0), (1, .int 0)] := hl
  refine lv_aload_n hx hb d_Mo_fault_0 rfl (lv_at hl 0 rfl) ?_
  refine lv_iconst (v := 0) hx hb d_Mo_fault_1 (by decide) ?_
  refine va_put (D := D) (ci := 7) (v := .int 0) (ty := .int) (C := R_Mo) (T := F_Mo) (N := 52) hx hb hts i_Mo t_Mo t_Mo_ok n_Mo hown hK hP hD hS 0 rfl rfl 0 (by decide) (hts _ w_397) (fun _ h9 => h9) rfl (by decide +kernel) rfl rfl (Nat.le_of_ble_eq_true rfl) d_Mo_fault_2 (fun H locs hP hD hS => ?_)
  have hP : va_P D cls [(h0, .inr (7, [.int 0, .int 0, .int 0, .int 0, .int 0, .int 0, .int (-1), .int (-1), .int 0, .int 0, .int 0, .int 0, .int 0, .int 0, .int 0, .int 0, .ref (qa 0), .ref (qa 1), .ref (qa 2), .ref (qa 3), .int 0, .ref (qa 4), .ref (qa 5), .ref (qa 6), .ref (qa 7), .ref (qa 8), .ref (qa 9), .ref (qa 10), .ref (qa 11), .ref (qa 12), .ref (qa 13), .ref (qa 14), .ref (qa 15), .ref (qa 16), .ref (qa 17), .ref (qa 18), .ref (qa 19), .ref (qa 20), .int 0, .int 0, .int 0, .int 0, .long 0, .long 0, .long 0, .long 0, .long 0, .ref (qa 21), .int 0, .int 0, .int 0, .int 0]))] H := hP
  have hD : va_D A [(h0, .inr (7, [.int 0, .int 0, .int 0, .int 0, .int 0, .int 0, .int (-1), .int (-1), .int 0, .int 0, .int 0, .int 0, .int 0, .int 0, .int 0, .int 0, .ref (qa 0), .ref (qa 1), .ref (qa 2), .ref (qa 3), .int 0, .ref (qa 4), .ref (qa 5), .ref (qa 6), .ref (qa 7), .ref (qa 8), .ref (qa 9), .ref (qa 10), .ref (qa 11), .ref (qa 12), .ref (qa 13), .ref (qa 14), .ref (qa 15), .ref (qa 16), .ref (qa 17), .ref (qa 18), .ref (qa 19), .ref (qa 20), .int 0, .int 0, .int 0, .int 0, .long 0, .long 0, .long 0, .long 0, .long 0, .ref (qa 21), .int 0, .int 0, .int 0, .int 0]))] := hD
  refine lv_iload_n hx hb d_Mo_fault_5 rfl (lv_at hl 1 rfl) ?_
  refine lv_if_lt (tgt := 14) hx hb d_Mo_fault_6 (by decide) (fun q9 => absurd q9 (by decide : ¬ ((0 : Int32) < 0))) (fun _ => ?_)
  refine lv_iload_n hx hb d_Mo_fault_9 rfl (lv_at hl 1 rfl) ?_
  refine lv_iconst (v := 4) hx hb d_Mo_fault_10 (by decide) ?_
  refine lv_icmp_le (tgt := 20) hx hb d_Mo_fault_11 (by decide) (fun _ => ?_) (fun q9 => absurd (by decide : ((0 : Int32) ≤ 4)) q9)
  refine lv_iload_n hx hb d_Mo_fault_20 rfl (lv_at hl 1 rfl) ?_
  refine lv_if_ne (tgt := 31) hx hb d_Mo_fault_21 (by decide) (fun q9 => absurd (by decide : ((0 : Int32) = 0)) q9) (fun _ => ?_)
  refine lv_aload_n hx hb d_Mo_fault_24 rfl (lv_at hl 0 rfl) ?_
  refine va_get (D := D) (ci := 7) (v := .int 0) (C := R_Mo) (T := F_Mo) (N := 52) hx hb hts i_Mo hown hK hP 0 rfl rfl 3 (by decide) (hts _ w_419) (fun _ h9 => h9) rfl d_Mo_fault_25 ?_
  refine lv_goto (tgt := 71) hx hb d_Mo_fault_28 (by decide) ?_
  exact xr_i hx hb hr hlocks hP hD hK hS (()) [0] rfl rfl (by decide) [] rfl rfl d_Mo_fault_71

theorem d_Mo_fault_31 : decode b_Mo_fault 31 = .ok (.iload_n 1, 1) := by decide +kernel
theorem d_Mo_fault_32 : decode b_Mo_fault 32 = .ok (.iconst 1, 1) := by decide +kernel
theorem d_Mo_fault_33 : decode b_Mo_fault 33 = .ok (.if_icmp .ne 10, 3) := by decide +kernel
theorem d_Mo_fault_36 : decode b_Mo_fault 36 = .ok (.aload_n 0, 1) := by decide +kernel
theorem d_Mo_fault_37 : decode b_Mo_fault 37 = .ok (.getfield 1175, 3) := by decide +kernel
theorem d_Mo_fault_40 : decode b_Mo_fault 40 = .ok (.goto 31, 3) := by decide +kernel
set_option maxHeartbeats 4000000 in
set_option maxRecDepth 100000 in
theorem c_Mo_fault_1 (l : Launch) (D : va_G) (h0 : Nat) (qa : Nat → Nat) (sz : Nat) : Met l y_Mo_fault (Cond.code y_Mo_fault b_Mo_fault 2 (some .int) :: bw) (xR 1 0 0) (va_Pc [.ref h0, .int 1] (xP D [] sz [(h0, .inr (7, [.int 0, .int 0, .int 0, .int 0, .int 0, .int 0, .int (-1), .int (-1), .int 0, .int 0, .int 0, .int 0, .int 0, .int 0, .int 0, .int 0, .ref (qa 0), .ref (qa 1), .ref (qa 2), .ref (qa 3), .int 0, .ref (qa 4), .ref (qa 5), .ref (qa 6), .ref (qa 7), .ref (qa 8), .ref (qa 9), .ref (qa 10), .ref (qa 11), .ref (qa 12), .ref (qa 13), .ref (qa 14), .ref (qa 15), .ref (qa 16), .ref (qa 17), .ref (qa 18), .ref (qa 19), .ref (qa 20), .int 0, .int 0, .int 0, .int 0, .long 0, .long 0, .long 0, .long 0, .long 0, .ref (qa 21), .int 0, .int 0, .int 0, .int 0]))])) (xQ (S := Unit) (fun _ => some (.int 0)) (fun _ => [(h0, .inr (7, [.int 0, .int 0, .int 0, .int 0, .int 0, .int 0, .int (-1), .int (-1), .int 0, .int 0, .int 0, .int 0, .int 0, .int 0, .int 0, .int 0, .ref (qa 0), .ref (qa 1), .ref (qa 2), .ref (qa 3), .int 0, .ref (qa 4), .ref (qa 5), .ref (qa 6), .ref (qa 7), .ref (qa 8), .ref (qa 9), .ref (qa 10), .ref (qa 11), .ref (qa 12), .ref (qa 13), .ref (qa 14), .ref (qa 15), .ref (qa 16), .ref (qa 17), .ref (qa 18), .ref (qa 19), .ref (qa 20), .int 0, .int 0, .int 0, .int 0, .long 0, .long 0, .long 0, .long 0, .long 0, .ref (qa 21), .int 0, .int 0, .int 0, .int 0]))]) (fun _ => []) D (va_A [(h0, .inr (7, [.int 0, .int 0, .int 0, .int 0, .int 0, .int 0, .int (-1), .int (-1), .int 0, .int 0, .int 0, .int 0, .int 0, .int 0, .int 0, .int 0, .ref (qa 0), .ref (qa 1), .ref (qa 2), .ref (qa 3), .int 0, .ref (qa 4), .ref (qa 5), .ref (qa 6), .ref (qa 7), .ref (qa 8), .ref (qa 9), .ref (qa 10), .ref (qa 11), .ref (qa 12), .ref (qa 13), .ref (qa 14), .ref (qa 15), .ref (qa 16), .ref (qa 17), .ref (qa 18), .ref (qa 19), .ref (qa 20), .int 0, .int 0, .int 0, .int 0, .long 0, .long 0, .long 0, .long 0, .long 0, .ref (qa 21), .int 0, .int 0, .int 0, .int 0]))] sz)) 0 0 (va_A [(h0, .inr (7, [.int 0, .int 0, .int 0, .int 0, .int 0, .int 0, .int (-1), .int (-1), .int 0, .int 0, .int 0, .int 0, .int 0, .int 0, .int 0, .int 0, .ref (qa 0), .ref (qa 1), .ref (qa 2), .ref (qa 3), .int 0, .ref (qa 4), .ref (qa 5), .ref (qa 6), .ref (qa 7), .ref (qa 8), .ref (qa 9), .ref (qa 10), .ref (qa 11), .ref (qa 12), .ref (qa 13), .ref (qa 14), .ref (qa 15), .ref (qa 16), .ref (qa 17), .ref (qa 18), .ref (qa 19), .ref (qa 20), .int 0, .int 0, .int 0, .int 0, .long 0, .long 0, .long 0, .long 0, .long 0, .ref (qa 21), .int 0, .int 0, .int 0, .int 0]))] sz) := by
  refine Met.ofW (cc := b_Mo_fault) (maxL := 2) (ret := (some .int)) (by decide) rfl ?_
  intro p e s m args below meth c s₁ B hml hv
  obtain ⟨rfl, hsz, hP, hK, hD0, hN, hZ⟩ := hv
  have hx := B.exec
  have hb := B.bytes
  have hr := B.returns
  have hlocks := B.notSynchronized
  have hts : ∀ w ∈ bw, w.before _ s = true := fun w h => atoms_spec (ws := Cond.code y_Mo_fault b_Mo_fault 2 (some .int) :: bw) B.pre w (List.mem_cons_of_mem _ h)
  have hown : s.vm.findClass "ObjectForgeModel" = some m.cls := findClass_of_methodNamed B.named
  subst hsz
  have hP0 := hP
  have hD := hD0.self (sz := s.heap.size)
  generalize hAe : va_A [(h0, .inr (7, [.int 0, .int 0, .int 0, .int 0, .int 0, .int 0, .int (-1), .int (-1), .int 0, .int 0, .int 0, .int 0, .int 0, .int 0, .int 0, .int 0, .ref (qa 0), .ref (qa 1), .ref (qa 2), .ref (qa 3), .int 0, .ref (qa 4), .ref (qa 5), .ref (qa 6), .ref (qa 7), .ref (qa 8), .ref (qa 9), .ref (qa 10), .ref (qa 11), .ref (qa 12), .ref (qa 13), .ref (qa 14), .ref (qa 15), .ref (qa 16), .ref (qa 17), .ref (qa 18), .ref (qa 19), .ref (qa 20), .int 0, .int 0, .int 0, .int 0, .long 0, .long 0, .long 0, .long 0, .long 0, .ref (qa 21), .int 0, .int 0, .int 0, .int 0]))] s.heap.size = A at hD hZ ⊢
  have hA : ∀ q : Nat, s.heap.size ≤ q → A q := fun q h => by rw [← hAe]; exact Or.inr h
  have hS : va_S A s.heap s.heap [] := va_S.rf
  have hl := lv_entry ([.ref h0, .int 1]) (n := 2) (Nat.le_of_ble_eq_true rfl)
  rw [lg_entry_eq]
  generalize (lg_sl ([.ref h0, .int 1]) ++ List.replicate (2 - (lg_sl ([.ref h0, .int 1])).length) Slot.unset).toArray = ls at hl ⊢
  have hl : lv_has ls 2 [(0, .ref h0), (1, .int 1)] := hl
  refine lv_aload_n hx hb d_Mo_fault_0 rfl (lv_at hl 0 rfl) ?_
  refine lv_iconst (v := 0) hx hb d_Mo_fault_1 (by decide) ?_
  refine va_put (D := D) (ci := 7) (v := .int 0) (ty := .int) (C := R_Mo) (T := F_Mo) (N := 52) hx hb hts i_Mo t_Mo t_Mo_ok n_Mo hown hK hP hD hS 0 rfl rfl 0 (by decide) (hts _ w_397) (fun _ h9 => h9) rfl (by decide +kernel) rfl rfl (Nat.le_of_ble_eq_true rfl) d_Mo_fault_2 (fun H locs hP hD hS => ?_)
  have hP : va_P D cls [(h0, .inr (7, [.int 0, .int 0, .int 0, .int 0, .int 0, .int 0, .int (-1), .int (-1), .int 0, .int 0, .int 0, .int 0, .int 0, .int 0, .int 0, .int 0, .ref (qa 0), .ref (qa 1), .ref (qa 2), .ref (qa 3), .int 0, .ref (qa 4), .ref (qa 5), .ref (qa 6), .ref (qa 7), .ref (qa 8), .ref (qa 9), .ref (qa 10), .ref (qa 11), .ref (qa 12), .ref (qa 13), .ref (qa 14), .ref (qa 15), .ref (qa 16), .ref (qa 17), .ref (qa 18), .ref (qa 19), .ref (qa 20), .int 0, .int 0, .int 0, .int 0, .long 0, .long 0, .long 0, .long 0, .long 0, .ref (qa 21), .int 0, .int 0, .int 0, .int 0]))] H := hP
  have hD : va_D A [(h0, .inr (7, [.int 0, .int 0, .int 0, .int 0, .int 0, .int 0, .int (-1), .int (-1), .int 0, .int 0, .int 0, .int 0, .int 0, .int 0, .int 0, .int 0, .ref (qa 0), .ref (qa 1), .ref (qa 2), .ref (qa 3), .int 0, .ref (qa 4), .ref (qa 5), .ref (qa 6), .ref (qa 7), .ref (qa 8), .ref (qa 9), .ref (qa 10), .ref (qa 11), .ref (qa 12), .ref (qa 13), .ref (qa 14), .ref (qa 15), .ref (qa 16), .ref (qa 17), .ref (qa 18), .ref (qa 19), .ref (qa 20), .int 0, .int 0, .int 0, .int 0, .long 0, .long 0, .long 0, .long 0, .long 0, .ref (qa 21), .int 0, .int 0, .int 0, .int 0]))] := hD
  refine lv_iload_n hx hb d_Mo_fault_5 rfl (lv_at hl 1 rfl) ?_
  refine lv_if_lt (tgt := 14) hx hb d_Mo_fault_6 (by decide) (fun q9 => absurd q9 (by decide : ¬ ((1 : Int32) < 0))) (fun _ => ?_)
  refine lv_iload_n hx hb d_Mo_fault_9 rfl (lv_at hl 1 rfl) ?_
  refine lv_iconst (v := 4) hx hb d_Mo_fault_10 (by decide) ?_
  refine lv_icmp_le (tgt := 20) hx hb d_Mo_fault_11 (by decide) (fun _ => ?_) (fun q9 => absurd (by decide : ((1 : Int32) ≤ 4)) q9)
  refine lv_iload_n hx hb d_Mo_fault_20 rfl (lv_at hl 1 rfl) ?_
  refine lv_if_ne (tgt := 31) hx hb d_Mo_fault_21 (by decide) (fun _ => ?_) (fun q9 => absurd q9 (by decide : ¬ ((1 : Int32) = 0)))
  refine lv_iload_n hx hb d_Mo_fault_31 rfl (lv_at hl 1 rfl) ?_
  refine lv_iconst (v := 1) hx hb d_Mo_fault_32 (by decide) ?_
  refine lv_icmp_ne (tgt := 43) hx hb d_Mo_fault_33 (by decide) (fun q9 => absurd (by decide : ((1 : Int32) = 1)) q9) (fun _ => ?_)
  refine lv_aload_n hx hb d_Mo_fault_36 rfl (lv_at hl 0 rfl) ?_
  refine va_get (D := D) (ci := 7) (v := .int 0) (C := R_Mo) (T := F_Mo) (N := 52) hx hb hts i_Mo hown hK hP 0 rfl rfl 4 (by decide) (hts _ w_420) (fun _ h9 => h9) rfl d_Mo_fault_37 ?_
  refine lv_goto (tgt := 71) hx hb d_Mo_fault_40 (by decide) ?_
  exact xr_i hx hb hr hlocks hP hD hK hS (()) [0] rfl rfl (by decide) [] rfl rfl d_Mo_fault_71

theorem d_Mo_fault_43 : decode b_Mo_fault 43 = .ok (.iload_n 1, 1) := by decide +kernel
theorem d_Mo_fault_44 : decode b_Mo_fault 44 = .ok (.iconst 2, 1) := by decide +kernel
theorem d_Mo_fault_45 : decode b_Mo_fault 45 = .ok (.if_icmp .ne 10, 3) := by decide +kernel
theorem d_Mo_fault_48 : decode b_Mo_fault 48 = .ok (.aload_n 0, 1) := by decide +kernel
theorem d_Mo_fault_49 : decode b_Mo_fault 49 = .ok (.getfield 1178, 3) := by decide +kernel
theorem d_Mo_fault_52 : decode b_Mo_fault 52 = .ok (.goto 19, 3) := by decide +kernel
set_option maxHeartbeats 4000000 in
set_option maxRecDepth 100000 in
theorem c_Mo_fault_2 (l : Launch) (D : va_G) (h0 : Nat) (qa : Nat → Nat) (sz : Nat) : Met l y_Mo_fault (Cond.code y_Mo_fault b_Mo_fault 2 (some .int) :: bw) (xR 1 0 0) (va_Pc [.ref h0, .int 2] (xP D [] sz [(h0, .inr (7, [.int 0, .int 0, .int 0, .int 0, .int 0, .int 0, .int (-1), .int (-1), .int 0, .int 0, .int 0, .int 0, .int 0, .int 0, .int 0, .int 0, .ref (qa 0), .ref (qa 1), .ref (qa 2), .ref (qa 3), .int 0, .ref (qa 4), .ref (qa 5), .ref (qa 6), .ref (qa 7), .ref (qa 8), .ref (qa 9), .ref (qa 10), .ref (qa 11), .ref (qa 12), .ref (qa 13), .ref (qa 14), .ref (qa 15), .ref (qa 16), .ref (qa 17), .ref (qa 18), .ref (qa 19), .ref (qa 20), .int 0, .int 0, .int 0, .int 0, .long 0, .long 0, .long 0, .long 0, .long 0, .ref (qa 21), .int 0, .int 0, .int 0, .int 0]))])) (xQ (S := Unit) (fun _ => some (.int 0)) (fun _ => [(h0, .inr (7, [.int 0, .int 0, .int 0, .int 0, .int 0, .int 0, .int (-1), .int (-1), .int 0, .int 0, .int 0, .int 0, .int 0, .int 0, .int 0, .int 0, .ref (qa 0), .ref (qa 1), .ref (qa 2), .ref (qa 3), .int 0, .ref (qa 4), .ref (qa 5), .ref (qa 6), .ref (qa 7), .ref (qa 8), .ref (qa 9), .ref (qa 10), .ref (qa 11), .ref (qa 12), .ref (qa 13), .ref (qa 14), .ref (qa 15), .ref (qa 16), .ref (qa 17), .ref (qa 18), .ref (qa 19), .ref (qa 20), .int 0, .int 0, .int 0, .int 0, .long 0, .long 0, .long 0, .long 0, .long 0, .ref (qa 21), .int 0, .int 0, .int 0, .int 0]))]) (fun _ => []) D (va_A [(h0, .inr (7, [.int 0, .int 0, .int 0, .int 0, .int 0, .int 0, .int (-1), .int (-1), .int 0, .int 0, .int 0, .int 0, .int 0, .int 0, .int 0, .int 0, .ref (qa 0), .ref (qa 1), .ref (qa 2), .ref (qa 3), .int 0, .ref (qa 4), .ref (qa 5), .ref (qa 6), .ref (qa 7), .ref (qa 8), .ref (qa 9), .ref (qa 10), .ref (qa 11), .ref (qa 12), .ref (qa 13), .ref (qa 14), .ref (qa 15), .ref (qa 16), .ref (qa 17), .ref (qa 18), .ref (qa 19), .ref (qa 20), .int 0, .int 0, .int 0, .int 0, .long 0, .long 0, .long 0, .long 0, .long 0, .ref (qa 21), .int 0, .int 0, .int 0, .int 0]))] sz)) 0 0 (va_A [(h0, .inr (7, [.int 0, .int 0, .int 0, .int 0, .int 0, .int 0, .int (-1), .int (-1), .int 0, .int 0, .int 0, .int 0, .int 0, .int 0, .int 0, .int 0, .ref (qa 0), .ref (qa 1), .ref (qa 2), .ref (qa 3), .int 0, .ref (qa 4), .ref (qa 5), .ref (qa 6), .ref (qa 7), .ref (qa 8), .ref (qa 9), .ref (qa 10), .ref (qa 11), .ref (qa 12), .ref (qa 13), .ref (qa 14), .ref (qa 15), .ref (qa 16), .ref (qa 17), .ref (qa 18), .ref (qa 19), .ref (qa 20), .int 0, .int 0, .int 0, .int 0, .long 0, .long 0, .long 0, .long 0, .long 0, .ref (qa 21), .int 0, .int 0, .int 0, .int 0]))] sz) := by
  refine Met.ofW (cc := b_Mo_fault) (maxL := 2) (ret := (some .int)) (by decide) rfl ?_
  intro p e s m args below meth c s₁ B hml hv
  obtain ⟨rfl, hsz, hP, hK, hD0, hN, hZ⟩ := hv
  have hx := B.exec
  have hb := B.bytes
  have hr := B.returns
  have hlocks := B.notSynchronized
  have hts : ∀ w ∈ bw, w.before _ s = true := fun w h => atoms_spec (ws := Cond.code y_Mo_fault b_Mo_fault 2 (some .int) :: bw) B.pre w (List.mem_cons_of_mem _ h)
  have hown : s.vm.findClass "ObjectForgeModel" = some m.cls := findClass_of_methodNamed B.named
  subst hsz
  have hP0 := hP
  have hD := hD0.self (sz := s.heap.size)
  generalize hAe : va_A [(h0, .inr (7, [.int 0, .int 0, .int 0, .int 0, .int 0, .int 0, .int (-1), .int (-1), .int 0, .int 0, .int 0, .int 0, .int 0, .int 0, .int 0, .int 0, .ref (qa 0), .ref (qa 1), .ref (qa 2), .ref (qa 3), .int 0, .ref (qa 4), .ref (qa 5), .ref (qa 6), .ref (qa 7), .ref (qa 8), .ref (qa 9), .ref (qa 10), .ref (qa 11), .ref (qa 12), .ref (qa 13), .ref (qa 14), .ref (qa 15), .ref (qa 16), .ref (qa 17), .ref (qa 18), .ref (qa 19), .ref (qa 20), .int 0, .int 0, .int 0, .int 0, .long 0, .long 0, .long 0, .long 0, .long 0, .ref (qa 21), .int 0, .int 0, .int 0, .int 0]))] s.heap.size = A at hD hZ ⊢
  have hA : ∀ q : Nat, s.heap.size ≤ q → A q := fun q h => by rw [← hAe]; exact Or.inr h
  have hS : va_S A s.heap s.heap [] := va_S.rf
  have hl := lv_entry ([.ref h0, .int 2]) (n := 2) (Nat.le_of_ble_eq_true rfl)
  rw [lg_entry_eq]
  generalize (lg_sl ([.ref h0, .int 2]) ++ List.replicate (2 - (lg_sl ([.ref h0, .int 2])).length) Slot.unset).toArray = ls at hl ⊢
  have hl : lv_has ls 2 [(0, .ref h0), (1, .int 2)] := hl
  refine lv_aload_n hx hb d_Mo_fault_0 rfl (lv_at hl 0 rfl) ?_
  refine lv_iconst (v := 0) hx hb d_Mo_fault_1 (by decide) ?_
  refine va_put (D := D) (ci := 7) (v := .int 0) (ty := .int) (C := R_Mo) (T := F_Mo) (N := 52) hx hb hts i_Mo t_Mo t_Mo_ok n_Mo hown hK hP hD hS 0 rfl rfl 0 (by decide) (hts _ w_397) (fun _ h9 => h9) rfl (by decide +kernel) rfl rfl (Nat.le_of_ble_eq_true rfl) d_Mo_fault_2 (fun H locs hP hD hS => ?_)
  have hP : va_P D cls [(h0, .inr (7, [.int 0, .int 0, .int 0, .int 0, .int 0, .int 0, .int (-1), .int (-1), .int 0, .int 0, .int 0, .int 0, .int 0, .int 0, .int 0, .int 0, .ref (qa 0), .ref (qa 1), .ref (qa 2), .ref (qa 3), .int 0, .ref (qa 4), .ref (qa 5), .ref (qa 6), .ref (qa 7), .ref (qa 8), .ref (qa 9), .ref (qa 10), .ref (qa 11), .ref (qa 12), .ref (qa 13), .ref (qa 14), .ref (qa 15), .ref (qa 16), .ref (qa 17), .ref (qa 18), .ref (qa 19), .ref (qa 20), .int 0, .int 0, .int 0, .int 0, .long 0, .long 0, .long 0, .long 0, .long 0, .ref (qa 21), .int 0, .int 0, .int 0, .int 0]))] H := hP
  have hD : va_D A [(h0, .inr (7, [.int 0, .int 0, .int 0, .int 0, .int 0, .int 0, .int (-1), .int (-1), .int 0, .int 0, .int 0, .int 0, .int 0, .int 0, .int 0, .int 0, .ref (qa 0), .ref (qa 1), .ref (qa 2), .ref (qa 3), .int 0, .ref (qa 4), .ref (qa 5), .ref (qa 6), .ref (qa 7), .ref (qa 8), .ref (qa 9), .ref (qa 10), .ref (qa 11), .ref (qa 12), .ref (qa 13), .ref (qa 14), .ref (qa 15), .ref (qa 16), .ref (qa 17), .ref (qa 18), .ref (qa 19), .ref (qa 20), .int 0, .int 0, .int 0, .int 0, .long 0, .long 0, .long 0, .long 0, .long 0, .ref (qa 21), .int 0, .int 0, .int 0, .int 0]))] := hD
  refine lv_iload_n hx hb d_Mo_fault_5 rfl (lv_at hl 1 rfl) ?_
  refine lv_if_lt (tgt := 14) hx hb d_Mo_fault_6 (by decide) (fun q9 => absurd q9 (by decide : ¬ ((2 : Int32) < 0))) (fun _ => ?_)
  refine lv_iload_n hx hb d_Mo_fault_9 rfl (lv_at hl 1 rfl) ?_
  refine lv_iconst (v := 4) hx hb d_Mo_fault_10 (by decide) ?_
  refine lv_icmp_le (tgt := 20) hx hb d_Mo_fault_11 (by decide) (fun _ => ?_) (fun q9 => absurd (by decide : ((2 : Int32) ≤ 4)) q9)
  refine lv_iload_n hx hb d_Mo_fault_20 rfl (lv_at hl 1 rfl) ?_
  refine lv_if_ne (tgt := 31) hx hb d_Mo_fault_21 (by decide) (fun _ => ?_) (fun q9 => absurd q9 (by decide : ¬ ((2 : Int32) = 0)))
  refine lv_iload_n hx hb d_Mo_fault_31 rfl (lv_at hl 1 rfl) ?_
  refine lv_iconst (v := 1) hx hb d_Mo_fault_32 (by decide) ?_
  refine lv_icmp_ne (tgt := 43) hx hb d_Mo_fault_33 (by decide) (fun _ => ?_) (fun q9 => absurd q9 (by decide : ¬ ((2 : Int32) = 1)))
  refine lv_iload_n hx hb d_Mo_fault_43 rfl (lv_at hl 1 rfl) ?_
  refine lv_iconst (v := 2) hx hb d_Mo_fault_44 (by decide) ?_
  refine lv_icmp_ne (tgt := 55) hx hb d_Mo_fault_45 (by decide) (fun q9 => absurd (by decide : ((2 : Int32) = 2)) q9) (fun _ => ?_)
  refine lv_aload_n hx hb d_Mo_fault_48 rfl (lv_at hl 0 rfl) ?_
  refine va_get (D := D) (ci := 7) (v := .int 0) (C := R_Mo) (T := F_Mo) (N := 52) hx hb hts i_Mo hown hK hP 0 rfl rfl 5 (by decide) (hts _ w_421) (fun _ h9 => h9) rfl d_Mo_fault_49 ?_
  refine lv_goto (tgt := 71) hx hb d_Mo_fault_52 (by decide) ?_
  exact xr_i hx hb hr hlocks hP hD hK hS (()) [0] rfl rfl (by decide) [] rfl rfl d_Mo_fault_71

theorem d_Mo_fault_55 : decode b_Mo_fault 55 = .ok (.iload_n 1, 1) := by decide +kernel
theorem d_Mo_fault_56 : decode b_Mo_fault 56 = .ok (.iconst 3, 1) := by decide +kernel
theorem d_Mo_fault_57 : decode b_Mo_fault 57 = .ok (.if_icmp .ne 10, 3) := by decide +kernel
theorem d_Mo_fault_60 : decode b_Mo_fault 60 = .ok (.aload_n 0, 1) := by decide +kernel
theorem d_Mo_fault_61 : decode b_Mo_fault 61 = .ok (.getfield 68, 3) := by decide +kernel
theorem d_Mo_fault_64 : decode b_Mo_fault 64 = .ok (.goto 7, 3) := by decide +kernel
set_option maxHeartbeats 4000000 in
set_option maxRecDepth 100000 in
theorem c_Mo_fault_3 (l : Launch) (D : va_G) (h0 : Nat) (qa : Nat → Nat) (sz : Nat) : Met l y_Mo_fault (Cond.code y_Mo_fault b_Mo_fault 2 (some .int) :: bw) (xR 1 0 0) (va_Pc [.ref h0, .int 3] (xP D [] sz [(h0, .inr (7, [.int 0, .int 0, .int 0, .int 0, .int 0, .int 0, .int (-1), .int (-1), .int 0, .int 0, .int 0, .int 0, .int 0, .int 0, .int 0, .int 0, .ref (qa 0), .ref (qa 1), .ref (qa 2), .ref (qa 3), .int 0, .ref (qa 4), .ref (qa 5), .ref (qa 6), .ref (qa 7), .ref (qa 8), .ref (qa 9), .ref (qa 10), .ref (qa 11), .ref (qa 12), .ref (qa 13), .ref (qa 14), .ref (qa 15), .ref (qa 16), .ref (qa 17), .ref (qa 18), .ref (qa 19), .ref (qa 20), .int 0, .int 0, .int 0, .int 0, .long 0, .long 0, .long 0, .long 0, .long 0, .ref (qa 21), .int 0, .int 0, .int 0, .int 0]))])) (xQ (S := Unit) (fun _ => some (.int (-1))) (fun _ => [(h0, .inr (7, [.int 0, .int 0, .int 0, .int 0, .int 0, .int 0, .int (-1), .int (-1), .int 0, .int 0, .int 0, .int 0, .int 0, .int 0, .int 0, .int 0, .ref (qa 0), .ref (qa 1), .ref (qa 2), .ref (qa 3), .int 0, .ref (qa 4), .ref (qa 5), .ref (qa 6), .ref (qa 7), .ref (qa 8), .ref (qa 9), .ref (qa 10), .ref (qa 11), .ref (qa 12), .ref (qa 13), .ref (qa 14), .ref (qa 15), .ref (qa 16), .ref (qa 17), .ref (qa 18), .ref (qa 19), .ref (qa 20), .int 0, .int 0, .int 0, .int 0, .long 0, .long 0, .long 0, .long 0, .long 0, .ref (qa 21), .int 0, .int 0, .int 0, .int 0]))]) (fun _ => []) D (va_A [(h0, .inr (7, [.int 0, .int 0, .int 0, .int 0, .int 0, .int 0, .int (-1), .int (-1), .int 0, .int 0, .int 0, .int 0, .int 0, .int 0, .int 0, .int 0, .ref (qa 0), .ref (qa 1), .ref (qa 2), .ref (qa 3), .int 0, .ref (qa 4), .ref (qa 5), .ref (qa 6), .ref (qa 7), .ref (qa 8), .ref (qa 9), .ref (qa 10), .ref (qa 11), .ref (qa 12), .ref (qa 13), .ref (qa 14), .ref (qa 15), .ref (qa 16), .ref (qa 17), .ref (qa 18), .ref (qa 19), .ref (qa 20), .int 0, .int 0, .int 0, .int 0, .long 0, .long 0, .long 0, .long 0, .long 0, .ref (qa 21), .int 0, .int 0, .int 0, .int 0]))] sz)) 0 0 (va_A [(h0, .inr (7, [.int 0, .int 0, .int 0, .int 0, .int 0, .int 0, .int (-1), .int (-1), .int 0, .int 0, .int 0, .int 0, .int 0, .int 0, .int 0, .int 0, .ref (qa 0), .ref (qa 1), .ref (qa 2), .ref (qa 3), .int 0, .ref (qa 4), .ref (qa 5), .ref (qa 6), .ref (qa 7), .ref (qa 8), .ref (qa 9), .ref (qa 10), .ref (qa 11), .ref (qa 12), .ref (qa 13), .ref (qa 14), .ref (qa 15), .ref (qa 16), .ref (qa 17), .ref (qa 18), .ref (qa 19), .ref (qa 20), .int 0, .int 0, .int 0, .int 0, .long 0, .long 0, .long 0, .long 0, .long 0, .ref (qa 21), .int 0, .int 0, .int 0, .int 0]))] sz) := by
  refine Met.ofW (cc := b_Mo_fault) (maxL := 2) (ret := (some .int)) (by decide) rfl ?_
  intro p e s m args below meth c s₁ B hml hv
  obtain ⟨rfl, hsz, hP, hK, hD0, hN, hZ⟩ := hv
  have hx := B.exec
  have hb := B.bytes
  have hr := B.returns
  have hlocks := B.notSynchronized
  have hts : ∀ w ∈ bw, w.before _ s = true := fun w h => atoms_spec (ws := Cond.code y_Mo_fault b_Mo_fault 2 (some .int) :: bw) B.pre w (List.mem_cons_of_mem _ h)
  have hown : s.vm.findClass "ObjectForgeModel" = some m.cls := findClass_of_methodNamed B.named
  subst hsz
  have hP0 := hP
  have hD := hD0.self (sz := s.heap.size)
  generalize hAe : va_A [(h0, .inr (7, [.int 0, .int 0, .int 0, .int 0, .int 0, .int 0, .int (-1), .int (-1), .int 0, .int 0, .int 0, .int 0, .int 0, .int 0, .int 0, .int 0, .ref (qa 0), .ref (qa 1), .ref (qa 2), .ref (qa 3), .int 0, .ref (qa 4), .ref (qa 5), .ref (qa 6), .ref (qa 7), .ref (qa 8), .ref (qa 9), .ref (qa 10), .ref (qa 11), .ref (qa 12), .ref (qa 13), .ref (qa 14), .ref (qa 15), .ref (qa 16), .ref (qa 17), .ref (qa 18), .ref (qa 19), .ref (qa 20), .int 0, .int 0, .int 0, .int 0, .long 0, .long 0, .long 0, .long 0, .long 0, .ref (qa 21), .int 0, .int 0, .int 0, .int 0]))] s.heap.size = A at hD hZ ⊢
  have hA : ∀ q : Nat, s.heap.size ≤ q → A q := fun q h => by rw [← hAe]; exact Or.inr h
  have hS : va_S A s.heap s.heap [] := va_S.rf
  have hl := lv_entry ([.ref h0, .int 3]) (n := 2) (Nat.le_of_ble_eq_true rfl)
  rw [lg_entry_eq]
  generalize (lg_sl ([.ref h0, .int 3]) ++ List.replicate (2 - (lg_sl ([.ref h0, .int 3])).length) Slot.unset).toArray = ls at hl ⊢
  have hl : lv_has ls 2 [(0, .ref h0), (1, .int 3)] := hl
  refine lv_aload_n hx hb d_Mo_fault_0 rfl (lv_at hl 0 rfl) ?_
  refine lv_iconst (v := 0) hx hb d_Mo_fault_1 (by decide) ?_
  refine va_put (D := D) (ci := 7) (v := .int 0) (ty := .int) (C := R_Mo) (T := F_Mo) (N := 52) hx hb hts i_Mo t_Mo t_Mo_ok n_Mo hown hK hP hD hS 0 rfl rfl 0 (by decide) (hts _ w_397) (fun _ h9 => h9) rfl (by decide +kernel) rfl rfl (Nat.le_of_ble_eq_true rfl) d_Mo_fault_2 (fun H locs hP hD hS => ?_)
  have hP : va_P D cls [(h0, .inr (7, [.int 0, .int 0, .int 0, .int 0, .int 0, .int 0, .int (-1), .int (-1), .int 0, .int 0, .int 0, .int 0, .int 0, .int 0, .int 0, .int 0, .ref (qa 0), .ref (qa 1), .ref (qa 2), .ref (qa 3), .int 0, .ref (qa 4), .ref (qa 5), .ref (qa 6), .ref (qa 7), .ref (qa 8), .ref (qa 9), .ref (qa 10), .ref (qa 11), .ref (qa 12), .ref (qa 13), .ref (qa 14), .ref (qa 15), .ref (qa 16), .ref (qa 17), .ref (qa 18), .ref (qa 19), .ref (qa 20), .int 0, .int 0, .int 0, .int 0, .long 0, .long 0, .long 0, .long 0, .long 0, .ref (qa 21), .int 0, .int 0, .int 0, .int 0]))] H := hP
  have hD : va_D A [(h0, .inr (7, [.int 0, .int 0, .int 0, .int 0, .int 0, .int 0, .int (-1), .int (-1), .int 0, .int 0, .int 0, .int 0, .int 0, .int 0, .int 0, .int 0, .ref (qa 0), .ref (qa 1), .ref (qa 2), .ref (qa 3), .int 0, .ref (qa 4), .ref (qa 5), .ref (qa 6), .ref (qa 7), .ref (qa 8), .ref (qa 9), .ref (qa 10), .ref (qa 11), .ref (qa 12), .ref (qa 13), .ref (qa 14), .ref (qa 15), .ref (qa 16), .ref (qa 17), .ref (qa 18), .ref (qa 19), .ref (qa 20), .int 0, .int 0, .int 0, .int 0, .long 0, .long 0, .long 0, .long 0, .long 0, .ref (qa 21), .int 0, .int 0, .int 0, .int 0]))] := hD
  refine lv_iload_n hx hb d_Mo_fault_5 rfl (lv_at hl 1 rfl) ?_
  refine lv_if_lt (tgt := 14) hx hb d_Mo_fault_6 (by decide) (fun q9 => absurd q9 (by decide : ¬ ((3 : Int32) < 0))) (fun _ => ?_)
  refine lv_iload_n hx hb d_Mo_fault_9 rfl (lv_at hl 1 rfl) ?_
  refine lv_iconst (v := 4) hx hb d_Mo_fault_10 (by decide) ?_
  refine lv_icmp_le (tgt := 20) hx hb d_Mo_fault_11 (by decide) (fun _ => ?_) (fun q9 => absurd (by decide : ((3 : Int32) ≤ 4)) q9)
  refine lv_iload_n hx hb d_Mo_fault_20 rfl (lv_at hl 1 rfl) ?_
  refine lv_if_ne (tgt := 31) hx hb d_Mo_fault_21 (by decide) (fun _ => ?_) (fun q9 => absurd q9 (by decide : ¬ ((3 : Int32) = 0)))
  refine lv_iload_n hx hb d_Mo_fault_31 rfl (lv_at hl 1 rfl) ?_
  refine lv_iconst (v := 1) hx hb d_Mo_fault_32 (by decide) ?_
  refine lv_icmp_ne (tgt := 43) hx hb d_Mo_fault_33 (by decide) (fun _ => ?_) (fun q9 => absurd q9 (by decide : ¬ ((3 : Int32) = 1)))
  refine lv_iload_n hx hb d_Mo_fault_43 rfl (lv_at hl 1 rfl) ?_
  refine lv_iconst (v := 2) hx hb d_Mo_fault_44 (by decide) ?_
  refine lv_icmp_ne (tgt := 55) hx hb d_Mo_fault_45 (by decide) (fun _ => ?_) (fun q9 => absurd q9 (by decide : ¬ ((3 : Int32) = 2)))
  refine lv_iload_n hx hb d_Mo_fault_55 rfl (lv_at hl 1 rfl) ?_
  refine lv_iconst (v := 3) hx hb d_Mo_fault_56 (by decide) ?_
  refine lv_icmp_ne (tgt := 67) hx hb d_Mo_fault_57 (by decide) (fun q9 => absurd (by decide : ((3 : Int32) = 3)) q9) (fun _ => ?_)
  refine lv_aload_n hx hb d_Mo_fault_60 rfl (lv_at hl 0 rfl) ?_
  refine va_get (D := D) (ci := 7) (v := .int (-1)) (C := R_Mo) (T := F_Mo) (N := 52) hx hb hts i_Mo hown hK hP 0 rfl rfl 6 (by decide) (hts _ w_422) (fun _ h9 => h9) rfl d_Mo_fault_61 ?_
  refine lv_goto (tgt := 71) hx hb d_Mo_fault_64 (by decide) ?_
  exact xr_i hx hb hr hlocks hP hD hK hS (()) [0] rfl rfl (by decide) [] rfl rfl d_Mo_fault_71

theorem d_Mo_fault_67 : decode b_Mo_fault 67 = .ok (.aload_n 0, 1) := by decide +kernel
theorem d_Mo_fault_68 : decode b_Mo_fault 68 = .ok (.getfield 72, 3) := by decide +kernel
set_option maxHeartbeats 4000000 in
set_option maxRecDepth 100000 in
theorem c_Mo_fault_4 (l : Launch) (D : va_G) (h0 : Nat) (qa : Nat → Nat) (sz : Nat) : Met l y_Mo_fault (Cond.code y_Mo_fault b_Mo_fault 2 (some .int) :: bw) (xR 1 0 0) (va_Pc [.ref h0, .int 4] (xP D [] sz [(h0, .inr (7, [.int 0, .int 0, .int 0, .int 0, .int 0, .int 0, .int (-1), .int (-1), .int 0, .int 0, .int 0, .int 0, .int 0, .int 0, .int 0, .int 0, .ref (qa 0), .ref (qa 1), .ref (qa 2), .ref (qa 3), .int 0, .ref (qa 4), .ref (qa 5), .ref (qa 6), .ref (qa 7), .ref (qa 8), .ref (qa 9), .ref (qa 10), .ref (qa 11), .ref (qa 12), .ref (qa 13), .ref (qa 14), .ref (qa 15), .ref (qa 16), .ref (qa 17), .ref (qa 18), .ref (qa 19), .ref (qa 20), .int 0, .int 0, .int 0, .int 0, .long 0, .long 0, .long 0, .long 0, .long 0, .ref (qa 21), .int 0, .int 0, .int 0, .int 0]))])) (xQ (S := Unit) (fun _ => some (.int (-1))) (fun _ => [(h0, .inr (7, [.int 0, .int 0, .int 0, .int 0, .int 0, .int 0, .int (-1), .int (-1), .int 0, .int 0, .int 0, .int 0, .int 0, .int 0, .int 0, .int 0, .ref (qa 0), .ref (qa 1), .ref (qa 2), .ref (qa 3), .int 0, .ref (qa 4), .ref (qa 5), .ref (qa 6), .ref (qa 7), .ref (qa 8), .ref (qa 9), .ref (qa 10), .ref (qa 11), .ref (qa 12), .ref (qa 13), .ref (qa 14), .ref (qa 15), .ref (qa 16), .ref (qa 17), .ref (qa 18), .ref (qa 19), .ref (qa 20), .int 0, .int 0, .int 0, .int 0, .long 0, .long 0, .long 0, .long 0, .long 0, .ref (qa 21), .int 0, .int 0, .int 0, .int 0]))]) (fun _ => []) D (va_A [(h0, .inr (7, [.int 0, .int 0, .int 0, .int 0, .int 0, .int 0, .int (-1), .int (-1), .int 0, .int 0, .int 0, .int 0, .int 0, .int 0, .int 0, .int 0, .ref (qa 0), .ref (qa 1), .ref (qa 2), .ref (qa 3), .int 0, .ref (qa 4), .ref (qa 5), .ref (qa 6), .ref (qa 7), .ref (qa 8), .ref (qa 9), .ref (qa 10), .ref (qa 11), .ref (qa 12), .ref (qa 13), .ref (qa 14), .ref (qa 15), .ref (qa 16), .ref (qa 17), .ref (qa 18), .ref (qa 19), .ref (qa 20), .int 0, .int 0, .int 0, .int 0, .long 0, .long 0, .long 0, .long 0, .long 0, .ref (qa 21), .int 0, .int 0, .int 0, .int 0]))] sz)) 0 0 (va_A [(h0, .inr (7, [.int 0, .int 0, .int 0, .int 0, .int 0, .int 0, .int (-1), .int (-1), .int 0, .int 0, .int 0, .int 0, .int 0, .int 0, .int 0, .int 0, .ref (qa 0), .ref (qa 1), .ref (qa 2), .ref (qa 3), .int 0, .ref (qa 4), .ref (qa 5), .ref (qa 6), .ref (qa 7), .ref (qa 8), .ref (qa 9), .ref (qa 10), .ref (qa 11), .ref (qa 12), .ref (qa 13), .ref (qa 14), .ref (qa 15), .ref (qa 16), .ref (qa 17), .ref (qa 18), .ref (qa 19), .ref (qa 20), .int 0, .int 0, .int 0, .int 0, .long 0, .long 0, .long 0, .long 0, .long 0, .ref (qa 21), .int 0, .int 0, .int 0, .int 0]))] sz) := by
  refine Met.ofW (cc := b_Mo_fault) (maxL := 2) (ret := (some .int)) (by decide) rfl ?_
  intro p e s m args below meth c s₁ B hml hv
  obtain ⟨rfl, hsz, hP, hK, hD0, hN, hZ⟩ := hv
  have hx := B.exec
  have hb := B.bytes
  have hr := B.returns
  have hlocks := B.notSynchronized
  have hts : ∀ w ∈ bw, w.before _ s = true := fun w h => atoms_spec (ws := Cond.code y_Mo_fault b_Mo_fault 2 (some .int) :: bw) B.pre w (List.mem_cons_of_mem _ h)
  have hown : s.vm.findClass "ObjectForgeModel" = some m.cls := findClass_of_methodNamed B.named
  subst hsz
  have hP0 := hP
  have hD := hD0.self (sz := s.heap.size)
  generalize hAe : va_A [(h0, .inr (7, [.int 0, .int 0, .int 0, .int 0, .int 0, .int 0, .int (-1), .int (-1), .int 0, .int 0, .int 0, .int 0, .int 0, .int 0, .int 0, .int 0, .ref (qa 0), .ref (qa 1), .ref (qa 2), .ref (qa 3), .int 0, .ref (qa 4), .ref (qa 5), .ref (qa 6), .ref (qa 7), .ref (qa 8), .ref (qa 9), .ref (qa 10), .ref (qa 11), .ref (qa 12), .ref (qa 13), .ref (qa 14), .ref (qa 15), .ref (qa 16), .ref (qa 17), .ref (qa 18), .ref (qa 19), .ref (qa 20), .int 0, .int 0, .int 0, .int 0, .long 0, .long 0, .long 0, .long 0, .long 0, .ref (qa 21), .int 0, .int 0, .int 0, .int 0]))] s.heap.size = A at hD hZ ⊢
  have hA : ∀ q : Nat, s.heap.size ≤ q → A q := fun q h => by rw [← hAe]; exact Or.inr h
  have hS : va_S A s.heap s.heap [] := va_S.rf
  have hl := lv_entry ([.ref h0, .int 4]) (n := 2) (Nat.le_of_ble_eq_true rfl)
  rw [lg_entry_eq]
  generalize (lg_sl ([.ref h0, .int 4]) ++ List.replicate (2 - (lg_sl ([.ref h0, .int 4])).length) Slot.unset).toArray = ls at hl ⊢
  have hl : lv_has ls 2 [(0, .ref h0), (1, .int 4)] := hl
  refine lv_aload_n hx hb d_Mo_fault_0 rfl (lv_at hl 0 rfl) ?_
  refine lv_iconst (v := 0) hx hb d_Mo_fault_1 (by decide) ?_
  refine va_put (D := D) (ci := 7) (v := .int 0) (ty := .int) (C := R_Mo) (T := F_Mo) (N := 52) hx hb hts i_Mo t_Mo t_Mo_ok n_Mo hown hK hP hD hS 0 rfl rfl 0 (by decide) (hts _ w_397) (fun _ h9 => h9) rfl (by decide +kernel) rfl rfl (Nat.le_of_ble_eq_true rfl) d_Mo_fault_2 (fun H locs hP hD hS => ?_)
  have hP : va_P D cls [(h0, .inr (7, [.int 0, .int 0, .int 0, .int 0, .int 0, .int 0, .int (-1), .int (-1), .int 0, .int 0, .int 0, .int 0, .int 0, .int 0, .int 0, .int 0, .ref (qa 0), .ref (qa 1), .ref (qa 2), .ref (qa 3), .int 0, .ref (qa 4), .ref (qa 5), .ref (qa 6), .ref (qa 7), .ref (qa 8), .ref (qa 9), .ref (qa 10), .ref (qa 11), .ref (qa 12), .ref (qa 13), .ref (qa 14), .ref (qa 15), .ref (qa 16), .ref (qa 17), .ref (qa 18), .ref (qa 19), .ref (qa 20), .int 0, .int 0, .int 0, .int 0, .long 0, .long 0, .long 0, .long 0, .long 0, .ref (qa 21), .int 0, .int 0, .int 0, .int 0]))] H := hP
  have hD : va_D A [(h0, .inr (7, [.int 0, .int 0, .int 0, .int 0, .int 0, .int 0, .int (-1), .int (-1), .int 0, .int 0, .int 0, .int 0, .int 0, .int 0, .int 0, .int 0, .ref (qa 0), .ref (qa 1), .ref (qa 2), .ref (qa 3), .int 0, .ref (qa 4), .ref (qa 5), .ref (qa 6), .ref (qa 7), .ref (qa 8), .ref (qa 9), .ref (qa 10), .ref (qa 11), .ref (qa 12), .ref (qa 13), .ref (qa 14), .ref (qa 15), .ref (qa 16), .ref (qa 17), .ref (qa 18), .ref (qa 19), .ref (qa 20), .int 0, .int 0, .int 0, .int 0, .long 0, .long 0, .long 0, .long 0, .long 0, .ref (qa 21), .int 0, .int 0, .int 0, .int 0]))] := hD
  refine lv_iload_n hx hb d_Mo_fault_5 rfl (lv_at hl 1 rfl) ?_
  refine lv_if_lt (tgt := 14) hx hb d_Mo_fault_6 (by decide) (fun q9 => absurd q9 (by decide : ¬ ((4 : Int32) < 0))) (fun _ => ?_)
  refine lv_iload_n hx hb d_Mo_fault_9 rfl (lv_at hl 1 rfl) ?_
  refine lv_iconst (v := 4) hx hb d_Mo_fault_10 (by decide) ?_
  refine lv_icmp_le (tgt := 20) hx hb d_Mo_fault_11 (by decide) (fun _ => ?_) (fun q9 => absurd (by decide : ((4 : Int32) ≤ 4)) q9)
  refine lv_iload_n hx hb d_Mo_fault_20 rfl (lv_at hl 1 rfl) ?_
  refine lv_if_ne (tgt := 31) hx hb d_Mo_fault_21 (by decide) (fun _ => ?_) (fun q9 => absurd q9 (by decide : ¬ ((4 : Int32) = 0)))
  refine lv_iload_n hx hb d_Mo_fault_31 rfl (lv_at hl 1 rfl) ?_
  refine lv_iconst (v := 1) hx hb d_Mo_fault_32 (by decide) ?_
  refine lv_icmp_ne (tgt := 43) hx hb d_Mo_fault_33 (by decide) (fun _ => ?_) (fun q9 => absurd q9 (by decide : ¬ ((4 : Int32) = 1)))
  refine lv_iload_n hx hb d_Mo_fault_43 rfl (lv_at hl 1 rfl) ?_
  refine lv_iconst (v := 2) hx hb d_Mo_fault_44 (by decide) ?_
  refine lv_icmp_ne (tgt := 55) hx hb d_Mo_fault_45 (by decide) (fun _ => ?_) (fun q9 => absurd q9 (by decide : ¬ ((4 : Int32) = 2)))
  refine lv_iload_n hx hb d_Mo_fault_55 rfl (lv_at hl 1 rfl) ?_
  refine lv_iconst (v := 3) hx hb d_Mo_fault_56 (by decide) ?_
  refine lv_icmp_ne (tgt := 67) hx hb d_Mo_fault_57 (by decide) (fun _ => ?_) (fun q9 => absurd q9 (by decide : ¬ ((4 : Int32) = 3)))
  refine lv_aload_n hx hb d_Mo_fault_67 rfl (lv_at hl 0 rfl) ?_
  refine va_get (D := D) (ci := 7) (v := .int (-1)) (C := R_Mo) (T := F_Mo) (N := 52) hx hb hts i_Mo hown hK hP 0 rfl rfl 7 (by decide) (hts _ w_423) (fun _ h9 => h9) rfl d_Mo_fault_68 ?_
  exact xr_i hx hb hr hlocks hP hD hK hS (()) [0] rfl rfl (by decide) [] rfl rfl d_Mo_fault_71

theorem d_Mo_fault_14 : decode b_Mo_fault 14 = .ok (.aload_n 0, 1) := by decide +kernel
theorem d_Mo_fault_15 : decode b_Mo_fault 15 = .ok (.iconst 1, 1) := by decide +kernel
theorem d_Mo_fault_16 : decode b_Mo_fault 16 = .ok (.invokevirtual 94, 3) := by decide +kernel
theorem d_Mo_fault_19 : decode b_Mo_fault 19 = .ok (.ireturn, 1) := by decide +kernel
set_option maxHeartbeats 4000000 in
set_option maxRecDepth 100000 in
theorem c_Mo_fault_n (l : Launch) (D : va_G) (h0 : Nat) (qa : Nat → Nat) (p0 : Int32) (h1 : p0 < 0) (sz : Nat) : Met l y_Mo_fault (Cond.code y_Mo_fault b_Mo_fault 2 (some .int) :: bw) (xR 2 0 0) (va_Pc [.ref h0, .int p0] (xP D [] sz [(h0, .inr (7, [.int 0, .int 0, .int 0, .int 0, .int 0, .int 0, .int (-1), .int (-1), .int 0, .int 0, .int 0, .int 0, .int 0, .int 0, .int 0, .int 0, .ref (qa 0), .ref (qa 1), .ref (qa 2), .ref (qa 3), .int 0, .ref (qa 4), .ref (qa 5), .ref (qa 6), .ref (qa 7), .ref (qa 8), .ref (qa 9), .ref (qa 10), .ref (qa 11), .ref (qa 12), .ref (qa 13), .ref (qa 14), .ref (qa 15), .ref (qa 16), .ref (qa 17), .ref (qa 18), .ref (qa 19), .ref (qa 20), .int 0, .int 0, .int 0, .int 0, .long 0, .long 0, .long 0, .long 0, .long 0, .ref (qa 21), .int 0, .int 0, .int 0, .int 0]))])) (xQ (S := Unit) (fun _ => some (.int 0)) (fun _ => [(h0, .inr (7, [.int 1, .int 0, .int 0, .int 0, .int 0, .int 0, .int (-1), .int (-1), .int 0, .int 0, .int 0, .int 0, .int 0, .int 0, .int 0, .int 0, .ref (qa 0), .ref (qa 1), .ref (qa 2), .ref (qa 3), .int 0, .ref (qa 4), .ref (qa 5), .ref (qa 6), .ref (qa 7), .ref (qa 8), .ref (qa 9), .ref (qa 10), .ref (qa 11), .ref (qa 12), .ref (qa 13), .ref (qa 14), .ref (qa 15), .ref (qa 16), .ref (qa 17), .ref (qa 18), .ref (qa 19), .ref (qa 20), .int 0, .int 0, .int 0, .int 0, .long 0, .long 0, .long 0, .long 0, .long 0, .ref (qa 21), .int 0, .int 0, .int 0, .int 0]))]) (fun _ => []) D (va_A [(h0, .inr (7, [.int 0, .int 0, .int 0, .int 0, .int 0, .int 0, .int (-1), .int (-1), .int 0, .int 0, .int 0, .int 0, .int 0, .int 0, .int 0, .int 0, .ref (qa 0), .ref (qa 1), .ref (qa 2), .ref (qa 3), .int 0, .ref (qa 4), .ref (qa 5), .ref (qa 6), .ref (qa 7), .ref (qa 8), .ref (qa 9), .ref (qa 10), .ref (qa 11), .ref (qa 12), .ref (qa 13), .ref (qa 14), .ref (qa 15), .ref (qa 16), .ref (qa 17), .ref (qa 18), .ref (qa 19), .ref (qa 20), .int 0, .int 0, .int 0, .int 0, .long 0, .long 0, .long 0, .long 0, .long 0, .ref (qa 21), .int 0, .int 0, .int 0, .int 0]))] sz)) 0 0 (va_A [(h0, .inr (7, [.int 0, .int 0, .int 0, .int 0, .int 0, .int 0, .int (-1), .int (-1), .int 0, .int 0, .int 0, .int 0, .int 0, .int 0, .int 0, .int 0, .ref (qa 0), .ref (qa 1), .ref (qa 2), .ref (qa 3), .int 0, .ref (qa 4), .ref (qa 5), .ref (qa 6), .ref (qa 7), .ref (qa 8), .ref (qa 9), .ref (qa 10), .ref (qa 11), .ref (qa 12), .ref (qa 13), .ref (qa 14), .ref (qa 15), .ref (qa 16), .ref (qa 17), .ref (qa 18), .ref (qa 19), .ref (qa 20), .int 0, .int 0, .int 0, .int 0, .long 0, .long 0, .long 0, .long 0, .long 0, .ref (qa 21), .int 0, .int 0, .int 0, .int 0]))] sz) := by
  refine Met.ofW (cc := b_Mo_fault) (maxL := 2) (ret := (some .int)) (by decide) rfl ?_
  intro p e s m args below meth c s₁ B hml hv
  obtain ⟨rfl, hsz, hP, hK, hD0, hN, hZ⟩ := hv
  have hx := B.exec
  have hb := B.bytes
  have hr := B.returns
  have hlocks := B.notSynchronized
  have hts : ∀ w ∈ bw, w.before _ s = true := fun w h => atoms_spec (ws := Cond.code y_Mo_fault b_Mo_fault 2 (some .int) :: bw) B.pre w (List.mem_cons_of_mem _ h)
  have hown : s.vm.findClass "ObjectForgeModel" = some m.cls := findClass_of_methodNamed B.named
  subst hsz
  have hP0 := hP
  have hD := hD0.self (sz := s.heap.size)
  generalize hAe : va_A [(h0, .inr (7, [.int 0, .int 0, .int 0, .int 0, .int 0, .int 0, .int (-1), .int (-1), .int 0, .int 0, .int 0, .int 0, .int 0, .int 0, .int 0, .int 0, .ref (qa 0), .ref (qa 1), .ref (qa 2), .ref (qa 3), .int 0, .ref (qa 4), .ref (qa 5), .ref (qa 6), .ref (qa 7), .ref (qa 8), .ref (qa 9), .ref (qa 10), .ref (qa 11), .ref (qa 12), .ref (qa 13), .ref (qa 14), .ref (qa 15), .ref (qa 16), .ref (qa 17), .ref (qa 18), .ref (qa 19), .ref (qa 20), .int 0, .int 0, .int 0, .int 0, .long 0, .long 0, .long 0, .long 0, .long 0, .ref (qa 21), .int 0, .int 0, .int 0, .int 0]))] s.heap.size = A at hD hZ ⊢
  have hA : ∀ q : Nat, s.heap.size ≤ q → A q := fun q h => by rw [← hAe]; exact Or.inr h
  have hS : va_S A s.heap s.heap [] := va_S.rf
  have hl := lv_entry ([.ref h0, .int p0]) (n := 2) (Nat.le_of_ble_eq_true rfl)
  rw [lg_entry_eq]
  generalize (lg_sl ([.ref h0, .int p0]) ++ List.replicate (2 - (lg_sl ([.ref h0, .int p0])).length) Slot.unset).toArray = ls at hl ⊢
  have hl : lv_has ls 2 [(0, .ref h0), (1, .int p0)] := hl
  refine lv_aload_n hx hb d_Mo_fault_0 rfl (lv_at hl 0 rfl) ?_
  refine lv_iconst (v := 0) hx hb d_Mo_fault_1 (by decide) ?_
  refine va_put (D := D) (ci := 7) (v := .int 0) (ty := .int) (C := R_Mo) (T := F_Mo) (N := 52) hx hb hts i_Mo t_Mo t_Mo_ok n_Mo hown hK hP hD hS 0 rfl rfl 0 (by decide) (hts _ w_397) (fun _ h9 => h9) rfl (by decide +kernel) rfl rfl (Nat.le_of_ble_eq_true rfl) d_Mo_fault_2 (fun H locs hP hD hS => ?_)
  have hP : va_P D cls [(h0, .inr (7, [.int 0, .int 0, .int 0, .int 0, .int 0, .int 0, .int (-1), .int (-1), .int 0, .int 0, .int 0, .int 0, .int 0, .int 0, .int 0, .int 0, .ref (qa 0), .ref (qa 1), .ref (qa 2), .ref (qa 3), .int 0, .ref (qa 4), .ref (qa 5), .ref (qa 6), .ref (qa 7), .ref (qa 8), .ref (qa 9), .ref (qa 10), .ref (qa 11), .ref (qa 12), .ref (qa 13), .ref (qa 14), .ref (qa 15), .ref (qa 16), .ref (qa 17), .ref (qa 18), .ref (qa 19), .ref (qa 20), .int 0, .int 0, .int 0, .int 0, .long 0, .long 0, .long 0, .long 0, .long 0, .ref (qa 21), .int 0, .int 0, .int 0, .int 0]))] H := hP
  have hD : va_D A [(h0, .inr (7, [.int 0, .int 0, .int 0, .int 0, .int 0, .int 0, .int (-1), .int (-1), .int 0, .int 0, .int 0, .int 0, .int 0, .int 0, .int 0, .int 0, .ref (qa 0), .ref (qa 1), .ref (qa 2), .ref (qa 3), .int 0, .ref (qa 4), .ref (qa 5), .ref (qa 6), .ref (qa 7), .ref (qa 8), .ref (qa 9), .ref (qa 10), .ref (qa 11), .ref (qa 12), .ref (qa 13), .ref (qa 14), .ref (qa 15), .ref (qa 16), .ref (qa 17), .ref (qa 18), .ref (qa 19), .ref (qa 20), .int 0, .int 0, .int 0, .int 0, .long 0, .long 0, .long 0, .long 0, .long 0, .ref (qa 21), .int 0, .int 0, .int 0, .int 0]))] := hD
  refine lv_iload_n hx hb d_Mo_fault_5 rfl (lv_at hl 1 rfl) ?_
  refine lv_if_lt (tgt := 14) hx hb d_Mo_fault_6 (by decide) (fun _ => ?_) (fun q9 => absurd h1 q9)
  refine lv_aload_n hx hb d_Mo_fault_14 rfl (lv_at hl 0 rfl) ?_
  refine lv_iconst (v := 1) hx hb d_Mo_fault_15 (by decide) ?_
  refine xc_V (As := [.int 1]) (rest := []) (n := 1) (wc := [(h0, .inr (7, [.int 0, .int 0, .int 0, .int 0, .int 0, .int 0, .int (-1), .int (-1), .int 0, .int 0, .int 0, .int 0, .int 0, .int 0, .int 0, .int 0, .ref (qa 0), .ref (qa 1), .ref (qa 2), .ref (qa 3), .int 0, .ref (qa 4), .ref (qa 5), .ref (qa 6), .ref (qa 7), .ref (qa 8), .ref (qa 9), .ref (qa 10), .ref (qa 11), .ref (qa 12), .ref (qa 13), .ref (qa 14), .ref (qa 15), .ref (qa 16), .ref (qa 17), .ref (qa 18), .ref (qa 19), .ref (qa 20), .int 0, .int 0, .int 0, .int 0, .long 0, .long 0, .long 0, .long 0, .long 0, .ref (qa 21), .int 0, .int 0, .int 0, .int 0]))]) (wr := []) (tc := []) (tr := []) ⟨hx, hb, hml, hown, hts⟩ (c_Mo_refuse_1 l D h0 qa H.size) rfl rfl w_452 w_450 w_451 w_557 w_8 (by decide +kernel) ⟨Nat.le_of_ble_eq_true rfl, Nat.le_of_ble_eq_true rfl⟩ hP hD hK hS hA hN hZ [0] [] rfl rfl (by decide) (by decide) (by decide) [] [] rfl rfl (ci := 7) (q0 := 0) (q := (R_Mo, F_Mo, 52)) rfl rfl rfl rfl hl.1 rfl (Nat.le_of_ble_eq_true rfl) d_Mo_fault_16 ⟨Nat.le_of_ble_eq_true rfl, Nat.le_of_ble_eq_true rfl⟩ (fun u1 H locs hP hD hK hS => ?_)
  have hP : va_P D cls [(h0, .inr (7, [.int 1, .int 0, .int 0, .int 0, .int 0, .int 0, .int (-1), .int (-1), .int 0, .int 0, .int 0, .int 0, .int 0, .int 0, .int 0, .int 0, .ref (qa 0), .ref (qa 1), .ref (qa 2), .ref (qa 3), .int 0, .ref (qa 4), .ref (qa 5), .ref (qa 6), .ref (qa 7), .ref (qa 8), .ref (qa 9), .ref (qa 10), .ref (qa 11), .ref (qa 12), .ref (qa 13), .ref (qa 14), .ref (qa 15), .ref (qa 16), .ref (qa 17), .ref (qa 18), .ref (qa 19), .ref (qa 20), .int 0, .int 0, .int 0, .int 0, .long 0, .long 0, .long 0, .long 0, .long 0, .ref (qa 21), .int 0, .int 0, .int 0, .int 0]))] H := hP
  have hD : va_D A [(h0, .inr (7, [.int 1, .int 0, .int 0, .int 0, .int 0, .int 0, .int (-1), .int (-1), .int 0, .int 0, .int 0, .int 0, .int 0, .int 0, .int 0, .int 0, .ref (qa 0), .ref (qa 1), .ref (qa 2), .ref (qa 3), .int 0, .ref (qa 4), .ref (qa 5), .ref (qa 6), .ref (qa 7), .ref (qa 8), .ref (qa 9), .ref (qa 10), .ref (qa 11), .ref (qa 12), .ref (qa 13), .ref (qa 14), .ref (qa 15), .ref (qa 16), .ref (qa 17), .ref (qa 18), .ref (qa 19), .ref (qa 20), .int 0, .int 0, .int 0, .int 0, .long 0, .long 0, .long 0, .long 0, .long 0, .ref (qa 21), .int 0, .int 0, .int 0, .int 0]))] := hD
  have hK : va_K D cls [] s := hK
  refine W.eq (g2 := F0 m 19 ls [.int 0]) rfl ?_
  exact xr_i hx hb hr hlocks hP hD hK hS (()) [0] rfl rfl (by decide) [] rfl rfl d_Mo_fault_19

set_option maxHeartbeats 4000000 in
set_option maxRecDepth 100000 in
theorem c_Mo_fault_b (l : Launch) (D : va_G) (h0 : Nat) (qa : Nat → Nat) (p0 : Int32) (h1 : ¬ p0 < 0) (h2 : ¬ p0 ≤ 4) (sz : Nat) : Met l y_Mo_fault (Cond.code y_Mo_fault b_Mo_fault 2 (some .int) :: bw) (xR 2 0 0) (va_Pc [.ref h0, .int p0] (xP D [] sz [(h0, .inr (7, [.int 0, .int 0, .int 0, .int 0, .int 0, .int 0, .int (-1), .int (-1), .int 0, .int 0, .int 0, .int 0, .int 0, .int 0, .int 0, .int 0, .ref (qa 0), .ref (qa 1), .ref (qa 2), .ref (qa 3), .int 0, .ref (qa 4), .ref (qa 5), .ref (qa 6), .ref (qa 7), .ref (qa 8), .ref (qa 9), .ref (qa 10), .ref (qa 11), .ref (qa 12), .ref (qa 13), .ref (qa 14), .ref (qa 15), .ref (qa 16), .ref (qa 17), .ref (qa 18), .ref (qa 19), .ref (qa 20), .int 0, .int 0, .int 0, .int 0, .long 0, .long 0, .long 0, .long 0, .long 0, .ref (qa 21), .int 0, .int 0, .int 0, .int 0]))])) (xQ (S := Unit) (fun _ => some (.int 0)) (fun _ => [(h0, .inr (7, [.int 1, .int 0, .int 0, .int 0, .int 0, .int 0, .int (-1), .int (-1), .int 0, .int 0, .int 0, .int 0, .int 0, .int 0, .int 0, .int 0, .ref (qa 0), .ref (qa 1), .ref (qa 2), .ref (qa 3), .int 0, .ref (qa 4), .ref (qa 5), .ref (qa 6), .ref (qa 7), .ref (qa 8), .ref (qa 9), .ref (qa 10), .ref (qa 11), .ref (qa 12), .ref (qa 13), .ref (qa 14), .ref (qa 15), .ref (qa 16), .ref (qa 17), .ref (qa 18), .ref (qa 19), .ref (qa 20), .int 0, .int 0, .int 0, .int 0, .long 0, .long 0, .long 0, .long 0, .long 0, .ref (qa 21), .int 0, .int 0, .int 0, .int 0]))]) (fun _ => []) D (va_A [(h0, .inr (7, [.int 0, .int 0, .int 0, .int 0, .int 0, .int 0, .int (-1), .int (-1), .int 0, .int 0, .int 0, .int 0, .int 0, .int 0, .int 0, .int 0, .ref (qa 0), .ref (qa 1), .ref (qa 2), .ref (qa 3), .int 0, .ref (qa 4), .ref (qa 5), .ref (qa 6), .ref (qa 7), .ref (qa 8), .ref (qa 9), .ref (qa 10), .ref (qa 11), .ref (qa 12), .ref (qa 13), .ref (qa 14), .ref (qa 15), .ref (qa 16), .ref (qa 17), .ref (qa 18), .ref (qa 19), .ref (qa 20), .int 0, .int 0, .int 0, .int 0, .long 0, .long 0, .long 0, .long 0, .long 0, .ref (qa 21), .int 0, .int 0, .int 0, .int 0]))] sz)) 0 0 (va_A [(h0, .inr (7, [.int 0, .int 0, .int 0, .int 0, .int 0, .int 0, .int (-1), .int (-1), .int 0, .int 0, .int 0, .int 0, .int 0, .int 0, .int 0, .int 0, .ref (qa 0), .ref (qa 1), .ref (qa 2), .ref (qa 3), .int 0, .ref (qa 4), .ref (qa 5), .ref (qa 6), .ref (qa 7), .ref (qa 8), .ref (qa 9), .ref (qa 10), .ref (qa 11), .ref (qa 12), .ref (qa 13), .ref (qa 14), .ref (qa 15), .ref (qa 16), .ref (qa 17), .ref (qa 18), .ref (qa 19), .ref (qa 20), .int 0, .int 0, .int 0, .int 0, .long 0, .long 0, .long 0, .long 0, .long 0, .ref (qa 21), .int 0, .int 0, .int 0, .int 0]))] sz) := by
  refine Met.ofW (cc := b_Mo_fault) (maxL := 2) (ret := (some .int)) (by decide) rfl ?_
  intro p e s m args below meth c s₁ B hml hv
  obtain ⟨rfl, hsz, hP, hK, hD0, hN, hZ⟩ := hv
  have hx := B.exec
  have hb := B.bytes
  have hr := B.returns
  have hlocks := B.notSynchronized
  have hts : ∀ w ∈ bw, w.before _ s = true := fun w h => atoms_spec (ws := Cond.code y_Mo_fault b_Mo_fault 2 (some .int) :: bw) B.pre w (List.mem_cons_of_mem _ h)
  have hown : s.vm.findClass "ObjectForgeModel" = some m.cls := findClass_of_methodNamed B.named
  subst hsz
  have hP0 := hP
  have hD := hD0.self (sz := s.heap.size)
  generalize hAe : va_A [(h0, .inr (7, [.int 0, .int 0, .int 0, .int 0, .int 0, .int 0, .int (-1), .int (-1), .int 0, .int 0, .int 0, .int 0, .int 0, .int 0, .int 0, .int 0, .ref (qa 0), .ref (qa 1), .ref (qa 2), .ref (qa 3), .int 0, .ref (qa 4), .ref (qa 5), .ref (qa 6), .ref (qa 7), .ref (qa 8), .ref (qa 9), .ref (qa 10), .ref (qa 11), .ref (qa 12), .ref (qa 13), .ref (qa 14), .ref (qa 15), .ref (qa 16), .ref (qa 17), .ref (qa 18), .ref (qa 19), .ref (qa 20), .int 0, .int 0, .int 0, .int 0, .long 0, .long 0, .long 0, .long 0, .long 0, .ref (qa 21), .int 0, .int 0, .int 0, .int 0]))] s.heap.size = A at hD hZ ⊢
  have hA : ∀ q : Nat, s.heap.size ≤ q → A q := fun q h => by rw [← hAe]; exact Or.inr h
  have hS : va_S A s.heap s.heap [] := va_S.rf
  have hl := lv_entry ([.ref h0, .int p0]) (n := 2) (Nat.le_of_ble_eq_true rfl)
  rw [lg_entry_eq]
  generalize (lg_sl ([.ref h0, .int p0]) ++ List.replicate (2 - (lg_sl ([.ref h0, .int p0])).length) Slot.unset).toArray = ls at hl ⊢
  have hl : lv_has ls 2 [(0, .ref h0), (1, .int p0)] := hl
  refine lv_aload_n hx hb d_Mo_fault_0 rfl (lv_at hl 0 rfl) ?_
  refine lv_iconst (v := 0) hx hb d_Mo_fault_1 (by decide) ?_
  refine va_put (D := D) (ci := 7) (v := .int 0) (ty := .int) (C := R_Mo) (T := F_Mo) (N := 52) hx hb hts i_Mo t_Mo t_Mo_ok n_Mo hown hK hP hD hS 0 rfl rfl 0 (by decide) (hts _ w_397) (fun _ h9 => h9) rfl (by decide +kernel) rfl rfl (Nat.le_of_ble_eq_true rfl) d_Mo_fault_2 (fun H locs hP hD hS => ?_)
  have hP : va_P D cls [(h0, .inr (7, [.int 0, .int 0, .int 0, .int 0, .int 0, .int 0, .int (-1), .int (-1), .int 0, .int 0, .int 0, .int 0, .int 0, .int 0, .int 0, .int 0, .ref (qa 0), .ref (qa 1), .ref (qa 2), .ref (qa 3), .int 0, .ref (qa 4), .ref (qa 5), .ref (qa 6), .ref (qa 7), .ref (qa 8), .ref (qa 9), .ref (qa 10), .ref (qa 11), .ref (qa 12), .ref (qa 13), .ref (qa 14), .ref (qa 15), .ref (qa 16), .ref (qa 17), .ref (qa 18), .ref (qa 19), .ref (qa 20), .int 0, .int 0, .int 0, .int 0, .long 0, .long 0, .long 0, .long 0, .long 0, .ref (qa 21), .int 0, .int 0, .int 0, .int 0]))] H := hP
  have hD : va_D A [(h0, .inr (7, [.int 0, .int 0, .int 0, .int 0, .int 0, .int 0, .int (-1), .int (-1), .int 0, .int 0, .int 0, .int 0, .int 0, .int 0, .int 0, .int 0, .ref (qa 0), .ref (qa 1), .ref (qa 2), .ref (qa 3), .int 0, .ref (qa 4), .ref (qa 5), .ref (qa 6), .ref (qa 7), .ref (qa 8), .ref (qa 9), .ref (qa 10), .ref (qa 11), .ref (qa 12), .ref (qa 13), .ref (qa 14), .ref (qa 15), .ref (qa 16), .ref (qa 17), .ref (qa 18), .ref (qa 19), .ref (qa 20), .int 0, .int 0, .int 0, .int 0, .long 0, .long 0, .long 0, .long 0, .long 0, .ref (qa 21), .int 0, .int 0, .int 0, .int 0]))] := hD
  refine lv_iload_n hx hb d_Mo_fault_5 rfl (lv_at hl 1 rfl) ?_
  refine lv_if_lt (tgt := 14) hx hb d_Mo_fault_6 (by decide) (fun q9 => absurd q9 h1) (fun _ => ?_)
  refine lv_iload_n hx hb d_Mo_fault_9 rfl (lv_at hl 1 rfl) ?_
  refine lv_iconst (v := 4) hx hb d_Mo_fault_10 (by decide) ?_
  refine lv_icmp_le (tgt := 20) hx hb d_Mo_fault_11 (by decide) (fun q9 => absurd q9 h2) (fun _ => ?_)
  refine lv_aload_n hx hb d_Mo_fault_14 rfl (lv_at hl 0 rfl) ?_
  refine lv_iconst (v := 1) hx hb d_Mo_fault_15 (by decide) ?_
  refine xc_V (As := [.int 1]) (rest := []) (n := 1) (wc := [(h0, .inr (7, [.int 0, .int 0, .int 0, .int 0, .int 0, .int 0, .int (-1), .int (-1), .int 0, .int 0, .int 0, .int 0, .int 0, .int 0, .int 0, .int 0, .ref (qa 0), .ref (qa 1), .ref (qa 2), .ref (qa 3), .int 0, .ref (qa 4), .ref (qa 5), .ref (qa 6), .ref (qa 7), .ref (qa 8), .ref (qa 9), .ref (qa 10), .ref (qa 11), .ref (qa 12), .ref (qa 13), .ref (qa 14), .ref (qa 15), .ref (qa 16), .ref (qa 17), .ref (qa 18), .ref (qa 19), .ref (qa 20), .int 0, .int 0, .int 0, .int 0, .long 0, .long 0, .long 0, .long 0, .long 0, .ref (qa 21), .int 0, .int 0, .int 0, .int 0]))]) (wr := []) (tc := []) (tr := []) ⟨hx, hb, hml, hown, hts⟩ (c_Mo_refuse_1 l D h0 qa H.size) rfl rfl w_452 w_450 w_451 w_557 w_8 (by decide +kernel) ⟨Nat.le_of_ble_eq_true rfl, Nat.le_of_ble_eq_true rfl⟩ hP hD hK hS hA hN hZ [0] [] rfl rfl (by decide) (by decide) (by decide) [] [] rfl rfl (ci := 7) (q0 := 0) (q := (R_Mo, F_Mo, 52)) rfl rfl rfl rfl hl.1 rfl (Nat.le_of_ble_eq_true rfl) d_Mo_fault_16 ⟨Nat.le_of_ble_eq_true rfl, Nat.le_of_ble_eq_true rfl⟩ (fun u1 H locs hP hD hK hS => ?_)
  have hP : va_P D cls [(h0, .inr (7, [.int 1, .int 0, .int 0, .int 0, .int 0, .int 0, .int (-1), .int (-1), .int 0, .int 0, .int 0, .int 0, .int 0, .int 0, .int 0, .int 0, .ref (qa 0), .ref (qa 1), .ref (qa 2), .ref (qa 3), .int 0, .ref (qa 4), .ref (qa 5), .ref (qa 6), .ref (qa 7), .ref (qa 8), .ref (qa 9), .ref (qa 10), .ref (qa 11), .ref (qa 12), .ref (qa 13), .ref (qa 14), .ref (qa 15), .ref (qa 16), .ref (qa 17), .ref (qa 18), .ref (qa 19), .ref (qa 20), .int 0, .int 0, .int 0, .int 0, .long 0, .long 0, .long 0, .long 0, .long 0, .ref (qa 21), .int 0, .int 0, .int 0, .int 0]))] H := hP
  have hD : va_D A [(h0, .inr (7, [.int 1, .int 0, .int 0, .int 0, .int 0, .int 0, .int (-1), .int (-1), .int 0, .int 0, .int 0, .int 0, .int 0, .int 0, .int 0, .int 0, .ref (qa 0), .ref (qa 1), .ref (qa 2), .ref (qa 3), .int 0, .ref (qa 4), .ref (qa 5), .ref (qa 6), .ref (qa 7), .ref (qa 8), .ref (qa 9), .ref (qa 10), .ref (qa 11), .ref (qa 12), .ref (qa 13), .ref (qa 14), .ref (qa 15), .ref (qa 16), .ref (qa 17), .ref (qa 18), .ref (qa 19), .ref (qa 20), .int 0, .int 0, .int 0, .int 0, .long 0, .long 0, .long 0, .long 0, .long 0, .ref (qa 21), .int 0, .int 0, .int 0, .int 0]))] := hD
  have hK : va_K D cls [] s := hK
  refine W.eq (g2 := F0 m 19 ls [.int 0]) rfl ?_
  exact xr_i hx hb hr hlocks hP hD hK hS (()) [0] rfl rfl (by decide) [] rfl rfl d_Mo_fault_19

theorem d_Mo_link_0 : decode b_Mo_link 0 = .ok (.aload_n 0, 1) := by decide +kernel
theorem d_Mo_link_1 : decode b_Mo_link 1 = .ok (.iconst 0, 1) := by decide +kernel
theorem d_Mo_link_2 : decode b_Mo_link 2 = .ok (.putfield 88, 3) := by decide +kernel
theorem d_Mo_link_5 : decode b_Mo_link 5 = .ok (.iload_n 1, 1) := by decide +kernel
theorem d_Mo_link_6 : decode b_Mo_link 6 = .ok (.bipush 7, 2) := by decide +kernel
theorem d_Mo_link_8 : decode b_Mo_link 8 = .ok (.iand, 1) := by decide +kernel
theorem d_Mo_link_9 : decode b_Mo_link 9 = .ok (.ifCond .eq 9, 3) := by decide +kernel
theorem d_Mo_link_12 : decode b_Mo_link 12 = .ok (.aload_n 0, 1) := by decide +kernel
theorem d_Mo_link_13 : decode b_Mo_link 13 = .ok (.iconst 1, 1) := by decide +kernel
theorem d_Mo_link_14 : decode b_Mo_link 14 = .ok (.invokevirtual 94, 3) := by decide +kernel
theorem d_Mo_link_17 : decode b_Mo_link 17 = .ok (.ireturn, 1) := by decide +kernel
set_option maxHeartbeats 4000000 in
set_option maxRecDepth 100000 in
theorem c_Mo_link_1 (l : Launch) (D : va_G) (h0 : Nat) (qa : Nat → Nat) (p0 : Int32) (h1 : ¬ (p0 &&& 7) = 0) (sz : Nat) : Met l y_Mo_link (Cond.code y_Mo_link b_Mo_link 7 (some .int) :: bw) (xR 2 0 0) (va_Pc [.ref h0, .int p0] (xP D [] sz [(h0, .inr (7, [.int 0, .int 0, .int 0, .int 0, .int 0, .int 0, .int (-1), .int (-1), .int 0, .int 0, .int 0, .int 0, .int 0, .int 0, .int 0, .int 0, .ref (qa 0), .ref (qa 1), .ref (qa 2), .ref (qa 3), .int 0, .ref (qa 4), .ref (qa 5), .ref (qa 6), .ref (qa 7), .ref (qa 8), .ref (qa 9), .ref (qa 10), .ref (qa 11), .ref (qa 12), .ref (qa 13), .ref (qa 14), .ref (qa 15), .ref (qa 16), .ref (qa 17), .ref (qa 18), .ref (qa 19), .ref (qa 20), .int 0, .int 0, .int 0, .int 0, .long 0, .long 0, .long 0, .long 0, .long 0, .ref (qa 21), .int 0, .int 0, .int 0, .int 0]))])) (xQ (S := Unit) (fun _ => some (.int 0)) (fun _ => [(h0, .inr (7, [.int 1, .int 0, .int 0, .int 0, .int 0, .int 0, .int (-1), .int (-1), .int 0, .int 0, .int 0, .int 0, .int 0, .int 0, .int 0, .int 0, .ref (qa 0), .ref (qa 1), .ref (qa 2), .ref (qa 3), .int 0, .ref (qa 4), .ref (qa 5), .ref (qa 6), .ref (qa 7), .ref (qa 8), .ref (qa 9), .ref (qa 10), .ref (qa 11), .ref (qa 12), .ref (qa 13), .ref (qa 14), .ref (qa 15), .ref (qa 16), .ref (qa 17), .ref (qa 18), .ref (qa 19), .ref (qa 20), .int 0, .int 0, .int 0, .int 0, .long 0, .long 0, .long 0, .long 0, .long 0, .ref (qa 21), .int 0, .int 0, .int 0, .int 0]))]) (fun _ => []) D (va_A [(h0, .inr (7, [.int 0, .int 0, .int 0, .int 0, .int 0, .int 0, .int (-1), .int (-1), .int 0, .int 0, .int 0, .int 0, .int 0, .int 0, .int 0, .int 0, .ref (qa 0), .ref (qa 1), .ref (qa 2), .ref (qa 3), .int 0, .ref (qa 4), .ref (qa 5), .ref (qa 6), .ref (qa 7), .ref (qa 8), .ref (qa 9), .ref (qa 10), .ref (qa 11), .ref (qa 12), .ref (qa 13), .ref (qa 14), .ref (qa 15), .ref (qa 16), .ref (qa 17), .ref (qa 18), .ref (qa 19), .ref (qa 20), .int 0, .int 0, .int 0, .int 0, .long 0, .long 0, .long 0, .long 0, .long 0, .ref (qa 21), .int 0, .int 0, .int 0, .int 0]))] sz)) 0 0 (va_A [(h0, .inr (7, [.int 0, .int 0, .int 0, .int 0, .int 0, .int 0, .int (-1), .int (-1), .int 0, .int 0, .int 0, .int 0, .int 0, .int 0, .int 0, .int 0, .ref (qa 0), .ref (qa 1), .ref (qa 2), .ref (qa 3), .int 0, .ref (qa 4), .ref (qa 5), .ref (qa 6), .ref (qa 7), .ref (qa 8), .ref (qa 9), .ref (qa 10), .ref (qa 11), .ref (qa 12), .ref (qa 13), .ref (qa 14), .ref (qa 15), .ref (qa 16), .ref (qa 17), .ref (qa 18), .ref (qa 19), .ref (qa 20), .int 0, .int 0, .int 0, .int 0, .long 0, .long 0, .long 0, .long 0, .long 0, .ref (qa 21), .int 0, .int 0, .int 0, .int 0]))] sz) := by
  refine Met.ofW (cc := b_Mo_link) (maxL := 7) (ret := (some .int)) (by decide) rfl ?_
  intro p e s m args below meth c s₁ B hml hv
  obtain ⟨rfl, hsz, hP, hK, hD0, hN, hZ⟩ := hv
  have hx := B.exec
  have hb := B.bytes
  have hr := B.returns
  have hlocks := B.notSynchronized
  have hts : ∀ w ∈ bw, w.before _ s = true := fun w h => atoms_spec (ws := Cond.code y_Mo_link b_Mo_link 7 (some .int) :: bw) B.pre w (List.mem_cons_of_mem _ h)
  have hown : s.vm.findClass "ObjectForgeModel" = some m.cls := findClass_of_methodNamed B.named
  subst hsz
  have hP0 := hP
  have hD := hD0.self (sz := s.heap.size)
  generalize hAe : va_A [(h0, .inr (7, [.int 0, .int 0, .int 0, .int 0, .int 0, .int 0, .int (-1), .int (-1), .int 0, .int 0, .int 0, .int 0, .int 0, .int 0, .int 0, .int 0, .ref (qa 0), .ref (qa 1), .ref (qa 2), .ref (qa 3), .int 0, .ref (qa 4), .ref (qa 5), .ref (qa 6), .ref (qa 7), .ref (qa 8), .ref (qa 9), .ref (qa 10), .ref (qa 11), .ref (qa 12), .ref (qa 13), .ref (qa 14), .ref (qa 15), .ref (qa 16), .ref (qa 17), .ref (qa 18), .ref (qa 19), .ref (qa 20), .int 0, .int 0, .int 0, .int 0, .long 0, .long 0, .long 0, .long 0, .long 0, .ref (qa 21), .int 0, .int 0, .int 0, .int 0]))] s.heap.size = A at hD hZ ⊢
  have hA : ∀ q : Nat, s.heap.size ≤ q → A q := fun q h => by rw [← hAe]; exact Or.inr h
  have hS : va_S A s.heap s.heap [] := va_S.rf
  have hl := lv_entry ([.ref h0, .int p0]) (n := 7) (Nat.le_of_ble_eq_true rfl)
  rw [lg_entry_eq]
  generalize (lg_sl ([.ref h0, .int p0]) ++ List.replicate (7 - (lg_sl ([.ref h0, .int p0])).length) Slot.unset).toArray = ls at hl ⊢
  have hl : lv_has ls 7 [(0, .ref h0), (1, .int p0)] := hl
  refine lv_aload_n hx hb d_Mo_link_0 rfl (lv_at hl 0 rfl) ?_
  refine lv_iconst (v := 0) hx hb d_Mo_link_1 (by decide) ?_
  refine va_put (D := D) (ci := 7) (v := .int 0) (ty := .int) (C := R_Mo) (T := F_Mo) (N := 52) hx hb hts i_Mo t_Mo t_Mo_ok n_Mo hown hK hP hD hS 0 rfl rfl 0 (by decide) (hts _ w_397) (fun _ h9 => h9) rfl (by decide +kernel) rfl rfl (Nat.le_of_ble_eq_true rfl) d_Mo_link_2 (fun H locs hP hD hS => ?_)
  have hP : va_P D cls [(h0, .inr (7, [.int 0, .int 0, .int 0, .int 0, .int 0, .int 0, .int (-1), .int (-1), .int 0, .int 0, .int 0, .int 0, .int 0, .int 0, .int 0, .int 0, .ref (qa 0), .ref (qa 1), .ref (qa 2), .ref (qa 3), .int 0, .ref (qa 4), .ref (qa 5), .ref (qa 6), .ref (qa 7), .ref (qa 8), .ref (qa 9), .ref (qa 10), .ref (qa 11), .ref (qa 12), .ref (qa 13), .ref (qa 14), .ref (qa 15), .ref (qa 16), .ref (qa 17), .ref (qa 18), .ref (qa 19), .ref (qa 20), .int 0, .int 0, .int 0, .int 0, .long 0, .long 0, .long 0, .long 0, .long 0, .ref (qa 21), .int 0, .int 0, .int 0, .int 0]))] H := hP
  have hD : va_D A [(h0, .inr (7, [.int 0, .int 0, .int 0, .int 0, .int 0, .int 0, .int (-1), .int (-1), .int 0, .int 0, .int 0, .int 0, .int 0, .int 0, .int 0, .int 0, .ref (qa 0), .ref (qa 1), .ref (qa 2), .ref (qa 3), .int 0, .ref (qa 4), .ref (qa 5), .ref (qa 6), .ref (qa 7), .ref (qa 8), .ref (qa 9), .ref (qa 10), .ref (qa 11), .ref (qa 12), .ref (qa 13), .ref (qa 14), .ref (qa 15), .ref (qa 16), .ref (qa 17), .ref (qa 18), .ref (qa 19), .ref (qa 20), .int 0, .int 0, .int 0, .int 0, .long 0, .long 0, .long 0, .long 0, .long 0, .ref (qa 21), .int 0, .int 0, .int 0, .int 0]))] := hD
  refine lv_iload_n hx hb d_Mo_link_5 rfl (lv_at hl 1 rfl) ?_
  refine lv_bipush (v := 7) hx hb d_Mo_link_6 (by decide) ?_
  refine lv_iand hx hb d_Mo_link_8 ?_
  refine lv_if_eq (tgt := 18) hx hb d_Mo_link_9 (by decide) (fun q9 => absurd q9 h1) (fun _ => ?_)
  refine lv_aload_n hx hb d_Mo_link_12 rfl (lv_at hl 0 rfl) ?_
  refine lv_iconst (v := 1) hx hb d_Mo_link_13 (by decide) ?_
  refine xc_V (As := [.int 1]) (rest := []) (n := 1) (wc := [(h0, .inr (7, [.int 0, .int 0, .int 0, .int 0, .int 0, .int 0, .int (-1), .int (-1), .int 0, .int 0, .int 0, .int 0, .int 0, .int 0, .int 0, .int 0, .ref (qa 0), .ref (qa 1), .ref (qa 2), .ref (qa 3), .int 0, .ref (qa 4), .ref (qa 5), .ref (qa 6), .ref (qa 7), .ref (qa 8), .ref (qa 9), .ref (qa 10), .ref (qa 11), .ref (qa 12), .ref (qa 13), .ref (qa 14), .ref (qa 15), .ref (qa 16), .ref (qa 17), .ref (qa 18), .ref (qa 19), .ref (qa 20), .int 0, .int 0, .int 0, .int 0, .long 0, .long 0, .long 0, .long 0, .long 0, .ref (qa 21), .int 0, .int 0, .int 0, .int 0]))]) (wr := []) (tc := []) (tr := []) ⟨hx, hb, hml, hown, hts⟩ (c_Mo_refuse_1 l D h0 qa H.size) rfl rfl w_452 w_450 w_451 w_557 w_8 (by decide +kernel) ⟨Nat.le_of_ble_eq_true rfl, Nat.le_of_ble_eq_true rfl⟩ hP hD hK hS hA hN hZ [0] [] rfl rfl (by decide) (by decide) (by decide) [] [] rfl rfl (ci := 7) (q0 := 0) (q := (R_Mo, F_Mo, 52)) rfl rfl rfl rfl hl.1 rfl (Nat.le_of_ble_eq_true rfl) d_Mo_link_14 ⟨Nat.le_of_ble_eq_true rfl, Nat.le_of_ble_eq_true rfl⟩ (fun u1 H locs hP hD hK hS => ?_)
  have hP : va_P D cls [(h0, .inr (7, [.int 1, .int 0, .int 0, .int 0, .int 0, .int 0, .int (-1), .int (-1), .int 0, .int 0, .int 0, .int 0, .int 0, .int 0, .int 0, .int 0, .ref (qa 0), .ref (qa 1), .ref (qa 2), .ref (qa 3), .int 0, .ref (qa 4), .ref (qa 5), .ref (qa 6), .ref (qa 7), .ref (qa 8), .ref (qa 9), .ref (qa 10), .ref (qa 11), .ref (qa 12), .ref (qa 13), .ref (qa 14), .ref (qa 15), .ref (qa 16), .ref (qa 17), .ref (qa 18), .ref (qa 19), .ref (qa 20), .int 0, .int 0, .int 0, .int 0, .long 0, .long 0, .long 0, .long 0, .long 0, .ref (qa 21), .int 0, .int 0, .int 0, .int 0]))] H := hP
  have hD : va_D A [(h0, .inr (7, [.int 1, .int 0, .int 0, .int 0, .int 0, .int 0, .int (-1), .int (-1), .int 0, .int 0, .int 0, .int 0, .int 0, .int 0, .int 0, .int 0, .ref (qa 0), .ref (qa 1), .ref (qa 2), .ref (qa 3), .int 0, .ref (qa 4), .ref (qa 5), .ref (qa 6), .ref (qa 7), .ref (qa 8), .ref (qa 9), .ref (qa 10), .ref (qa 11), .ref (qa 12), .ref (qa 13), .ref (qa 14), .ref (qa 15), .ref (qa 16), .ref (qa 17), .ref (qa 18), .ref (qa 19), .ref (qa 20), .int 0, .int 0, .int 0, .int 0, .long 0, .long 0, .long 0, .long 0, .long 0, .ref (qa 21), .int 0, .int 0, .int 0, .int 0]))] := hD
  have hK : va_K D cls [] s := hK
  refine W.eq (g2 := F0 m 17 ls [.int 0]) rfl ?_
  exact xr_i hx hb hr hlocks hP hD hK hS (()) [0] rfl rfl (by decide) [] rfl rfl d_Mo_link_17

theorem d_Mo_link_18 : decode b_Mo_link 18 = .ok (.aload_n 0, 1) := by decide +kernel
theorem d_Mo_link_19 : decode b_Mo_link 19 = .ok (.getfield 1010, 3) := by decide +kernel
theorem d_Mo_link_22 : decode b_Mo_link 22 = .ok (.ifCond .ne 9, 3) := by decide +kernel
theorem d_Mo_link_25 : decode b_Mo_link 25 = .ok (.aload_n 0, 1) := by decide +kernel
theorem d_Mo_link_26 : decode b_Mo_link 26 = .ok (.iconst 2, 1) := by decide +kernel
theorem d_Mo_link_27 : decode b_Mo_link 27 = .ok (.invokevirtual 94, 3) := by decide +kernel
theorem d_Mo_link_30 : decode b_Mo_link 30 = .ok (.ireturn, 1) := by decide +kernel
set_option maxHeartbeats 4000000 in
set_option maxRecDepth 100000 in
theorem c_Mo_link_2 (l : Launch) (D : va_G) (h0 : Nat) (qa : Nat → Nat) (p0 : Int32) (h1 : (p0 &&& 7) = 0) (sz : Nat) : Met l y_Mo_link (Cond.code y_Mo_link b_Mo_link 7 (some .int) :: bw) (xR 2 0 0) (va_Pc [.ref h0, .int p0] (xP D [] sz [(h0, .inr (7, [.int 0, .int 0, .int 0, .int 0, .int 0, .int 0, .int (-1), .int (-1), .int 0, .int 0, .int 0, .int 0, .int 0, .int 0, .int 0, .int 0, .ref (qa 0), .ref (qa 1), .ref (qa 2), .ref (qa 3), .int 0, .ref (qa 4), .ref (qa 5), .ref (qa 6), .ref (qa 7), .ref (qa 8), .ref (qa 9), .ref (qa 10), .ref (qa 11), .ref (qa 12), .ref (qa 13), .ref (qa 14), .ref (qa 15), .ref (qa 16), .ref (qa 17), .ref (qa 18), .ref (qa 19), .ref (qa 20), .int 0, .int 0, .int 0, .int 0, .long 0, .long 0, .long 0, .long 0, .long 0, .ref (qa 21), .int 0, .int 0, .int 0, .int 0]))])) (xQ (S := Unit) (fun _ => some (.int 0)) (fun _ => [(h0, .inr (7, [.int 2, .int 0, .int 0, .int 0, .int 0, .int 0, .int (-1), .int (-1), .int 0, .int 0, .int 0, .int 0, .int 0, .int 0, .int 0, .int 0, .ref (qa 0), .ref (qa 1), .ref (qa 2), .ref (qa 3), .int 0, .ref (qa 4), .ref (qa 5), .ref (qa 6), .ref (qa 7), .ref (qa 8), .ref (qa 9), .ref (qa 10), .ref (qa 11), .ref (qa 12), .ref (qa 13), .ref (qa 14), .ref (qa 15), .ref (qa 16), .ref (qa 17), .ref (qa 18), .ref (qa 19), .ref (qa 20), .int 0, .int 0, .int 0, .int 0, .long 0, .long 0, .long 0, .long 0, .long 0, .ref (qa 21), .int 0, .int 0, .int 0, .int 0]))]) (fun _ => []) D (va_A [(h0, .inr (7, [.int 0, .int 0, .int 0, .int 0, .int 0, .int 0, .int (-1), .int (-1), .int 0, .int 0, .int 0, .int 0, .int 0, .int 0, .int 0, .int 0, .ref (qa 0), .ref (qa 1), .ref (qa 2), .ref (qa 3), .int 0, .ref (qa 4), .ref (qa 5), .ref (qa 6), .ref (qa 7), .ref (qa 8), .ref (qa 9), .ref (qa 10), .ref (qa 11), .ref (qa 12), .ref (qa 13), .ref (qa 14), .ref (qa 15), .ref (qa 16), .ref (qa 17), .ref (qa 18), .ref (qa 19), .ref (qa 20), .int 0, .int 0, .int 0, .int 0, .long 0, .long 0, .long 0, .long 0, .long 0, .ref (qa 21), .int 0, .int 0, .int 0, .int 0]))] sz)) 0 0 (va_A [(h0, .inr (7, [.int 0, .int 0, .int 0, .int 0, .int 0, .int 0, .int (-1), .int (-1), .int 0, .int 0, .int 0, .int 0, .int 0, .int 0, .int 0, .int 0, .ref (qa 0), .ref (qa 1), .ref (qa 2), .ref (qa 3), .int 0, .ref (qa 4), .ref (qa 5), .ref (qa 6), .ref (qa 7), .ref (qa 8), .ref (qa 9), .ref (qa 10), .ref (qa 11), .ref (qa 12), .ref (qa 13), .ref (qa 14), .ref (qa 15), .ref (qa 16), .ref (qa 17), .ref (qa 18), .ref (qa 19), .ref (qa 20), .int 0, .int 0, .int 0, .int 0, .long 0, .long 0, .long 0, .long 0, .long 0, .ref (qa 21), .int 0, .int 0, .int 0, .int 0]))] sz) := by
  refine Met.ofW (cc := b_Mo_link) (maxL := 7) (ret := (some .int)) (by decide) rfl ?_
  intro p e s m args below meth c s₁ B hml hv
  obtain ⟨rfl, hsz, hP, hK, hD0, hN, hZ⟩ := hv
  have hx := B.exec
  have hb := B.bytes
  have hr := B.returns
  have hlocks := B.notSynchronized
  have hts : ∀ w ∈ bw, w.before _ s = true := fun w h => atoms_spec (ws := Cond.code y_Mo_link b_Mo_link 7 (some .int) :: bw) B.pre w (List.mem_cons_of_mem _ h)
  have hown : s.vm.findClass "ObjectForgeModel" = some m.cls := findClass_of_methodNamed B.named
  subst hsz
  have hP0 := hP
  have hD := hD0.self (sz := s.heap.size)
  generalize hAe : va_A [(h0, .inr (7, [.int 0, .int 0, .int 0, .int 0, .int 0, .int 0, .int (-1), .int (-1), .int 0, .int 0, .int 0, .int 0, .int 0, .int 0, .int 0, .int 0, .ref (qa 0), .ref (qa 1), .ref (qa 2), .ref (qa 3), .int 0, .ref (qa 4), .ref (qa 5), .ref (qa 6), .ref (qa 7), .ref (qa 8), .ref (qa 9), .ref (qa 10), .ref (qa 11), .ref (qa 12), .ref (qa 13), .ref (qa 14), .ref (qa 15), .ref (qa 16), .ref (qa 17), .ref (qa 18), .ref (qa 19), .ref (qa 20), .int 0, .int 0, .int 0, .int 0, .long 0, .long 0, .long 0, .long 0, .long 0, .ref (qa 21), .int 0, .int 0, .int 0, .int 0]))] s.heap.size = A at hD hZ ⊢
  have hA : ∀ q : Nat, s.heap.size ≤ q → A q := fun q h => by rw [← hAe]; exact Or.inr h
  have hS : va_S A s.heap s.heap [] := va_S.rf
  have hl := lv_entry ([.ref h0, .int p0]) (n := 7) (Nat.le_of_ble_eq_true rfl)
  rw [lg_entry_eq]
  generalize (lg_sl ([.ref h0, .int p0]) ++ List.replicate (7 - (lg_sl ([.ref h0, .int p0])).length) Slot.unset).toArray = ls at hl ⊢
  have hl : lv_has ls 7 [(0, .ref h0), (1, .int p0)] := hl
  refine lv_aload_n hx hb d_Mo_link_0 rfl (lv_at hl 0 rfl) ?_
  refine lv_iconst (v := 0) hx hb d_Mo_link_1 (by decide) ?_
  refine va_put (D := D) (ci := 7) (v := .int 0) (ty := .int) (C := R_Mo) (T := F_Mo) (N := 52) hx hb hts i_Mo t_Mo t_Mo_ok n_Mo hown hK hP hD hS 0 rfl rfl 0 (by decide) (hts _ w_397) (fun _ h9 => h9) rfl (by decide +kernel) rfl rfl (Nat.le_of_ble_eq_true rfl) d_Mo_link_2 (fun H locs hP hD hS => ?_)
  have hP : va_P D cls [(h0, .inr (7, [.int 0, .int 0, .int 0, .int 0, .int 0, .int 0, .int (-1), .int (-1), .int 0, .int 0, .int 0, .int 0, .int 0, .int 0, .int 0, .int 0, .ref (qa 0), .ref (qa 1), .ref (qa 2), .ref (qa 3), .int 0, .ref (qa 4), .ref (qa 5), .ref (qa 6), .ref (qa 7), .ref (qa 8), .ref (qa 9), .ref (qa 10), .ref (qa 11), .ref (qa 12), .ref (qa 13), .ref (qa 14), .ref (qa 15), .ref (qa 16), .ref (qa 17), .ref (qa 18), .ref (qa 19), .ref (qa 20), .int 0, .int 0, .int 0, .int 0, .long 0, .long 0, .long 0, .long 0, .long 0, .ref (qa 21), .int 0, .int 0, .int 0, .int 0]))] H := hP
  have hD : va_D A [(h0, .inr (7, [.int 0, .int 0, .int 0, .int 0, .int 0, .int 0, .int (-1), .int (-1), .int 0, .int 0, .int 0, .int 0, .int 0, .int 0, .int 0, .int 0, .ref (qa 0), .ref (qa 1), .ref (qa 2), .ref (qa 3), .int 0, .ref (qa 4), .ref (qa 5), .ref (qa 6), .ref (qa 7), .ref (qa 8), .ref (qa 9), .ref (qa 10), .ref (qa 11), .ref (qa 12), .ref (qa 13), .ref (qa 14), .ref (qa 15), .ref (qa 16), .ref (qa 17), .ref (qa 18), .ref (qa 19), .ref (qa 20), .int 0, .int 0, .int 0, .int 0, .long 0, .long 0, .long 0, .long 0, .long 0, .ref (qa 21), .int 0, .int 0, .int 0, .int 0]))] := hD
  refine lv_iload_n hx hb d_Mo_link_5 rfl (lv_at hl 1 rfl) ?_
  refine lv_bipush (v := 7) hx hb d_Mo_link_6 (by decide) ?_
  refine lv_iand hx hb d_Mo_link_8 ?_
  refine lv_if_eq (tgt := 18) hx hb d_Mo_link_9 (by decide) (fun _ => ?_) (fun q9 => absurd h1 q9)
  refine lv_aload_n hx hb d_Mo_link_18 rfl (lv_at hl 0 rfl) ?_
  refine va_get (D := D) (ci := 7) (v := .int 0) (C := R_Mo) (T := F_Mo) (N := 52) hx hb hts i_Mo hown hK hP 0 rfl rfl 2 (by decide) (hts _ w_400) (fun _ h9 => h9) rfl d_Mo_link_19 ?_
  refine lv_if_ne (tgt := 31) hx hb d_Mo_link_22 (by decide) (fun q9 => absurd (by decide : ((0 : Int32) = 0)) q9) (fun _ => ?_)
  refine lv_aload_n hx hb d_Mo_link_25 rfl (lv_at hl 0 rfl) ?_
  refine lv_iconst (v := 2) hx hb d_Mo_link_26 (by decide) ?_
  refine xc_V (As := [.int 2]) (rest := []) (n := 1) (wc := [(h0, .inr (7, [.int 0, .int 0, .int 0, .int 0, .int 0, .int 0, .int (-1), .int (-1), .int 0, .int 0, .int 0, .int 0, .int 0, .int 0, .int 0, .int 0, .ref (qa 0), .ref (qa 1), .ref (qa 2), .ref (qa 3), .int 0, .ref (qa 4), .ref (qa 5), .ref (qa 6), .ref (qa 7), .ref (qa 8), .ref (qa 9), .ref (qa 10), .ref (qa 11), .ref (qa 12), .ref (qa 13), .ref (qa 14), .ref (qa 15), .ref (qa 16), .ref (qa 17), .ref (qa 18), .ref (qa 19), .ref (qa 20), .int 0, .int 0, .int 0, .int 0, .long 0, .long 0, .long 0, .long 0, .long 0, .ref (qa 21), .int 0, .int 0, .int 0, .int 0]))]) (wr := []) (tc := []) (tr := []) ⟨hx, hb, hml, hown, hts⟩ (c_Mo_refuse_2 l D h0 qa H.size) rfl rfl w_452 w_450 w_451 w_557 w_8 (by decide +kernel) ⟨Nat.le_of_ble_eq_true rfl, Nat.le_of_ble_eq_true rfl⟩ hP hD hK hS hA hN hZ [0] [] rfl rfl (by decide) (by decide) (by decide) [] [] rfl rfl (ci := 7) (q0 := 0) (q := (R_Mo, F_Mo, 52)) rfl rfl rfl rfl hl.1 rfl (Nat.le_of_ble_eq_true rfl) d_Mo_link_27 ⟨Nat.le_of_ble_eq_true rfl, Nat.le_of_ble_eq_true rfl⟩ (fun u1 H locs hP hD hK hS => ?_)
  have hP : va_P D cls [(h0, .inr (7, [.int 2, .int 0, .int 0, .int 0, .int 0, .int 0, .int (-1), .int (-1), .int 0, .int 0, .int 0, .int 0, .int 0, .int 0, .int 0, .int 0, .ref (qa 0), .ref (qa 1), .ref (qa 2), .ref (qa 3), .int 0, .ref (qa 4), .ref (qa 5), .ref (qa 6), .ref (qa 7), .ref (qa 8), .ref (qa 9), .ref (qa 10), .ref (qa 11), .ref (qa 12), .ref (qa 13), .ref (qa 14), .ref (qa 15), .ref (qa 16), .ref (qa 17), .ref (qa 18), .ref (qa 19), .ref (qa 20), .int 0, .int 0, .int 0, .int 0, .long 0, .long 0, .long 0, .long 0, .long 0, .ref (qa 21), .int 0, .int 0, .int 0, .int 0]))] H := hP
  have hD : va_D A [(h0, .inr (7, [.int 2, .int 0, .int 0, .int 0, .int 0, .int 0, .int (-1), .int (-1), .int 0, .int 0, .int 0, .int 0, .int 0, .int 0, .int 0, .int 0, .ref (qa 0), .ref (qa 1), .ref (qa 2), .ref (qa 3), .int 0, .ref (qa 4), .ref (qa 5), .ref (qa 6), .ref (qa 7), .ref (qa 8), .ref (qa 9), .ref (qa 10), .ref (qa 11), .ref (qa 12), .ref (qa 13), .ref (qa 14), .ref (qa 15), .ref (qa 16), .ref (qa 17), .ref (qa 18), .ref (qa 19), .ref (qa 20), .int 0, .int 0, .int 0, .int 0, .long 0, .long 0, .long 0, .long 0, .long 0, .ref (qa 21), .int 0, .int 0, .int 0, .int 0]))] := hD
  have hK : va_K D cls [] s := hK
  refine W.eq (g2 := F0 m 30 ls [.int 0]) rfl ?_
  exact xr_i hx hb hr hlocks hP hD hK hS (()) [0] rfl rfl (by decide) [] rfl rfl d_Mo_link_30

theorem d_Mo_word_0 : decode b_Mo_word 0 = .ok (.aload_n 0, 1) := by decide +kernel
theorem d_Mo_word_1 : decode b_Mo_word 1 = .ok (.iconst 0, 1) := by decide +kernel
theorem d_Mo_word_2 : decode b_Mo_word 2 = .ok (.putfield 88, 3) := by decide +kernel
theorem d_Mo_word_5 : decode b_Mo_word 5 = .ok (.iload_n 1, 1) := by decide +kernel
theorem d_Mo_word_6 : decode b_Mo_word 6 = .ok (.aload_n 0, 1) := by decide +kernel
theorem d_Mo_word_7 : decode b_Mo_word 7 = .ok (.getfield 1188, 3) := by decide +kernel
theorem d_Mo_word_10 : decode b_Mo_word 10 = .ok (.isub, 1) := by decide +kernel
theorem d_Mo_word_11 : decode b_Mo_word 11 = .ok (.istore_n 2, 1) := by decide +kernel
theorem d_Mo_word_12 : decode b_Mo_word 12 = .ok (.aload_n 0, 1) := by decide +kernel
theorem d_Mo_word_13 : decode b_Mo_word 13 = .ok (.getfield 1191, 3) := by decide +kernel
theorem d_Mo_word_16 : decode b_Mo_word 16 = .ok (.ifCond .eq 23, 3) := by decide +kernel
theorem d_Mo_word_39 : decode b_Mo_word 39 = .ok (.aload_n 0, 1) := by decide +kernel
theorem d_Mo_word_40 : decode b_Mo_word 40 = .ok (.iconst 1, 1) := by decide +kernel
theorem d_Mo_word_41 : decode b_Mo_word 41 = .ok (.invokevirtual 94, 3) := by decide +kernel
theorem d_Mo_word_44 : decode b_Mo_word 44 = .ok (.ireturn, 1) := by decide +kernel
set_option maxHeartbeats 4000000 in
set_option maxRecDepth 100000 in
theorem c_Mo_word (l : Launch) (D : va_G) (h0 : Nat) (qa : Nat → Nat) (p0 : Int32) (sz : Nat) : Met l y_Mo_word (Cond.code y_Mo_word b_Mo_word 3 (some .int) :: bw) (xR 2 0 0) (va_Pc [.ref h0, .int p0] (xP D [] sz [(h0, .inr (7, [.int 0, .int 0, .int 0, .int 0, .int 0, .int 0, .int (-1), .int (-1), .int 0, .int 0, .int 0, .int 0, .int 0, .int 0, .int 0, .int 0, .ref (qa 0), .ref (qa 1), .ref (qa 2), .ref (qa 3), .int 0, .ref (qa 4), .ref (qa 5), .ref (qa 6), .ref (qa 7), .ref (qa 8), .ref (qa 9), .ref (qa 10), .ref (qa 11), .ref (qa 12), .ref (qa 13), .ref (qa 14), .ref (qa 15), .ref (qa 16), .ref (qa 17), .ref (qa 18), .ref (qa 19), .ref (qa 20), .int 0, .int 0, .int 0, .int 0, .long 0, .long 0, .long 0, .long 0, .long 0, .ref (qa 21), .int 0, .int 0, .int 0, .int 0]))])) (xQ (S := Unit) (fun _ => some (.int 0)) (fun _ => [(h0, .inr (7, [.int 1, .int 0, .int 0, .int 0, .int 0, .int 0, .int (-1), .int (-1), .int 0, .int 0, .int 0, .int 0, .int 0, .int 0, .int 0, .int 0, .ref (qa 0), .ref (qa 1), .ref (qa 2), .ref (qa 3), .int 0, .ref (qa 4), .ref (qa 5), .ref (qa 6), .ref (qa 7), .ref (qa 8), .ref (qa 9), .ref (qa 10), .ref (qa 11), .ref (qa 12), .ref (qa 13), .ref (qa 14), .ref (qa 15), .ref (qa 16), .ref (qa 17), .ref (qa 18), .ref (qa 19), .ref (qa 20), .int 0, .int 0, .int 0, .int 0, .long 0, .long 0, .long 0, .long 0, .long 0, .ref (qa 21), .int 0, .int 0, .int 0, .int 0]))]) (fun _ => []) D (va_A [(h0, .inr (7, [.int 0, .int 0, .int 0, .int 0, .int 0, .int 0, .int (-1), .int (-1), .int 0, .int 0, .int 0, .int 0, .int 0, .int 0, .int 0, .int 0, .ref (qa 0), .ref (qa 1), .ref (qa 2), .ref (qa 3), .int 0, .ref (qa 4), .ref (qa 5), .ref (qa 6), .ref (qa 7), .ref (qa 8), .ref (qa 9), .ref (qa 10), .ref (qa 11), .ref (qa 12), .ref (qa 13), .ref (qa 14), .ref (qa 15), .ref (qa 16), .ref (qa 17), .ref (qa 18), .ref (qa 19), .ref (qa 20), .int 0, .int 0, .int 0, .int 0, .long 0, .long 0, .long 0, .long 0, .long 0, .ref (qa 21), .int 0, .int 0, .int 0, .int 0]))] sz)) 0 0 (va_A [(h0, .inr (7, [.int 0, .int 0, .int 0, .int 0, .int 0, .int 0, .int (-1), .int (-1), .int 0, .int 0, .int 0, .int 0, .int 0, .int 0, .int 0, .int 0, .ref (qa 0), .ref (qa 1), .ref (qa 2), .ref (qa 3), .int 0, .ref (qa 4), .ref (qa 5), .ref (qa 6), .ref (qa 7), .ref (qa 8), .ref (qa 9), .ref (qa 10), .ref (qa 11), .ref (qa 12), .ref (qa 13), .ref (qa 14), .ref (qa 15), .ref (qa 16), .ref (qa 17), .ref (qa 18), .ref (qa 19), .ref (qa 20), .int 0, .int 0, .int 0, .int 0, .long 0, .long 0, .long 0, .long 0, .long 0, .ref (qa 21), .int 0, .int 0, .int 0, .int 0]))] sz) := by
  refine Met.ofW (cc := b_Mo_word) (maxL := 3) (ret := (some .int)) (by decide) rfl ?_
  intro p e s m args below meth c s₁ B hml hv
  obtain ⟨rfl, hsz, hP, hK, hD0, hN, hZ⟩ := hv
  have hx := B.exec
  have hb := B.bytes
  have hr := B.returns
  have hlocks := B.notSynchronized
  have hts : ∀ w ∈ bw, w.before _ s = true := fun w h => atoms_spec (ws := Cond.code y_Mo_word b_Mo_word 3 (some .int) :: bw) B.pre w (List.mem_cons_of_mem _ h)
  have hown : s.vm.findClass "ObjectForgeModel" = some m.cls := findClass_of_methodNamed B.named
  subst hsz
  have hP0 := hP
  have hD := hD0.self (sz := s.heap.size)
  generalize hAe : va_A [(h0, .inr (7, [.int 0, .int 0, .int 0, .int 0, .int 0, .int 0, .int (-1), .int (-1), .int 0, .int 0, .int 0, .int 0, .int 0, .int 0, .int 0, .int 0, .ref (qa 0), .ref (qa 1), .ref (qa 2), .ref (qa 3), .int 0, .ref (qa 4), .ref (qa 5), .ref (qa 6), .ref (qa 7), .ref (qa 8), .ref (qa 9), .ref (qa 10), .ref (qa 11), .ref (qa 12), .ref (qa 13), .ref (qa 14), .ref (qa 15), .ref (qa 16), .ref (qa 17), .ref (qa 18), .ref (qa 19), .ref (qa 20), .int 0, .int 0, .int 0, .int 0, .long 0, .long 0, .long 0, .long 0, .long 0, .ref (qa 21), .int 0, .int 0, .int 0, .int 0]))] s.heap.size = A at hD hZ ⊢
  have hA : ∀ q : Nat, s.heap.size ≤ q → A q := fun q h => by rw [← hAe]; exact Or.inr h
  have hS : va_S A s.heap s.heap [] := va_S.rf
  have hl := lv_entry ([.ref h0, .int p0]) (n := 3) (Nat.le_of_ble_eq_true rfl)
  rw [lg_entry_eq]
  generalize (lg_sl ([.ref h0, .int p0]) ++ List.replicate (3 - (lg_sl ([.ref h0, .int p0])).length) Slot.unset).toArray = ls at hl ⊢
  have hl : lv_has ls 3 [(0, .ref h0), (1, .int p0)] := hl
  refine lv_aload_n hx hb d_Mo_word_0 rfl (lv_at hl 0 rfl) ?_
  refine lv_iconst (v := 0) hx hb d_Mo_word_1 (by decide) ?_
  refine va_put (D := D) (ci := 7) (v := .int 0) (ty := .int) (C := R_Mo) (T := F_Mo) (N := 52) hx hb hts i_Mo t_Mo t_Mo_ok n_Mo hown hK hP hD hS 0 rfl rfl 0 (by decide) (hts _ w_397) (fun _ h9 => h9) rfl (by decide +kernel) rfl rfl (Nat.le_of_ble_eq_true rfl) d_Mo_word_2 (fun H locs hP hD hS => ?_)
  have hP : va_P D cls [(h0, .inr (7, [.int 0, .int 0, .int 0, .int 0, .int 0, .int 0, .int (-1), .int (-1), .int 0, .int 0, .int 0, .int 0, .int 0, .int 0, .int 0, .int 0, .ref (qa 0), .ref (qa 1), .ref (qa 2), .ref (qa 3), .int 0, .ref (qa 4), .ref (qa 5), .ref (qa 6), .ref (qa 7), .ref (qa 8), .ref (qa 9), .ref (qa 10), .ref (qa 11), .ref (qa 12), .ref (qa 13), .ref (qa 14), .ref (qa 15), .ref (qa 16), .ref (qa 17), .ref (qa 18), .ref (qa 19), .ref (qa 20), .int 0, .int 0, .int 0, .int 0, .long 0, .long 0, .long 0, .long 0, .long 0, .ref (qa 21), .int 0, .int 0, .int 0, .int 0]))] H := hP
  have hD : va_D A [(h0, .inr (7, [.int 0, .int 0, .int 0, .int 0, .int 0, .int 0, .int (-1), .int (-1), .int 0, .int 0, .int 0, .int 0, .int 0, .int 0, .int 0, .int 0, .ref (qa 0), .ref (qa 1), .ref (qa 2), .ref (qa 3), .int 0, .ref (qa 4), .ref (qa 5), .ref (qa 6), .ref (qa 7), .ref (qa 8), .ref (qa 9), .ref (qa 10), .ref (qa 11), .ref (qa 12), .ref (qa 13), .ref (qa 14), .ref (qa 15), .ref (qa 16), .ref (qa 17), .ref (qa 18), .ref (qa 19), .ref (qa 20), .int 0, .int 0, .int 0, .int 0, .long 0, .long 0, .long 0, .long 0, .long 0, .ref (qa 21), .int 0, .int 0, .int 0, .int 0]))] := hD
  refine lv_iload_n hx hb d_Mo_word_5 rfl (lv_at hl 1 rfl) ?_
  refine lv_aload_n hx hb d_Mo_word_6 rfl (lv_at hl 0 rfl) ?_
  refine va_get (D := D) (ci := 7) (v := .int 0) (C := R_Mo) (T := F_Mo) (N := 52) hx hb hts i_Mo hown hK hP 0 rfl rfl 9 (by decide) (hts _ w_425) (fun _ h9 => h9) rfl d_Mo_word_7 ?_
  refine lv_isub hx hb d_Mo_word_10 ?_
  refine lv_istore_n (lv' := [(2, .int (p0 - 0)), (0, .ref h0), (1, .int p0)]) hx hb d_Mo_word_11 rfl hl (by decide) rfl (fun ls hl => ?_)
  refine lv_aload_n hx hb d_Mo_word_12 rfl (lv_at hl 1 rfl) ?_
  refine va_get (D := D) (ci := 7) (v := .int 0) (C := R_Mo) (T := F_Mo) (N := 52) hx hb hts i_Mo hown hK hP 0 rfl rfl 8 (by decide) (hts _ w_424) (fun _ h9 => h9) rfl d_Mo_word_13 ?_
  refine lv_if_eq (tgt := 39) hx hb d_Mo_word_16 (by decide) (fun _ => ?_) (fun q9 => absurd (by decide : ((0 : Int32) = 0)) q9)
  refine lv_aload_n hx hb d_Mo_word_39 rfl (lv_at hl 1 rfl) ?_
  refine lv_iconst (v := 1) hx hb d_Mo_word_40 (by decide) ?_
  refine xc_V (As := [.int 1]) (rest := []) (n := 1) (wc := [(h0, .inr (7, [.int 0, .int 0, .int 0, .int 0, .int 0, .int 0, .int (-1), .int (-1), .int 0, .int 0, .int 0, .int 0, .int 0, .int 0, .int 0, .int 0, .ref (qa 0), .ref (qa 1), .ref (qa 2), .ref (qa 3), .int 0, .ref (qa 4), .ref (qa 5), .ref (qa 6), .ref (qa 7), .ref (qa 8), .ref (qa 9), .ref (qa 10), .ref (qa 11), .ref (qa 12), .ref (qa 13), .ref (qa 14), .ref (qa 15), .ref (qa 16), .ref (qa 17), .ref (qa 18), .ref (qa 19), .ref (qa 20), .int 0, .int 0, .int 0, .int 0, .long 0, .long 0, .long 0, .long 0, .long 0, .ref (qa 21), .int 0, .int 0, .int 0, .int 0]))]) (wr := []) (tc := []) (tr := []) ⟨hx, hb, hml, hown, hts⟩ (c_Mo_refuse_1 l D h0 qa H.size) rfl rfl w_452 w_450 w_451 w_557 w_8 (by decide +kernel) ⟨Nat.le_of_ble_eq_true rfl, Nat.le_of_ble_eq_true rfl⟩ hP hD hK hS hA hN hZ [0] [] rfl rfl (by decide) (by decide) (by decide) [] [] rfl rfl (ci := 7) (q0 := 0) (q := (R_Mo, F_Mo, 52)) rfl rfl rfl rfl hl.1 rfl (Nat.le_of_ble_eq_true rfl) d_Mo_word_41 ⟨Nat.le_of_ble_eq_true rfl, Nat.le_of_ble_eq_true rfl⟩ (fun u1 H locs hP hD hK hS => ?_)
  have hP : va_P D cls [(h0, .inr (7, [.int 1, .int 0, .int 0, .int 0, .int 0, .int 0, .int (-1), .int (-1), .int 0, .int 0, .int 0, .int 0, .int 0, .int 0, .int 0, .int 0, .ref (qa 0), .ref (qa 1), .ref (qa 2), .ref (qa 3), .int 0, .ref (qa 4), .ref (qa 5), .ref (qa 6), .ref (qa 7), .ref (qa 8), .ref (qa 9), .ref (qa 10), .ref (qa 11), .ref (qa 12), .ref (qa 13), .ref (qa 14), .ref (qa 15), .ref (qa 16), .ref (qa 17), .ref (qa 18), .ref (qa 19), .ref (qa 20), .int 0, .int 0, .int 0, .int 0, .long 0, .long 0, .long 0, .long 0, .long 0, .ref (qa 21), .int 0, .int 0, .int 0, .int 0]))] H := hP
  have hD : va_D A [(h0, .inr (7, [.int 1, .int 0, .int 0, .int 0, .int 0, .int 0, .int (-1), .int (-1), .int 0, .int 0, .int 0, .int 0, .int 0, .int 0, .int 0, .int 0, .ref (qa 0), .ref (qa 1), .ref (qa 2), .ref (qa 3), .int 0, .ref (qa 4), .ref (qa 5), .ref (qa 6), .ref (qa 7), .ref (qa 8), .ref (qa 9), .ref (qa 10), .ref (qa 11), .ref (qa 12), .ref (qa 13), .ref (qa 14), .ref (qa 15), .ref (qa 16), .ref (qa 17), .ref (qa 18), .ref (qa 19), .ref (qa 20), .int 0, .int 0, .int 0, .int 0, .long 0, .long 0, .long 0, .long 0, .long 0, .ref (qa 21), .int 0, .int 0, .int 0, .int 0]))] := hD
  have hK : va_K D cls [] s := hK
  refine W.eq (g2 := F0 m 44 ls [.int 0]) rfl ?_
  exact xr_i hx hb hr hlocks hP hD hK hS (()) [0] rfl rfl (by decide) [] rfl rfl d_Mo_word_44

theorem d_Mo_clear_0 : decode b_Mo_clear 0 = .ok (.aload_n 0, 1) := by decide +kernel
theorem d_Mo_clear_1 : decode b_Mo_clear 1 = .ok (.iconst 0, 1) := by decide +kernel
theorem d_Mo_clear_2 : decode b_Mo_clear 2 = .ok (.putfield 88, 3) := by decide +kernel
theorem d_Mo_clear_5 : decode b_Mo_clear 5 = .ok (.aload_n 0, 1) := by decide +kernel
theorem d_Mo_clear_6 : decode b_Mo_clear 6 = .ok (.getfield 1010, 3) := by decide +kernel
theorem d_Mo_clear_9 : decode b_Mo_clear 9 = .ok (.istore_n 1, 1) := by decide +kernel
theorem d_Mo_clear_10 : decode b_Mo_clear 10 = .ok (.aload_n 0, 1) := by decide +kernel
theorem d_Mo_clear_11 : decode b_Mo_clear 11 = .ok (.iconst 0, 1) := by decide +kernel
theorem d_Mo_clear_12 : decode b_Mo_clear 12 = .ok (.putfield 1010, 3) := by decide +kernel
theorem d_Mo_clear_15 : decode b_Mo_clear 15 = .ok (.aload_n 0, 1) := by decide +kernel
theorem d_Mo_clear_16 : decode b_Mo_clear 16 = .ok (.iconst 0, 1) := by decide +kernel
theorem d_Mo_clear_17 : decode b_Mo_clear 17 = .ok (.putfield 1191, 3) := by decide +kernel
theorem d_Mo_clear_20 : decode b_Mo_clear 20 = .ok (.iload_n 1, 1) := by decide +kernel
theorem d_Mo_clear_21 : decode b_Mo_clear 21 = .ok (.ireturn, 1) := by decide +kernel
set_option maxHeartbeats 4000000 in
set_option maxRecDepth 100000 in
theorem c_Mo_clear (l : Launch) (D : va_G) (h0 : Nat) (qa : Nat → Nat) (sz : Nat) : Met l y_Mo_clear (Cond.code y_Mo_clear b_Mo_clear 2 (some .int) :: bw) (xR 1 0 0) (va_Pc [.ref h0] (xP D [] sz [(h0, .inr (7, [.int 0, .int 0, .int 0, .int 0, .int 0, .int 0, .int (-1), .int (-1), .int 0, .int 0, .int 0, .int 0, .int 0, .int 0, .int 0, .int 0, .ref (qa 0), .ref (qa 1), .ref (qa 2), .ref (qa 3), .int 0, .ref (qa 4), .ref (qa 5), .ref (qa 6), .ref (qa 7), .ref (qa 8), .ref (qa 9), .ref (qa 10), .ref (qa 11), .ref (qa 12), .ref (qa 13), .ref (qa 14), .ref (qa 15), .ref (qa 16), .ref (qa 17), .ref (qa 18), .ref (qa 19), .ref (qa 20), .int 0, .int 0, .int 0, .int 0, .long 0, .long 0, .long 0, .long 0, .long 0, .ref (qa 21), .int 0, .int 0, .int 0, .int 0]))])) (xQ (S := Unit) (fun _ => some (.int 0)) (fun _ => [(h0, .inr (7, [.int 0, .int 0, .int 0, .int 0, .int 0, .int 0, .int (-1), .int (-1), .int 0, .int 0, .int 0, .int 0, .int 0, .int 0, .int 0, .int 0, .ref (qa 0), .ref (qa 1), .ref (qa 2), .ref (qa 3), .int 0, .ref (qa 4), .ref (qa 5), .ref (qa 6), .ref (qa 7), .ref (qa 8), .ref (qa 9), .ref (qa 10), .ref (qa 11), .ref (qa 12), .ref (qa 13), .ref (qa 14), .ref (qa 15), .ref (qa 16), .ref (qa 17), .ref (qa 18), .ref (qa 19), .ref (qa 20), .int 0, .int 0, .int 0, .int 0, .long 0, .long 0, .long 0, .long 0, .long 0, .ref (qa 21), .int 0, .int 0, .int 0, .int 0]))]) (fun _ => []) D (va_A [(h0, .inr (7, [.int 0, .int 0, .int 0, .int 0, .int 0, .int 0, .int (-1), .int (-1), .int 0, .int 0, .int 0, .int 0, .int 0, .int 0, .int 0, .int 0, .ref (qa 0), .ref (qa 1), .ref (qa 2), .ref (qa 3), .int 0, .ref (qa 4), .ref (qa 5), .ref (qa 6), .ref (qa 7), .ref (qa 8), .ref (qa 9), .ref (qa 10), .ref (qa 11), .ref (qa 12), .ref (qa 13), .ref (qa 14), .ref (qa 15), .ref (qa 16), .ref (qa 17), .ref (qa 18), .ref (qa 19), .ref (qa 20), .int 0, .int 0, .int 0, .int 0, .long 0, .long 0, .long 0, .long 0, .long 0, .ref (qa 21), .int 0, .int 0, .int 0, .int 0]))] sz)) 0 0 (va_A [(h0, .inr (7, [.int 0, .int 0, .int 0, .int 0, .int 0, .int 0, .int (-1), .int (-1), .int 0, .int 0, .int 0, .int 0, .int 0, .int 0, .int 0, .int 0, .ref (qa 0), .ref (qa 1), .ref (qa 2), .ref (qa 3), .int 0, .ref (qa 4), .ref (qa 5), .ref (qa 6), .ref (qa 7), .ref (qa 8), .ref (qa 9), .ref (qa 10), .ref (qa 11), .ref (qa 12), .ref (qa 13), .ref (qa 14), .ref (qa 15), .ref (qa 16), .ref (qa 17), .ref (qa 18), .ref (qa 19), .ref (qa 20), .int 0, .int 0, .int 0, .int 0, .long 0, .long 0, .long 0, .long 0, .long 0, .ref (qa 21), .int 0, .int 0, .int 0, .int 0]))] sz) := by
  refine Met.ofW (cc := b_Mo_clear) (maxL := 2) (ret := (some .int)) (by decide) rfl ?_
  intro p e s m args below meth c s₁ B hml hv
  obtain ⟨rfl, hsz, hP, hK, hD0, hN, hZ⟩ := hv
  have hx := B.exec
  have hb := B.bytes
  have hr := B.returns
  have hlocks := B.notSynchronized
  have hts : ∀ w ∈ bw, w.before _ s = true := fun w h => atoms_spec (ws := Cond.code y_Mo_clear b_Mo_clear 2 (some .int) :: bw) B.pre w (List.mem_cons_of_mem _ h)
  have hown : s.vm.findClass "ObjectForgeModel" = some m.cls := findClass_of_methodNamed B.named
  subst hsz
  have hP0 := hP
  have hD := hD0.self (sz := s.heap.size)
  generalize hAe : va_A [(h0, .inr (7, [.int 0, .int 0, .int 0, .int 0, .int 0, .int 0, .int (-1), .int (-1), .int 0, .int 0, .int 0, .int 0, .int 0, .int 0, .int 0, .int 0, .ref (qa 0), .ref (qa 1), .ref (qa 2), .ref (qa 3), .int 0, .ref (qa 4), .ref (qa 5), .ref (qa 6), .ref (qa 7), .ref (qa 8), .ref (qa 9), .ref (qa 10), .ref (qa 11), .ref (qa 12), .ref (qa 13), .ref (qa 14), .ref (qa 15), .ref (qa 16), .ref (qa 17), .ref (qa 18), .ref (qa 19), .ref (qa 20), .int 0, .int 0, .int 0, .int 0, .long 0, .long 0, .long 0, .long 0, .long 0, .ref (qa 21), .int 0, .int 0, .int 0, .int 0]))] s.heap.size = A at hD hZ ⊢
  have hA : ∀ q : Nat, s.heap.size ≤ q → A q := fun q h => by rw [← hAe]; exact Or.inr h
  have hS : va_S A s.heap s.heap [] := va_S.rf
  have hl := lv_entry ([.ref h0]) (n := 2) (Nat.le_of_ble_eq_true rfl)
  rw [lg_entry_eq]
  generalize (lg_sl ([.ref h0]) ++ List.replicate (2 - (lg_sl ([.ref h0])).length) Slot.unset).toArray = ls at hl ⊢
  have hl : lv_has ls 2 [(0, .ref h0)] := hl
  refine lv_aload_n hx hb d_Mo_clear_0 rfl (lv_at hl 0 rfl) ?_
  refine lv_iconst (v := 0) hx hb d_Mo_clear_1 (by decide) ?_
  refine va_put (D := D) (ci := 7) (v := .int 0) (ty := .int) (C := R_Mo) (T := F_Mo) (N := 52) hx hb hts i_Mo t_Mo t_Mo_ok n_Mo hown hK hP hD hS 0 rfl rfl 0 (by decide) (hts _ w_397) (fun _ h9 => h9) rfl (by decide +kernel) rfl rfl (Nat.le_of_ble_eq_true rfl) d_Mo_clear_2 (fun H locs hP hD hS => ?_)
  have hP : va_P D cls [(h0, .inr (7, [.int 0, .int 0, .int 0, .int 0, .int 0, .int 0, .int (-1), .int (-1), .int 0, .int 0, .int 0, .int 0, .int 0, .int 0, .int 0, .int 0, .ref (qa 0), .ref (qa 1), .ref (qa 2), .ref (qa 3), .int 0, .ref (qa 4), .ref (qa 5), .ref (qa 6), .ref (qa 7), .ref (qa 8), .ref (qa 9), .ref (qa 10), .ref (qa 11), .ref (qa 12), .ref (qa 13), .ref (qa 14), .ref (qa 15), .ref (qa 16), .ref (qa 17), .ref (qa 18), .ref (qa 19), .ref (qa 20), .int 0, .int 0, .int 0, .int 0, .long 0, .long 0, .long 0, .long 0, .long 0, .ref (qa 21), .int 0, .int 0, .int 0, .int 0]))] H := hP
  have hD : va_D A [(h0, .inr (7, [.int 0, .int 0, .int 0, .int 0, .int 0, .int 0, .int (-1), .int (-1), .int 0, .int 0, .int 0, .int 0, .int 0, .int 0, .int 0, .int 0, .ref (qa 0), .ref (qa 1), .ref (qa 2), .ref (qa 3), .int 0, .ref (qa 4), .ref (qa 5), .ref (qa 6), .ref (qa 7), .ref (qa 8), .ref (qa 9), .ref (qa 10), .ref (qa 11), .ref (qa 12), .ref (qa 13), .ref (qa 14), .ref (qa 15), .ref (qa 16), .ref (qa 17), .ref (qa 18), .ref (qa 19), .ref (qa 20), .int 0, .int 0, .int 0, .int 0, .long 0, .long 0, .long 0, .long 0, .long 0, .ref (qa 21), .int 0, .int 0, .int 0, .int 0]))] := hD
  refine lv_aload_n hx hb d_Mo_clear_5 rfl (lv_at hl 0 rfl) ?_
  refine va_get (D := D) (ci := 7) (v := .int 0) (C := R_Mo) (T := F_Mo) (N := 52) hx hb hts i_Mo hown hK hP 0 rfl rfl 2 (by decide) (hts _ w_400) (fun _ h9 => h9) rfl d_Mo_clear_6 ?_
  refine lv_istore_n (lv' := [(1, .int 0), (0, .ref h0)]) hx hb d_Mo_clear_9 rfl hl (by decide) rfl (fun ls hl => ?_)
  refine lv_aload_n hx hb d_Mo_clear_10 rfl (lv_at hl 1 rfl) ?_
  refine lv_iconst (v := 0) hx hb d_Mo_clear_11 (by decide) ?_
  refine va_put (D := D) (ci := 7) (v := .int 0) (ty := .int) (C := R_Mo) (T := F_Mo) (N := 52) hx hb hts i_Mo t_Mo t_Mo_ok n_Mo hown hK hP hD hS 0 rfl rfl 2 (by decide) (hts _ w_400) (fun _ h9 => h9) rfl (by decide +kernel) rfl rfl (Nat.le_of_ble_eq_true rfl) d_Mo_clear_12 (fun H locs hP hD hS => ?_)
  have hP : va_P D cls [(h0, .inr (7, [.int 0, .int 0, .int 0, .int 0, .int 0, .int 0, .int (-1), .int (-1), .int 0, .int 0, .int 0, .int 0, .int 0, .int 0, .int 0, .int 0, .ref (qa 0), .ref (qa 1), .ref (qa 2), .ref (qa 3), .int 0, .ref (qa 4), .ref (qa 5), .ref (qa 6), .ref (qa 7), .ref (qa 8), .ref (qa 9), .ref (qa 10), .ref (qa 11), .ref (qa 12), .ref (qa 13), .ref (qa 14), .ref (qa 15), .ref (qa 16), .ref (qa 17), .ref (qa 18), .ref (qa 19), .ref (qa 20), .int 0, .int 0, .int 0, .int 0, .long 0, .long 0, .long 0, .long 0, .long 0, .ref (qa 21), .int 0, .int 0, .int 0, .int 0]))] H := hP
  have hD : va_D A [(h0, .inr (7, [.int 0, .int 0, .int 0, .int 0, .int 0, .int 0, .int (-1), .int (-1), .int 0, .int 0, .int 0, .int 0, .int 0, .int 0, .int 0, .int 0, .ref (qa 0), .ref (qa 1), .ref (qa 2), .ref (qa 3), .int 0, .ref (qa 4), .ref (qa 5), .ref (qa 6), .ref (qa 7), .ref (qa 8), .ref (qa 9), .ref (qa 10), .ref (qa 11), .ref (qa 12), .ref (qa 13), .ref (qa 14), .ref (qa 15), .ref (qa 16), .ref (qa 17), .ref (qa 18), .ref (qa 19), .ref (qa 20), .int 0, .int 0, .int 0, .int 0, .long 0, .long 0, .long 0, .long 0, .long 0, .ref (qa 21), .int 0, .int 0, .int 0, .int 0]))] := hD
  refine lv_aload_n hx hb d_Mo_clear_15 rfl (lv_at hl 1 rfl) ?_
  refine lv_iconst (v := 0) hx hb d_Mo_clear_16 (by decide) ?_
  refine va_put (D := D) (ci := 7) (v := .int 0) (ty := .boolean) (C := R_Mo) (T := F_Mo) (N := 52) hx hb hts i_Mo t_Mo t_Mo_ok n_Mo hown hK hP hD hS 0 rfl rfl 8 (by decide) (hts _ w_424) (fun _ h9 => h9) rfl (by decide +kernel) rfl rfl (Nat.le_of_ble_eq_true rfl) d_Mo_clear_17 (fun H locs hP hD hS => ?_)
  have hP : va_P D cls [(h0, .inr (7, [.int 0, .int 0, .int 0, .int 0, .int 0, .int 0, .int (-1), .int (-1), .int 0, .int 0, .int 0, .int 0, .int 0, .int 0, .int 0, .int 0, .ref (qa 0), .ref (qa 1), .ref (qa 2), .ref (qa 3), .int 0, .ref (qa 4), .ref (qa 5), .ref (qa 6), .ref (qa 7), .ref (qa 8), .ref (qa 9), .ref (qa 10), .ref (qa 11), .ref (qa 12), .ref (qa 13), .ref (qa 14), .ref (qa 15), .ref (qa 16), .ref (qa 17), .ref (qa 18), .ref (qa 19), .ref (qa 20), .int 0, .int 0, .int 0, .int 0, .long 0, .long 0, .long 0, .long 0, .long 0, .ref (qa 21), .int 0, .int 0, .int 0, .int 0]))] H := hP
  have hD : va_D A [(h0, .inr (7, [.int 0, .int 0, .int 0, .int 0, .int 0, .int 0, .int (-1), .int (-1), .int 0, .int 0, .int 0, .int 0, .int 0, .int 0, .int 0, .int 0, .ref (qa 0), .ref (qa 1), .ref (qa 2), .ref (qa 3), .int 0, .ref (qa 4), .ref (qa 5), .ref (qa 6), .ref (qa 7), .ref (qa 8), .ref (qa 9), .ref (qa 10), .ref (qa 11), .ref (qa 12), .ref (qa 13), .ref (qa 14), .ref (qa 15), .ref (qa 16), .ref (qa 17), .ref (qa 18), .ref (qa 19), .ref (qa 20), .int 0, .int 0, .int 0, .int 0, .long 0, .long 0, .long 0, .long 0, .long 0, .ref (qa 21), .int 0, .int 0, .int 0, .int 0]))] := hD
  refine lv_iload_n hx hb d_Mo_clear_20 rfl (lv_at hl 0 rfl) ?_
  exact xr_i hx hb hr hlocks hP hD hK hS (()) [0] rfl rfl (by decide) [] rfl rfl d_Mo_clear_21

theorem d_Mo_count_0 : decode b_Mo_count 0 = .ok (.aload_n 0, 1) := by decide +kernel
theorem d_Mo_count_1 : decode b_Mo_count 1 = .ok (.iconst 0, 1) := by decide +kernel
theorem d_Mo_count_2 : decode b_Mo_count 2 = .ok (.putfield 88, 3) := by decide +kernel
theorem d_Mo_count_5 : decode b_Mo_count 5 = .ok (.iload_n 1, 1) := by decide +kernel
theorem d_Mo_count_6 : decode b_Mo_count 6 = .ok (.iconst 4, 1) := by decide +kernel
theorem d_Mo_count_7 : decode b_Mo_count 7 = .ok (.invokestatic 1181, 3) := by decide +kernel
theorem d_Mo_count_10 : decode b_Mo_count 10 = .ok (.ifCond .eq 19, 3) := by decide +kernel
theorem d_Mo_count_13 : decode b_Mo_count 13 = .ok (.iload_n 1, 1) := by decide +kernel
theorem d_Mo_count_14 : decode b_Mo_count 14 = .ok (.iconst 1, 1) := by decide +kernel
theorem d_Mo_count_15 : decode b_Mo_count 15 = .ok (.if_icmp .le 20, 3) := by decide +kernel
theorem d_Mo_count_35 : decode b_Mo_count 35 = .ok (.iload_n 1, 1) := by decide +kernel
theorem d_Mo_count_36 : decode b_Mo_count 36 = .ok (.ifCond .ne 10, 3) := by decide +kernel
theorem d_Mo_count_39 : decode b_Mo_count 39 = .ok (.aload_n 0, 1) := by decide +kernel
theorem d_Mo_count_40 : decode b_Mo_count 40 = .ok (.getfield 91, 3) := by decide +kernel
theorem d_Mo_count_43 : decode b_Mo_count 43 = .ok (.goto 35, 3) := by decide +kernel
theorem d_Mo_count_78 : decode b_Mo_count 78 = .ok (.ireturn, 1) := by decide +kernel
set_option maxHeartbeats 4000000 in
set_option maxRecDepth 100000 in
theorem c_Mo_count_0 (l : Launch) (D : va_G) (h0 : Nat) (qa : Nat → Nat) (p1 : Int32) (sz : Nat) : Met l y_Mo_count (Cond.code y_Mo_count b_Mo_count 3 (some .int) :: bw) (xR 2 0 0) (va_Pc [.ref h0, .int 0, .int p1] (xP D [] sz [(h0, .inr (7, [.int 0, .int 0, .int 0, .int 0, .int 0, .int 0, .int (-1), .int (-1), .int 0, .int 0, .int 0, .int 0, .int 0, .int 0, .int 0, .int 0, .ref (qa 0), .ref (qa 1), .ref (qa 2), .ref (qa 3), .int 0, .ref (qa 4), .ref (qa 5), .ref (qa 6), .ref (qa 7), .ref (qa 8), .ref (qa 9), .ref (qa 10), .ref (qa 11), .ref (qa 12), .ref (qa 13), .ref (qa 14), .ref (qa 15), .ref (qa 16), .ref (qa 17), .ref (qa 18), .ref (qa 19), .ref (qa 20), .int 0, .int 0, .int 0, .int 0, .long 0, .long 0, .long 0, .long 0, .long 0, .ref (qa 21), .int 0, .int 0, .int 0, .int 0]))])) (xQ (S := Unit) (fun _ => some (.int 0)) (fun _ => [(h0, .inr (7, [.int 0, .int 0, .int 0, .int 0, .int 0, .int 0, .int (-1), .int (-1), .int 0, .int 0, .int 0, .int 0, .int 0, .int 0, .int 0, .int 0, .ref (qa 0), .ref (qa 1), .ref (qa 2), .ref (qa 3), .int 0, .ref (qa 4), .ref (qa 5), .ref (qa 6), .ref (qa 7), .ref (qa 8), .ref (qa 9), .ref (qa 10), .ref (qa 11), .ref (qa 12), .ref (qa 13), .ref (qa 14), .ref (qa 15), .ref (qa 16), .ref (qa 17), .ref (qa 18), .ref (qa 19), .ref (qa 20), .int 0, .int 0, .int 0, .int 0, .long 0, .long 0, .long 0, .long 0, .long 0, .ref (qa 21), .int 0, .int 0, .int 0, .int 0]))]) (fun _ => []) D (va_A [(h0, .inr (7, [.int 0, .int 0, .int 0, .int 0, .int 0, .int 0, .int (-1), .int (-1), .int 0, .int 0, .int 0, .int 0, .int 0, .int 0, .int 0, .int 0, .ref (qa 0), .ref (qa 1), .ref (qa 2), .ref (qa 3), .int 0, .ref (qa 4), .ref (qa 5), .ref (qa 6), .ref (qa 7), .ref (qa 8), .ref (qa 9), .ref (qa 10), .ref (qa 11), .ref (qa 12), .ref (qa 13), .ref (qa 14), .ref (qa 15), .ref (qa 16), .ref (qa 17), .ref (qa 18), .ref (qa 19), .ref (qa 20), .int 0, .int 0, .int 0, .int 0, .long 0, .long 0, .long 0, .long 0, .long 0, .ref (qa 21), .int 0, .int 0, .int 0, .int 0]))] sz)) 0 0 (va_A [(h0, .inr (7, [.int 0, .int 0, .int 0, .int 0, .int 0, .int 0, .int (-1), .int (-1), .int 0, .int 0, .int 0, .int 0, .int 0, .int 0, .int 0, .int 0, .ref (qa 0), .ref (qa 1), .ref (qa 2), .ref (qa 3), .int 0, .ref (qa 4), .ref (qa 5), .ref (qa 6), .ref (qa 7), .ref (qa 8), .ref (qa 9), .ref (qa 10), .ref (qa 11), .ref (qa 12), .ref (qa 13), .ref (qa 14), .ref (qa 15), .ref (qa 16), .ref (qa 17), .ref (qa 18), .ref (qa 19), .ref (qa 20), .int 0, .int 0, .int 0, .int 0, .long 0, .long 0, .long 0, .long 0, .long 0, .ref (qa 21), .int 0, .int 0, .int 0, .int 0]))] sz) := by
  refine Met.ofW (cc := b_Mo_count) (maxL := 3) (ret := (some .int)) (by decide) rfl ?_
  intro p e s m args below meth c s₁ B hml hv
  obtain ⟨rfl, hsz, hP, hK, hD0, hN, hZ⟩ := hv
  have hx := B.exec
  have hb := B.bytes
  have hr := B.returns
  have hlocks := B.notSynchronized
  have hts : ∀ w ∈ bw, w.before _ s = true := fun w h => atoms_spec (ws := Cond.code y_Mo_count b_Mo_count 3 (some .int) :: bw) B.pre w (List.mem_cons_of_mem _ h)
  have hown : s.vm.findClass "ObjectForgeModel" = some m.cls := findClass_of_methodNamed B.named
  subst hsz
  have hP0 := hP
  have hD := hD0.self (sz := s.heap.size)
  generalize hAe : va_A [(h0, .inr (7, [.int 0, .int 0, .int 0, .int 0, .int 0, .int 0, .int (-1), .int (-1), .int 0, .int 0, .int 0, .int 0, .int 0, .int 0, .int 0, .int 0, .ref (qa 0), .ref (qa 1), .ref (qa 2), .ref (qa 3), .int 0, .ref (qa 4), .ref (qa 5), .ref (qa 6), .ref (qa 7), .ref (qa 8), .ref (qa 9), .ref (qa 10), .ref (qa 11), .ref (qa 12), .ref (qa 13), .ref (qa 14), .ref (qa 15), .ref (qa 16), .ref (qa 17), .ref (qa 18), .ref (qa 19), .ref (qa 20), .int 0, .int 0, .int 0, .int 0, .long 0, .long 0, .long 0, .long 0, .long 0, .ref (qa 21), .int 0, .int 0, .int 0, .int 0]))] s.heap.size = A at hD hZ ⊢
  have hA : ∀ q : Nat, s.heap.size ≤ q → A q := fun q h => by rw [← hAe]; exact Or.inr h
  have hS : va_S A s.heap s.heap [] := va_S.rf
  have hl := lv_entry ([.ref h0, .int 0, .int p1]) (n := 3) (Nat.le_of_ble_eq_true rfl)
  rw [lg_entry_eq]
  generalize (lg_sl ([.ref h0, .int 0, .int p1]) ++ List.replicate (3 - (lg_sl ([.ref h0, .int 0, .int p1])).length) Slot.unset).toArray = ls at hl ⊢
  have hl : lv_has ls 3 [(0, .ref h0), (1, .int 0), (2, .int p1)] := hl
  refine lv_aload_n hx hb d_Mo_count_0 rfl (lv_at hl 0 rfl) ?_
  refine lv_iconst (v := 0) hx hb d_Mo_count_1 (by decide) ?_
  refine va_put (D := D) (ci := 7) (v := .int 0) (ty := .int) (C := R_Mo) (T := F_Mo) (N := 52) hx hb hts i_Mo t_Mo t_Mo_ok n_Mo hown hK hP hD hS 0 rfl rfl 0 (by decide) (hts _ w_397) (fun _ h9 => h9) rfl (by decide +kernel) rfl rfl (Nat.le_of_ble_eq_true rfl) d_Mo_count_2 (fun H locs hP hD hS => ?_)
  have hP : va_P D cls [(h0, .inr (7, [.int 0, .int 0, .int 0, .int 0, .int 0, .int 0, .int (-1), .int (-1), .int 0, .int 0, .int 0, .int 0, .int 0, .int 0, .int 0, .int 0, .ref (qa 0), .ref (qa 1), .ref (qa 2), .ref (qa 3), .int 0, .ref (qa 4), .ref (qa 5), .ref (qa 6), .ref (qa 7), .ref (qa 8), .ref (qa 9), .ref (qa 10), .ref (qa 11), .ref (qa 12), .ref (qa 13), .ref (qa 14), .ref (qa 15), .ref (qa 16), .ref (qa 17), .ref (qa 18), .ref (qa 19), .ref (qa 20), .int 0, .int 0, .int 0, .int 0, .long 0, .long 0, .long 0, .long 0, .long 0, .ref (qa 21), .int 0, .int 0, .int 0, .int 0]))] H := hP
  have hD : va_D A [(h0, .inr (7, [.int 0, .int 0, .int 0, .int 0, .int 0, .int 0, .int (-1), .int (-1), .int 0, .int 0, .int 0, .int 0, .int 0, .int 0, .int 0, .int 0, .ref (qa 0), .ref (qa 1), .ref (qa 2), .ref (qa 3), .int 0, .ref (qa 4), .ref (qa 5), .ref (qa 6), .ref (qa 7), .ref (qa 8), .ref (qa 9), .ref (qa 10), .ref (qa 11), .ref (qa 12), .ref (qa 13), .ref (qa 14), .ref (qa 15), .ref (qa 16), .ref (qa 17), .ref (qa 18), .ref (qa 19), .ref (qa 20), .int 0, .int 0, .int 0, .int 0, .long 0, .long 0, .long 0, .long 0, .long 0, .ref (qa 21), .int 0, .int 0, .int 0, .int 0]))] := hD
  refine lv_iload_n hx hb d_Mo_count_5 rfl (lv_at hl 1 rfl) ?_
  refine lv_iconst (v := 4) hx hb d_Mo_count_6 (by decide) ?_
  refine xc_S (As := [.int 0, .int 4]) (rest := []) (n := 2) (wc := []) (wr := [(h0, .inr (7, [.int 0, .int 0, .int 0, .int 0, .int 0, .int 0, .int (-1), .int (-1), .int 0, .int 0, .int 0, .int 0, .int 0, .int 0, .int 0, .int 0, .ref (qa 0), .ref (qa 1), .ref (qa 2), .ref (qa 3), .int 0, .ref (qa 4), .ref (qa 5), .ref (qa 6), .ref (qa 7), .ref (qa 8), .ref (qa 9), .ref (qa 10), .ref (qa 11), .ref (qa 12), .ref (qa 13), .ref (qa 14), .ref (qa 15), .ref (qa 16), .ref (qa 17), .ref (qa 18), .ref (qa 19), .ref (qa 20), .int 0, .int 0, .int 0, .int 0, .long 0, .long 0, .long 0, .long 0, .long 0, .ref (qa 21), .int 0, .int 0, .int 0, .int 0]))]) (tc := []) (tr := []) ⟨hx, hb, hml, hown, hts⟩ (c_Mo_within_0 l D H.size) rfl rfl w_510 w_508 w_509 w_8 (by decide +kernel) ⟨Nat.le_of_ble_eq_true rfl, Nat.le_of_ble_eq_true rfl⟩ hP hD hK hS hA hN hZ [] [0] rfl rfl (by decide) (by decide) (by decide) [] [] rfl rfl rfl hl.1 rfl (Nat.le_of_ble_eq_true rfl) d_Mo_count_7 ⟨Nat.le_of_ble_eq_true rfl, Nat.le_of_ble_eq_true rfl⟩ (fun u1 H locs hP hD hK hS => ?_)
  have hP : va_P D cls [(h0, .inr (7, [.int 0, .int 0, .int 0, .int 0, .int 0, .int 0, .int (-1), .int (-1), .int 0, .int 0, .int 0, .int 0, .int 0, .int 0, .int 0, .int 0, .ref (qa 0), .ref (qa 1), .ref (qa 2), .ref (qa 3), .int 0, .ref (qa 4), .ref (qa 5), .ref (qa 6), .ref (qa 7), .ref (qa 8), .ref (qa 9), .ref (qa 10), .ref (qa 11), .ref (qa 12), .ref (qa 13), .ref (qa 14), .ref (qa 15), .ref (qa 16), .ref (qa 17), .ref (qa 18), .ref (qa 19), .ref (qa 20), .int 0, .int 0, .int 0, .int 0, .long 0, .long 0, .long 0, .long 0, .long 0, .ref (qa 21), .int 0, .int 0, .int 0, .int 0]))] H := hP
  have hD : va_D A [(h0, .inr (7, [.int 0, .int 0, .int 0, .int 0, .int 0, .int 0, .int (-1), .int (-1), .int 0, .int 0, .int 0, .int 0, .int 0, .int 0, .int 0, .int 0, .ref (qa 0), .ref (qa 1), .ref (qa 2), .ref (qa 3), .int 0, .ref (qa 4), .ref (qa 5), .ref (qa 6), .ref (qa 7), .ref (qa 8), .ref (qa 9), .ref (qa 10), .ref (qa 11), .ref (qa 12), .ref (qa 13), .ref (qa 14), .ref (qa 15), .ref (qa 16), .ref (qa 17), .ref (qa 18), .ref (qa 19), .ref (qa 20), .int 0, .int 0, .int 0, .int 0, .long 0, .long 0, .long 0, .long 0, .long 0, .ref (qa 21), .int 0, .int 0, .int 0, .int 0]))] := hD
  have hK : va_K D cls [] s := hK
  refine W.eq (g2 := F0 m 10 ls [.int 1]) rfl ?_
  refine lv_if_eq (tgt := 29) hx hb d_Mo_count_10 (by decide) (fun q9 => absurd q9 (by decide : ¬ ((1 : Int32) = 0))) (fun _ => ?_)
  refine lv_iload_n hx hb d_Mo_count_13 rfl (lv_at hl 1 rfl) ?_
  refine lv_iconst (v := 1) hx hb d_Mo_count_14 (by decide) ?_
  refine lv_icmp_le (tgt := 35) hx hb d_Mo_count_15 (by decide) (fun _ => ?_) (fun q9 => absurd (by decide : ((0 : Int32) ≤ 1)) q9)
  refine lv_iload_n hx hb d_Mo_count_35 rfl (lv_at hl 1 rfl) ?_
  refine lv_if_ne (tgt := 46) hx hb d_Mo_count_36 (by decide) (fun q9 => absurd (by decide : ((0 : Int32) = 0)) q9) (fun _ => ?_)
  refine lv_aload_n hx hb d_Mo_count_39 rfl (lv_at hl 0 rfl) ?_
  refine va_get (D := D) (ci := 7) (v := .int 0) (C := R_Mo) (T := F_Mo) (N := 52) hx hb hts i_Mo hown hK hP 0 rfl rfl 1 (by decide) (hts _ w_398) (fun _ h9 => h9) rfl d_Mo_count_40 ?_
  refine lv_goto (tgt := 78) hx hb d_Mo_count_43 (by decide) ?_
  exact xr_i hx hb hr hlocks hP hD hK hS (()) [0] rfl rfl (by decide) [] rfl rfl d_Mo_count_78

theorem d_Mo_count_46 : decode b_Mo_count 46 = .ok (.iload_n 1, 1) := by decide +kernel
theorem d_Mo_count_47 : decode b_Mo_count 47 = .ok (.iconst 1, 1) := by decide +kernel
theorem d_Mo_count_48 : decode b_Mo_count 48 = .ok (.if_icmp .ne 10, 3) := by decide +kernel
theorem d_Mo_count_51 : decode b_Mo_count 51 = .ok (.aload_n 0, 1) := by decide +kernel
theorem d_Mo_count_52 : decode b_Mo_count 52 = .ok (.getfield 1010, 3) := by decide +kernel
theorem d_Mo_count_55 : decode b_Mo_count 55 = .ok (.goto 23, 3) := by decide +kernel
set_option maxHeartbeats 4000000 in
set_option maxRecDepth 100000 in
theorem c_Mo_count_1 (l : Launch) (D : va_G) (h0 : Nat) (qa : Nat → Nat) (p1 : Int32) (sz : Nat) : Met l y_Mo_count (Cond.code y_Mo_count b_Mo_count 3 (some .int) :: bw) (xR 2 0 0) (va_Pc [.ref h0, .int 1, .int p1] (xP D [] sz [(h0, .inr (7, [.int 0, .int 0, .int 0, .int 0, .int 0, .int 0, .int (-1), .int (-1), .int 0, .int 0, .int 0, .int 0, .int 0, .int 0, .int 0, .int 0, .ref (qa 0), .ref (qa 1), .ref (qa 2), .ref (qa 3), .int 0, .ref (qa 4), .ref (qa 5), .ref (qa 6), .ref (qa 7), .ref (qa 8), .ref (qa 9), .ref (qa 10), .ref (qa 11), .ref (qa 12), .ref (qa 13), .ref (qa 14), .ref (qa 15), .ref (qa 16), .ref (qa 17), .ref (qa 18), .ref (qa 19), .ref (qa 20), .int 0, .int 0, .int 0, .int 0, .long 0, .long 0, .long 0, .long 0, .long 0, .ref (qa 21), .int 0, .int 0, .int 0, .int 0]))])) (xQ (S := Unit) (fun _ => some (.int 0)) (fun _ => [(h0, .inr (7, [.int 0, .int 0, .int 0, .int 0, .int 0, .int 0, .int (-1), .int (-1), .int 0, .int 0, .int 0, .int 0, .int 0, .int 0, .int 0, .int 0, .ref (qa 0), .ref (qa 1), .ref (qa 2), .ref (qa 3), .int 0, .ref (qa 4), .ref (qa 5), .ref (qa 6), .ref (qa 7), .ref (qa 8), .ref (qa 9), .ref (qa 10), .ref (qa 11), .ref (qa 12), .ref (qa 13), .ref (qa 14), .ref (qa 15), .ref (qa 16), .ref (qa 17), .ref (qa 18), .ref (qa 19), .ref (qa 20), .int 0, .int 0, .int 0, .int 0, .long 0, .long 0, .long 0, .long 0, .long 0, .ref (qa 21), .int 0, .int 0, .int 0, .int 0]))]) (fun _ => []) D (va_A [(h0, .inr (7, [.int 0, .int 0, .int 0, .int 0, .int 0, .int 0, .int (-1), .int (-1), .int 0, .int 0, .int 0, .int 0, .int 0, .int 0, .int 0, .int 0, .ref (qa 0), .ref (qa 1), .ref (qa 2), .ref (qa 3), .int 0, .ref (qa 4), .ref (qa 5), .ref (qa 6), .ref (qa 7), .ref (qa 8), .ref (qa 9), .ref (qa 10), .ref (qa 11), .ref (qa 12), .ref (qa 13), .ref (qa 14), .ref (qa 15), .ref (qa 16), .ref (qa 17), .ref (qa 18), .ref (qa 19), .ref (qa 20), .int 0, .int 0, .int 0, .int 0, .long 0, .long 0, .long 0, .long 0, .long 0, .ref (qa 21), .int 0, .int 0, .int 0, .int 0]))] sz)) 0 0 (va_A [(h0, .inr (7, [.int 0, .int 0, .int 0, .int 0, .int 0, .int 0, .int (-1), .int (-1), .int 0, .int 0, .int 0, .int 0, .int 0, .int 0, .int 0, .int 0, .ref (qa 0), .ref (qa 1), .ref (qa 2), .ref (qa 3), .int 0, .ref (qa 4), .ref (qa 5), .ref (qa 6), .ref (qa 7), .ref (qa 8), .ref (qa 9), .ref (qa 10), .ref (qa 11), .ref (qa 12), .ref (qa 13), .ref (qa 14), .ref (qa 15), .ref (qa 16), .ref (qa 17), .ref (qa 18), .ref (qa 19), .ref (qa 20), .int 0, .int 0, .int 0, .int 0, .long 0, .long 0, .long 0, .long 0, .long 0, .ref (qa 21), .int 0, .int 0, .int 0, .int 0]))] sz) := by
  refine Met.ofW (cc := b_Mo_count) (maxL := 3) (ret := (some .int)) (by decide) rfl ?_
  intro p e s m args below meth c s₁ B hml hv
  obtain ⟨rfl, hsz, hP, hK, hD0, hN, hZ⟩ := hv
  have hx := B.exec
  have hb := B.bytes
  have hr := B.returns
  have hlocks := B.notSynchronized
  have hts : ∀ w ∈ bw, w.before _ s = true := fun w h => atoms_spec (ws := Cond.code y_Mo_count b_Mo_count 3 (some .int) :: bw) B.pre w (List.mem_cons_of_mem _ h)
  have hown : s.vm.findClass "ObjectForgeModel" = some m.cls := findClass_of_methodNamed B.named
  subst hsz
  have hP0 := hP
  have hD := hD0.self (sz := s.heap.size)
  generalize hAe : va_A [(h0, .inr (7, [.int 0, .int 0, .int 0, .int 0, .int 0, .int 0, .int (-1), .int (-1), .int 0, .int 0, .int 0, .int 0, .int 0, .int 0, .int 0, .int 0, .ref (qa 0), .ref (qa 1), .ref (qa 2), .ref (qa 3), .int 0, .ref (qa 4), .ref (qa 5), .ref (qa 6), .ref (qa 7), .ref (qa 8), .ref (qa 9), .ref (qa 10), .ref (qa 11), .ref (qa 12), .ref (qa 13), .ref (qa 14), .ref (qa 15), .ref (qa 16), .ref (qa 17), .ref (qa 18), .ref (qa 19), .ref (qa 20), .int 0, .int 0, .int 0, .int 0, .long 0, .long 0, .long 0, .long 0, .long 0, .ref (qa 21), .int 0, .int 0, .int 0, .int 0]))] s.heap.size = A at hD hZ ⊢
  have hA : ∀ q : Nat, s.heap.size ≤ q → A q := fun q h => by rw [← hAe]; exact Or.inr h
  have hS : va_S A s.heap s.heap [] := va_S.rf
  have hl := lv_entry ([.ref h0, .int 1, .int p1]) (n := 3) (Nat.le_of_ble_eq_true rfl)
  rw [lg_entry_eq]
  generalize (lg_sl ([.ref h0, .int 1, .int p1]) ++ List.replicate (3 - (lg_sl ([.ref h0, .int 1, .int p1])).length) Slot.unset).toArray = ls at hl ⊢
  have hl : lv_has ls 3 [(0, .ref h0), (1, .int 1), (2, .int p1)] := hl
  refine lv_aload_n hx hb d_Mo_count_0 rfl (lv_at hl 0 rfl) ?_
  refine lv_iconst (v := 0) hx hb d_Mo_count_1 (by decide) ?_
  refine va_put (D := D) (ci := 7) (v := .int 0) (ty := .int) (C := R_Mo) (T := F_Mo) (N := 52) hx hb hts i_Mo t_Mo t_Mo_ok n_Mo hown hK hP hD hS 0 rfl rfl 0 (by decide) (hts _ w_397) (fun _ h9 => h9) rfl (by decide +kernel) rfl rfl (Nat.le_of_ble_eq_true rfl) d_Mo_count_2 (fun H locs hP hD hS => ?_)
  have hP : va_P D cls [(h0, .inr (7, [.int 0, .int 0, .int 0, .int 0, .int 0, .int 0, .int (-1), .int (-1), .int 0, .int 0, .int 0, .int 0, .int 0, .int 0, .int 0, .int 0, .ref (qa 0), .ref (qa 1), .ref (qa 2), .ref (qa 3), .int 0, .ref (qa 4), .ref (qa 5), .ref (qa 6), .ref (qa 7), .ref (qa 8), .ref (qa 9), .ref (qa 10), .ref (qa 11), .ref (qa 12), .ref (qa 13), .ref (qa 14), .ref (qa 15), .ref (qa 16), .ref (qa 17), .ref (qa 18), .ref (qa 19), .ref (qa 20), .int 0, .int 0, .int 0, .int 0, .long 0, .long 0, .long 0, .long 0, .long 0, .ref (qa 21), .int 0, .int 0, .int 0, .int 0]))] H := hP
  have hD : va_D A [(h0, .inr (7, [.int 0, .int 0, .int 0, .int 0, .int 0, .int 0, .int (-1), .int (-1), .int 0, .int 0, .int 0, .int 0, .int 0, .int 0, .int 0, .int 0, .ref (qa 0), .ref (qa 1), .ref (qa 2), .ref (qa 3), .int 0, .ref (qa 4), .ref (qa 5), .ref (qa 6), .ref (qa 7), .ref (qa 8), .ref (qa 9), .ref (qa 10), .ref (qa 11), .ref (qa 12), .ref (qa 13), .ref (qa 14), .ref (qa 15), .ref (qa 16), .ref (qa 17), .ref (qa 18), .ref (qa 19), .ref (qa 20), .int 0, .int 0, .int 0, .int 0, .long 0, .long 0, .long 0, .long 0, .long 0, .ref (qa 21), .int 0, .int 0, .int 0, .int 0]))] := hD
  refine lv_iload_n hx hb d_Mo_count_5 rfl (lv_at hl 1 rfl) ?_
  refine lv_iconst (v := 4) hx hb d_Mo_count_6 (by decide) ?_
  refine xc_S (As := [.int 1, .int 4]) (rest := []) (n := 2) (wc := []) (wr := [(h0, .inr (7, [.int 0, .int 0, .int 0, .int 0, .int 0, .int 0, .int (-1), .int (-1), .int 0, .int 0, .int 0, .int 0, .int 0, .int 0, .int 0, .int 0, .ref (qa 0), .ref (qa 1), .ref (qa 2), .ref (qa 3), .int 0, .ref (qa 4), .ref (qa 5), .ref (qa 6), .ref (qa 7), .ref (qa 8), .ref (qa 9), .ref (qa 10), .ref (qa 11), .ref (qa 12), .ref (qa 13), .ref (qa 14), .ref (qa 15), .ref (qa 16), .ref (qa 17), .ref (qa 18), .ref (qa 19), .ref (qa 20), .int 0, .int 0, .int 0, .int 0, .long 0, .long 0, .long 0, .long 0, .long 0, .ref (qa 21), .int 0, .int 0, .int 0, .int 0]))]) (tc := []) (tr := []) ⟨hx, hb, hml, hown, hts⟩ (c_Mo_within_1 l D H.size) rfl rfl w_510 w_508 w_509 w_8 (by decide +kernel) ⟨Nat.le_of_ble_eq_true rfl, Nat.le_of_ble_eq_true rfl⟩ hP hD hK hS hA hN hZ [] [0] rfl rfl (by decide) (by decide) (by decide) [] [] rfl rfl rfl hl.1 rfl (Nat.le_of_ble_eq_true rfl) d_Mo_count_7 ⟨Nat.le_of_ble_eq_true rfl, Nat.le_of_ble_eq_true rfl⟩ (fun u1 H locs hP hD hK hS => ?_)
  have hP : va_P D cls [(h0, .inr (7, [.int 0, .int 0, .int 0, .int 0, .int 0, .int 0, .int (-1), .int (-1), .int 0, .int 0, .int 0, .int 0, .int 0, .int 0, .int 0, .int 0, .ref (qa 0), .ref (qa 1), .ref (qa 2), .ref (qa 3), .int 0, .ref (qa 4), .ref (qa 5), .ref (qa 6), .ref (qa 7), .ref (qa 8), .ref (qa 9), .ref (qa 10), .ref (qa 11), .ref (qa 12), .ref (qa 13), .ref (qa 14), .ref (qa 15), .ref (qa 16), .ref (qa 17), .ref (qa 18), .ref (qa 19), .ref (qa 20), .int 0, .int 0, .int 0, .int 0, .long 0, .long 0, .long 0, .long 0, .long 0, .ref (qa 21), .int 0, .int 0, .int 0, .int 0]))] H := hP
  have hD : va_D A [(h0, .inr (7, [.int 0, .int 0, .int 0, .int 0, .int 0, .int 0, .int (-1), .int (-1), .int 0, .int 0, .int 0, .int 0, .int 0, .int 0, .int 0, .int 0, .ref (qa 0), .ref (qa 1), .ref (qa 2), .ref (qa 3), .int 0, .ref (qa 4), .ref (qa 5), .ref (qa 6), .ref (qa 7), .ref (qa 8), .ref (qa 9), .ref (qa 10), .ref (qa 11), .ref (qa 12), .ref (qa 13), .ref (qa 14), .ref (qa 15), .ref (qa 16), .ref (qa 17), .ref (qa 18), .ref (qa 19), .ref (qa 20), .int 0, .int 0, .int 0, .int 0, .long 0, .long 0, .long 0, .long 0, .long 0, .ref (qa 21), .int 0, .int 0, .int 0, .int 0]))] := hD
  have hK : va_K D cls [] s := hK
  refine W.eq (g2 := F0 m 10 ls [.int 1]) rfl ?_
  refine lv_if_eq (tgt := 29) hx hb d_Mo_count_10 (by decide) (fun q9 => absurd q9 (by decide : ¬ ((1 : Int32) = 0))) (fun _ => ?_)
  refine lv_iload_n hx hb d_Mo_count_13 rfl (lv_at hl 1 rfl) ?_
  refine lv_iconst (v := 1) hx hb d_Mo_count_14 (by decide) ?_
  refine lv_icmp_le (tgt := 35) hx hb d_Mo_count_15 (by decide) (fun _ => ?_) (fun q9 => absurd (by decide : ((1 : Int32) ≤ 1)) q9)
  refine lv_iload_n hx hb d_Mo_count_35 rfl (lv_at hl 1 rfl) ?_
  refine lv_if_ne (tgt := 46) hx hb d_Mo_count_36 (by decide) (fun _ => ?_) (fun q9 => absurd q9 (by decide : ¬ ((1 : Int32) = 0)))
  refine lv_iload_n hx hb d_Mo_count_46 rfl (lv_at hl 1 rfl) ?_
  refine lv_iconst (v := 1) hx hb d_Mo_count_47 (by decide) ?_
  refine lv_icmp_ne (tgt := 58) hx hb d_Mo_count_48 (by decide) (fun q9 => absurd (by decide : ((1 : Int32) = 1)) q9) (fun _ => ?_)
  refine lv_aload_n hx hb d_Mo_count_51 rfl (lv_at hl 0 rfl) ?_
  refine va_get (D := D) (ci := 7) (v := .int 0) (C := R_Mo) (T := F_Mo) (N := 52) hx hb hts i_Mo hown hK hP 0 rfl rfl 2 (by decide) (hts _ w_400) (fun _ h9 => h9) rfl d_Mo_count_52 ?_
  refine lv_goto (tgt := 78) hx hb d_Mo_count_55 (by decide) ?_
  exact xr_i hx hb hr hlocks hP hD hK hS (()) [0] rfl rfl (by decide) [] rfl rfl d_Mo_count_78

theorem d_Mo_count_18 : decode b_Mo_count 18 = .ok (.iload_n 2, 1) := by decide +kernel
theorem d_Mo_count_19 : decode b_Mo_count 19 = .ok (.aload_n 0, 1) := by decide +kernel
theorem d_Mo_count_20 : decode b_Mo_count 20 = .ok (.getfield 1010, 3) := by decide +kernel
theorem d_Mo_count_23 : decode b_Mo_count 23 = .ok (.invokestatic 1181, 3) := by decide +kernel
theorem d_Mo_count_26 : decode b_Mo_count 26 = .ok (.ifCond .ne 9, 3) := by decide +kernel
theorem d_Mo_count_29 : decode b_Mo_count 29 = .ok (.aload_n 0, 1) := by decide +kernel
theorem d_Mo_count_30 : decode b_Mo_count 30 = .ok (.iconst 1, 1) := by decide +kernel
theorem d_Mo_count_31 : decode b_Mo_count 31 = .ok (.invokevirtual 94, 3) := by decide +kernel
theorem d_Mo_count_34 : decode b_Mo_count 34 = .ok (.ireturn, 1) := by decide +kernel
set_option maxHeartbeats 4000000 in
set_option maxRecDepth 100000 in
theorem c_Mo_count_2_n (l : Launch) (D : va_G) (h0 : Nat) (qa : Nat → Nat) (p1 : Int32) (hk : p1 < 0) (sz : Nat) : Met l y_Mo_count (Cond.code y_Mo_count b_Mo_count 3 (some .int) :: bw) (xR 2 0 0) (va_Pc [.ref h0, .int 2, .int p1] (xP D [] sz [(h0, .inr (7, [.int 0, .int 0, .int 0, .int 0, .int 0, .int 0, .int (-1), .int (-1), .int 0, .int 0, .int 0, .int 0, .int 0, .int 0, .int 0, .int 0, .ref (qa 0), .ref (qa 1), .ref (qa 2), .ref (qa 3), .int 0, .ref (qa 4), .ref (qa 5), .ref (qa 6), .ref (qa 7), .ref (qa 8), .ref (qa 9), .ref (qa 10), .ref (qa 11), .ref (qa 12), .ref (qa 13), .ref (qa 14), .ref (qa 15), .ref (qa 16), .ref (qa 17), .ref (qa 18), .ref (qa 19), .ref (qa 20), .int 0, .int 0, .int 0, .int 0, .long 0, .long 0, .long 0, .long 0, .long 0, .ref (qa 21), .int 0, .int 0, .int 0, .int 0]))])) (xQ (S := Unit) (fun _ => some (.int 0)) (fun _ => [(h0, .inr (7, [.int 1, .int 0, .int 0, .int 0, .int 0, .int 0, .int (-1), .int (-1), .int 0, .int 0, .int 0, .int 0, .int 0, .int 0, .int 0, .int 0, .ref (qa 0), .ref (qa 1), .ref (qa 2), .ref (qa 3), .int 0, .ref (qa 4), .ref (qa 5), .ref (qa 6), .ref (qa 7), .ref (qa 8), .ref (qa 9), .ref (qa 10), .ref (qa 11), .ref (qa 12), .ref (qa 13), .ref (qa 14), .ref (qa 15), .ref (qa 16), .ref (qa 17), .ref (qa 18), .ref (qa 19), .ref (qa 20), .int 0, .int 0, .int 0, .int 0, .long 0, .long 0, .long 0, .long 0, .long 0, .ref (qa 21), .int 0, .int 0, .int 0, .int 0]))]) (fun _ => []) D (va_A [(h0, .inr (7, [.int 0, .int 0, .int 0, .int 0, .int 0, .int 0, .int (-1), .int (-1), .int 0, .int 0, .int 0, .int 0, .int 0, .int 0, .int 0, .int 0, .ref (qa 0), .ref (qa 1), .ref (qa 2), .ref (qa 3), .int 0, .ref (qa 4), .ref (qa 5), .ref (qa 6), .ref (qa 7), .ref (qa 8), .ref (qa 9), .ref (qa 10), .ref (qa 11), .ref (qa 12), .ref (qa 13), .ref (qa 14), .ref (qa 15), .ref (qa 16), .ref (qa 17), .ref (qa 18), .ref (qa 19), .ref (qa 20), .int 0, .int 0, .int 0, .int 0, .long 0, .long 0, .long 0, .long 0, .long 0, .ref (qa 21), .int 0, .int 0, .int 0, .int 0]))] sz)) 0 0 (va_A [(h0, .inr (7, [.int 0, .int 0, .int 0, .int 0, .int 0, .int 0, .int (-1), .int (-1), .int 0, .int 0, .int 0, .int 0, .int 0, .int 0, .int 0, .int 0, .ref (qa 0), .ref (qa 1), .ref (qa 2), .ref (qa 3), .int 0, .ref (qa 4), .ref (qa 5), .ref (qa 6), .ref (qa 7), .ref (qa 8), .ref (qa 9), .ref (qa 10), .ref (qa 11), .ref (qa 12), .ref (qa 13), .ref (qa 14), .ref (qa 15), .ref (qa 16), .ref (qa 17), .ref (qa 18), .ref (qa 19), .ref (qa 20), .int 0, .int 0, .int 0, .int 0, .long 0, .long 0, .long 0, .long 0, .long 0, .ref (qa 21), .int 0, .int 0, .int 0, .int 0]))] sz) := by
  refine Met.ofW (cc := b_Mo_count) (maxL := 3) (ret := (some .int)) (by decide) rfl ?_
  intro p e s m args below meth c s₁ B hml hv
  obtain ⟨rfl, hsz, hP, hK, hD0, hN, hZ⟩ := hv
  have hx := B.exec
  have hb := B.bytes
  have hr := B.returns
  have hlocks := B.notSynchronized
  have hts : ∀ w ∈ bw, w.before _ s = true := fun w h => atoms_spec (ws := Cond.code y_Mo_count b_Mo_count 3 (some .int) :: bw) B.pre w (List.mem_cons_of_mem _ h)
  have hown : s.vm.findClass "ObjectForgeModel" = some m.cls := findClass_of_methodNamed B.named
  subst hsz
  have hP0 := hP
  have hD := hD0.self (sz := s.heap.size)
  generalize hAe : va_A [(h0, .inr (7, [.int 0, .int 0, .int 0, .int 0, .int 0, .int 0, .int (-1), .int (-1), .int 0, .int 0, .int 0, .int 0, .int 0, .int 0, .int 0, .int 0, .ref (qa 0), .ref (qa 1), .ref (qa 2), .ref (qa 3), .int 0, .ref (qa 4), .ref (qa 5), .ref (qa 6), .ref (qa 7), .ref (qa 8), .ref (qa 9), .ref (qa 10), .ref (qa 11), .ref (qa 12), .ref (qa 13), .ref (qa 14), .ref (qa 15), .ref (qa 16), .ref (qa 17), .ref (qa 18), .ref (qa 19), .ref (qa 20), .int 0, .int 0, .int 0, .int 0, .long 0, .long 0, .long 0, .long 0, .long 0, .ref (qa 21), .int 0, .int 0, .int 0, .int 0]))] s.heap.size = A at hD hZ ⊢
  have hA : ∀ q : Nat, s.heap.size ≤ q → A q := fun q h => by rw [← hAe]; exact Or.inr h
  have hS : va_S A s.heap s.heap [] := va_S.rf
  have hl := lv_entry ([.ref h0, .int 2, .int p1]) (n := 3) (Nat.le_of_ble_eq_true rfl)
  rw [lg_entry_eq]
  generalize (lg_sl ([.ref h0, .int 2, .int p1]) ++ List.replicate (3 - (lg_sl ([.ref h0, .int 2, .int p1])).length) Slot.unset).toArray = ls at hl ⊢
  have hl : lv_has ls 3 [(0, .ref h0), (1, .int 2), (2, .int p1)] := hl
  refine lv_aload_n hx hb d_Mo_count_0 rfl (lv_at hl 0 rfl) ?_
  refine lv_iconst (v := 0) hx hb d_Mo_count_1 (by decide) ?_
  refine va_put (D := D) (ci := 7) (v := .int 0) (ty := .int) (C := R_Mo) (T := F_Mo) (N := 52) hx hb hts i_Mo t_Mo t_Mo_ok n_Mo hown hK hP hD hS 0 rfl rfl 0 (by decide) (hts _ w_397) (fun _ h9 => h9) rfl (by decide +kernel) rfl rfl (Nat.le_of_ble_eq_true rfl) d_Mo_count_2 (fun H locs hP hD hS => ?_)
  have hP : va_P D cls [(h0, .inr (7, [.int 0, .int 0, .int 0, .int 0, .int 0, .int 0, .int (-1), .int (-1), .int 0, .int 0, .int 0, .int 0, .int 0, .int 0, .int 0, .int 0, .ref (qa 0), .ref (qa 1), .ref (qa 2), .ref (qa 3), .int 0, .ref (qa 4), .ref (qa 5), .ref (qa 6), .ref (qa 7), .ref (qa 8), .ref (qa 9), .ref (qa 10), .ref (qa 11), .ref (qa 12), .ref (qa 13), .ref (qa 14), .ref (qa 15), .ref (qa 16), .ref (qa 17), .ref (qa 18), .ref (qa 19), .ref (qa 20), .int 0, .int 0, .int 0, .int 0, .long 0, .long 0, .long 0, .long 0, .long 0, .ref (qa 21), .int 0, .int 0, .int 0, .int 0]))] H := hP
  have hD : va_D A [(h0, .inr (7, [.int 0, .int 0, .int 0, .int 0, .int 0, .int 0, .int (-1), .int (-1), .int 0, .int 0, .int 0, .int 0, .int 0, .int 0, .int 0, .int 0, .ref (qa 0), .ref (qa 1), .ref (qa 2), .ref (qa 3), .int 0, .ref (qa 4), .ref (qa 5), .ref (qa 6), .ref (qa 7), .ref (qa 8), .ref (qa 9), .ref (qa 10), .ref (qa 11), .ref (qa 12), .ref (qa 13), .ref (qa 14), .ref (qa 15), .ref (qa 16), .ref (qa 17), .ref (qa 18), .ref (qa 19), .ref (qa 20), .int 0, .int 0, .int 0, .int 0, .long 0, .long 0, .long 0, .long 0, .long 0, .ref (qa 21), .int 0, .int 0, .int 0, .int 0]))] := hD
  refine lv_iload_n hx hb d_Mo_count_5 rfl (lv_at hl 1 rfl) ?_
  refine lv_iconst (v := 4) hx hb d_Mo_count_6 (by decide) ?_
  refine xc_S (As := [.int 2, .int 4]) (rest := []) (n := 2) (wc := []) (wr := [(h0, .inr (7, [.int 0, .int 0, .int 0, .int 0, .int 0, .int 0, .int (-1), .int (-1), .int 0, .int 0, .int 0, .int 0, .int 0, .int 0, .int 0, .int 0, .ref (qa 0), .ref (qa 1), .ref (qa 2), .ref (qa 3), .int 0, .ref (qa 4), .ref (qa 5), .ref (qa 6), .ref (qa 7), .ref (qa 8), .ref (qa 9), .ref (qa 10), .ref (qa 11), .ref (qa 12), .ref (qa 13), .ref (qa 14), .ref (qa 15), .ref (qa 16), .ref (qa 17), .ref (qa 18), .ref (qa 19), .ref (qa 20), .int 0, .int 0, .int 0, .int 0, .long 0, .long 0, .long 0, .long 0, .long 0, .ref (qa 21), .int 0, .int 0, .int 0, .int 0]))]) (tc := []) (tr := []) ⟨hx, hb, hml, hown, hts⟩ (c_Mo_within_2 l D H.size) rfl rfl w_510 w_508 w_509 w_8 (by decide +kernel) ⟨Nat.le_of_ble_eq_true rfl, Nat.le_of_ble_eq_true rfl⟩ hP hD hK hS hA hN hZ [] [0] rfl rfl (by decide) (by decide) (by decide) [] [] rfl rfl rfl hl.1 rfl (Nat.le_of_ble_eq_true rfl) d_Mo_count_7 ⟨Nat.le_of_ble_eq_true rfl, Nat.le_of_ble_eq_true rfl⟩ (fun u1 H locs hP hD hK hS => ?_)
  have hP : va_P D cls [(h0, .inr (7, [.int 0, .int 0, .int 0, .int 0, .int 0, .int 0, .int (-1), .int (-1), .int 0, .int 0, .int 0, .int 0, .int 0, .int 0, .int 0, .int 0, .ref (qa 0), .ref (qa 1), .ref (qa 2), .ref (qa 3), .int 0, .ref (qa 4), .ref (qa 5), .ref (qa 6), .ref (qa 7), .ref (qa 8), .ref (qa 9), .ref (qa 10), .ref (qa 11), .ref (qa 12), .ref (qa 13), .ref (qa 14), .ref (qa 15), .ref (qa 16), .ref (qa 17), .ref (qa 18), .ref (qa 19), .ref (qa 20), .int 0, .int 0, .int 0, .int 0, .long 0, .long 0, .long 0, .long 0, .long 0, .ref (qa 21), .int 0, .int 0, .int 0, .int 0]))] H := hP
  have hD : va_D A [(h0, .inr (7, [.int 0, .int 0, .int 0, .int 0, .int 0, .int 0, .int (-1), .int (-1), .int 0, .int 0, .int 0, .int 0, .int 0, .int 0, .int 0, .int 0, .ref (qa 0), .ref (qa 1), .ref (qa 2), .ref (qa 3), .int 0, .ref (qa 4), .ref (qa 5), .ref (qa 6), .ref (qa 7), .ref (qa 8), .ref (qa 9), .ref (qa 10), .ref (qa 11), .ref (qa 12), .ref (qa 13), .ref (qa 14), .ref (qa 15), .ref (qa 16), .ref (qa 17), .ref (qa 18), .ref (qa 19), .ref (qa 20), .int 0, .int 0, .int 0, .int 0, .long 0, .long 0, .long 0, .long 0, .long 0, .ref (qa 21), .int 0, .int 0, .int 0, .int 0]))] := hD
  have hK : va_K D cls [] s := hK
  refine W.eq (g2 := F0 m 10 ls [.int 1]) rfl ?_
  refine lv_if_eq (tgt := 29) hx hb d_Mo_count_10 (by decide) (fun q9 => absurd q9 (by decide : ¬ ((1 : Int32) = 0))) (fun _ => ?_)
  refine lv_iload_n hx hb d_Mo_count_13 rfl (lv_at hl 1 rfl) ?_
  refine lv_iconst (v := 1) hx hb d_Mo_count_14 (by decide) ?_
  refine lv_icmp_le (tgt := 35) hx hb d_Mo_count_15 (by decide) (fun q9 => absurd q9 (by decide : ¬ ((2 : Int32) ≤ 1))) (fun _ => ?_)
  refine lv_iload_n hx hb d_Mo_count_18 rfl (lv_at hl 2 rfl) ?_
  refine lv_aload_n hx hb d_Mo_count_19 rfl (lv_at hl 0 rfl) ?_
  refine va_get (D := D) (ci := 7) (v := .int 0) (C := R_Mo) (T := F_Mo) (N := 52) hx hb hts i_Mo hown hK hP 0 rfl rfl 2 (by decide) (hts _ w_400) (fun _ h9 => h9) rfl d_Mo_count_20 ?_
  refine xc_S (As := [.int p1, .int 0]) (rest := []) (n := 2) (wc := []) (wr := [(h0, .inr (7, [.int 0, .int 0, .int 0, .int 0, .int 0, .int 0, .int (-1), .int (-1), .int 0, .int 0, .int 0, .int 0, .int 0, .int 0, .int 0, .int 0, .ref (qa 0), .ref (qa 1), .ref (qa 2), .ref (qa 3), .int 0, .ref (qa 4), .ref (qa 5), .ref (qa 6), .ref (qa 7), .ref (qa 8), .ref (qa 9), .ref (qa 10), .ref (qa 11), .ref (qa 12), .ref (qa 13), .ref (qa 14), .ref (qa 15), .ref (qa 16), .ref (qa 17), .ref (qa 18), .ref (qa 19), .ref (qa 20), .int 0, .int 0, .int 0, .int 0, .long 0, .long 0, .long 0, .long 0, .long 0, .ref (qa 21), .int 0, .int 0, .int 0, .int 0]))]) (tc := []) (tr := []) ⟨hx, hb, hml, hown, hts⟩ (c_Mo_within_n l D p1 0 hk H.size) rfl rfl w_510 w_508 w_509 w_8 (by decide +kernel) ⟨Nat.le_of_ble_eq_true rfl, Nat.le_of_ble_eq_true rfl⟩ hP hD hK hS hA hN hZ [] [0] rfl rfl (by decide) (by decide) (by decide) [] [] rfl rfl rfl hl.1 rfl (Nat.le_of_ble_eq_true rfl) d_Mo_count_23 ⟨Nat.le_of_ble_eq_true rfl, Nat.le_of_ble_eq_true rfl⟩ (fun u2 H locs hP hD hK hS => ?_)
  have hP : va_P D cls [(h0, .inr (7, [.int 0, .int 0, .int 0, .int 0, .int 0, .int 0, .int (-1), .int (-1), .int 0, .int 0, .int 0, .int 0, .int 0, .int 0, .int 0, .int 0, .ref (qa 0), .ref (qa 1), .ref (qa 2), .ref (qa 3), .int 0, .ref (qa 4), .ref (qa 5), .ref (qa 6), .ref (qa 7), .ref (qa 8), .ref (qa 9), .ref (qa 10), .ref (qa 11), .ref (qa 12), .ref (qa 13), .ref (qa 14), .ref (qa 15), .ref (qa 16), .ref (qa 17), .ref (qa 18), .ref (qa 19), .ref (qa 20), .int 0, .int 0, .int 0, .int 0, .long 0, .long 0, .long 0, .long 0, .long 0, .ref (qa 21), .int 0, .int 0, .int 0, .int 0]))] H := hP
  have hD : va_D A [(h0, .inr (7, [.int 0, .int 0, .int 0, .int 0, .int 0, .int 0, .int (-1), .int (-1), .int 0, .int 0, .int 0, .int 0, .int 0, .int 0, .int 0, .int 0, .ref (qa 0), .ref (qa 1), .ref (qa 2), .ref (qa 3), .int 0, .ref (qa 4), .ref (qa 5), .ref (qa 6), .ref (qa 7), .ref (qa 8), .ref (qa 9), .ref (qa 10), .ref (qa 11), .ref (qa 12), .ref (qa 13), .ref (qa 14), .ref (qa 15), .ref (qa 16), .ref (qa 17), .ref (qa 18), .ref (qa 19), .ref (qa 20), .int 0, .int 0, .int 0, .int 0, .long 0, .long 0, .long 0, .long 0, .long 0, .ref (qa 21), .int 0, .int 0, .int 0, .int 0]))] := hD
  have hK : va_K D cls [] s := hK
  refine W.eq (g2 := F0 m 26 ls [.int 0]) rfl ?_
  refine lv_if_ne (tgt := 35) hx hb d_Mo_count_26 (by decide) (fun q9 => absurd (by decide : ((0 : Int32) = 0)) q9) (fun _ => ?_)
  refine lv_aload_n hx hb d_Mo_count_29 rfl (lv_at hl 0 rfl) ?_
  refine lv_iconst (v := 1) hx hb d_Mo_count_30 (by decide) ?_
  refine xc_V (As := [.int 1]) (rest := []) (n := 1) (wc := [(h0, .inr (7, [.int 0, .int 0, .int 0, .int 0, .int 0, .int 0, .int (-1), .int (-1), .int 0, .int 0, .int 0, .int 0, .int 0, .int 0, .int 0, .int 0, .ref (qa 0), .ref (qa 1), .ref (qa 2), .ref (qa 3), .int 0, .ref (qa 4), .ref (qa 5), .ref (qa 6), .ref (qa 7), .ref (qa 8), .ref (qa 9), .ref (qa 10), .ref (qa 11), .ref (qa 12), .ref (qa 13), .ref (qa 14), .ref (qa 15), .ref (qa 16), .ref (qa 17), .ref (qa 18), .ref (qa 19), .ref (qa 20), .int 0, .int 0, .int 0, .int 0, .long 0, .long 0, .long 0, .long 0, .long 0, .ref (qa 21), .int 0, .int 0, .int 0, .int 0]))]) (wr := []) (tc := []) (tr := []) ⟨hx, hb, hml, hown, hts⟩ (c_Mo_refuse_1 l D h0 qa H.size) rfl rfl w_452 w_450 w_451 w_557 w_8 (by decide +kernel) ⟨Nat.le_of_ble_eq_true rfl, Nat.le_of_ble_eq_true rfl⟩ hP hD hK hS hA hN hZ [0] [] rfl rfl (by decide) (by decide) (by decide) [] [] rfl rfl (ci := 7) (q0 := 0) (q := (R_Mo, F_Mo, 52)) rfl rfl rfl rfl hl.1 rfl (Nat.le_of_ble_eq_true rfl) d_Mo_count_31 ⟨Nat.le_of_ble_eq_true rfl, Nat.le_of_ble_eq_true rfl⟩ (fun u3 H locs hP hD hK hS => ?_)
  have hP : va_P D cls [(h0, .inr (7, [.int 1, .int 0, .int 0, .int 0, .int 0, .int 0, .int (-1), .int (-1), .int 0, .int 0, .int 0, .int 0, .int 0, .int 0, .int 0, .int 0, .ref (qa 0), .ref (qa 1), .ref (qa 2), .ref (qa 3), .int 0, .ref (qa 4), .ref (qa 5), .ref (qa 6), .ref (qa 7), .ref (qa 8), .ref (qa 9), .ref (qa 10), .ref (qa 11), .ref (qa 12), .ref (qa 13), .ref (qa 14), .ref (qa 15), .ref (qa 16), .ref (qa 17), .ref (qa 18), .ref (qa 19), .ref (qa 20), .int 0, .int 0, .int 0, .int 0, .long 0, .long 0, .long 0, .long 0, .long 0, .ref (qa 21), .int 0, .int 0, .int 0, .int 0]))] H := hP
  have hD : va_D A [(h0, .inr (7, [.int 1, .int 0, .int 0, .int 0, .int 0, .int 0, .int (-1), .int (-1), .int 0, .int 0, .int 0, .int 0, .int 0, .int 0, .int 0, .int 0, .ref (qa 0), .ref (qa 1), .ref (qa 2), .ref (qa 3), .int 0, .ref (qa 4), .ref (qa 5), .ref (qa 6), .ref (qa 7), .ref (qa 8), .ref (qa 9), .ref (qa 10), .ref (qa 11), .ref (qa 12), .ref (qa 13), .ref (qa 14), .ref (qa 15), .ref (qa 16), .ref (qa 17), .ref (qa 18), .ref (qa 19), .ref (qa 20), .int 0, .int 0, .int 0, .int 0, .long 0, .long 0, .long 0, .long 0, .long 0, .ref (qa 21), .int 0, .int 0, .int 0, .int 0]))] := hD
  have hK : va_K D cls [] s := hK
  refine W.eq (g2 := F0 m 34 ls [.int 0]) rfl ?_
  exact xr_i hx hb hr hlocks hP hD hK hS (()) [0] rfl rfl (by decide) [] rfl rfl d_Mo_count_34

set_option maxHeartbeats 4000000 in
set_option maxRecDepth 100000 in
theorem c_Mo_count_2_g (l : Launch) (D : va_G) (h0 : Nat) (qa : Nat → Nat) (p1 : Int32) (hk : ¬ p1 < 0) (hg : 0 ≤ p1) (sz : Nat) : Met l y_Mo_count (Cond.code y_Mo_count b_Mo_count 3 (some .int) :: bw) (xR 2 0 0) (va_Pc [.ref h0, .int 2, .int p1] (xP D [] sz [(h0, .inr (7, [.int 0, .int 0, .int 0, .int 0, .int 0, .int 0, .int (-1), .int (-1), .int 0, .int 0, .int 0, .int 0, .int 0, .int 0, .int 0, .int 0, .ref (qa 0), .ref (qa 1), .ref (qa 2), .ref (qa 3), .int 0, .ref (qa 4), .ref (qa 5), .ref (qa 6), .ref (qa 7), .ref (qa 8), .ref (qa 9), .ref (qa 10), .ref (qa 11), .ref (qa 12), .ref (qa 13), .ref (qa 14), .ref (qa 15), .ref (qa 16), .ref (qa 17), .ref (qa 18), .ref (qa 19), .ref (qa 20), .int 0, .int 0, .int 0, .int 0, .long 0, .long 0, .long 0, .long 0, .long 0, .ref (qa 21), .int 0, .int 0, .int 0, .int 0]))])) (xQ (S := Unit) (fun _ => some (.int 0)) (fun _ => [(h0, .inr (7, [.int 1, .int 0, .int 0, .int 0, .int 0, .int 0, .int (-1), .int (-1), .int 0, .int 0, .int 0, .int 0, .int 0, .int 0, .int 0, .int 0, .ref (qa 0), .ref (qa 1), .ref (qa 2), .ref (qa 3), .int 0, .ref (qa 4), .ref (qa 5), .ref (qa 6), .ref (qa 7), .ref (qa 8), .ref (qa 9), .ref (qa 10), .ref (qa 11), .ref (qa 12), .ref (qa 13), .ref (qa 14), .ref (qa 15), .ref (qa 16), .ref (qa 17), .ref (qa 18), .ref (qa 19), .ref (qa 20), .int 0, .int 0, .int 0, .int 0, .long 0, .long 0, .long 0, .long 0, .long 0, .ref (qa 21), .int 0, .int 0, .int 0, .int 0]))]) (fun _ => []) D (va_A [(h0, .inr (7, [.int 0, .int 0, .int 0, .int 0, .int 0, .int 0, .int (-1), .int (-1), .int 0, .int 0, .int 0, .int 0, .int 0, .int 0, .int 0, .int 0, .ref (qa 0), .ref (qa 1), .ref (qa 2), .ref (qa 3), .int 0, .ref (qa 4), .ref (qa 5), .ref (qa 6), .ref (qa 7), .ref (qa 8), .ref (qa 9), .ref (qa 10), .ref (qa 11), .ref (qa 12), .ref (qa 13), .ref (qa 14), .ref (qa 15), .ref (qa 16), .ref (qa 17), .ref (qa 18), .ref (qa 19), .ref (qa 20), .int 0, .int 0, .int 0, .int 0, .long 0, .long 0, .long 0, .long 0, .long 0, .ref (qa 21), .int 0, .int 0, .int 0, .int 0]))] sz)) 0 0 (va_A [(h0, .inr (7, [.int 0, .int 0, .int 0, .int 0, .int 0, .int 0, .int (-1), .int (-1), .int 0, .int 0, .int 0, .int 0, .int 0, .int 0, .int 0, .int 0, .ref (qa 0), .ref (qa 1), .ref (qa 2), .ref (qa 3), .int 0, .ref (qa 4), .ref (qa 5), .ref (qa 6), .ref (qa 7), .ref (qa 8), .ref (qa 9), .ref (qa 10), .ref (qa 11), .ref (qa 12), .ref (qa 13), .ref (qa 14), .ref (qa 15), .ref (qa 16), .ref (qa 17), .ref (qa 18), .ref (qa 19), .ref (qa 20), .int 0, .int 0, .int 0, .int 0, .long 0, .long 0, .long 0, .long 0, .long 0, .ref (qa 21), .int 0, .int 0, .int 0, .int 0]))] sz) := by
  refine Met.ofW (cc := b_Mo_count) (maxL := 3) (ret := (some .int)) (by decide) rfl ?_
  intro p e s m args below meth c s₁ B hml hv
  obtain ⟨rfl, hsz, hP, hK, hD0, hN, hZ⟩ := hv
  have hx := B.exec
  have hb := B.bytes
  have hr := B.returns
  have hlocks := B.notSynchronized
  have hts : ∀ w ∈ bw, w.before _ s = true := fun w h => atoms_spec (ws := Cond.code y_Mo_count b_Mo_count 3 (some .int) :: bw) B.pre w (List.mem_cons_of_mem _ h)
  have hown : s.vm.findClass "ObjectForgeModel" = some m.cls := findClass_of_methodNamed B.named
  subst hsz
  have hP0 := hP
  have hD := hD0.self (sz := s.heap.size)
  generalize hAe : va_A [(h0, .inr (7, [.int 0, .int 0, .int 0, .int 0, .int 0, .int 0, .int (-1), .int (-1), .int 0, .int 0, .int 0, .int 0, .int 0, .int 0, .int 0, .int 0, .ref (qa 0), .ref (qa 1), .ref (qa 2), .ref (qa 3), .int 0, .ref (qa 4), .ref (qa 5), .ref (qa 6), .ref (qa 7), .ref (qa 8), .ref (qa 9), .ref (qa 10), .ref (qa 11), .ref (qa 12), .ref (qa 13), .ref (qa 14), .ref (qa 15), .ref (qa 16), .ref (qa 17), .ref (qa 18), .ref (qa 19), .ref (qa 20), .int 0, .int 0, .int 0, .int 0, .long 0, .long 0, .long 0, .long 0, .long 0, .ref (qa 21), .int 0, .int 0, .int 0, .int 0]))] s.heap.size = A at hD hZ ⊢
  have hA : ∀ q : Nat, s.heap.size ≤ q → A q := fun q h => by rw [← hAe]; exact Or.inr h
  have hS : va_S A s.heap s.heap [] := va_S.rf
  have hl := lv_entry ([.ref h0, .int 2, .int p1]) (n := 3) (Nat.le_of_ble_eq_true rfl)
  rw [lg_entry_eq]
  generalize (lg_sl ([.ref h0, .int 2, .int p1]) ++ List.replicate (3 - (lg_sl ([.ref h0, .int 2, .int p1])).length) Slot.unset).toArray = ls at hl ⊢
  have hl : lv_has ls 3 [(0, .ref h0), (1, .int 2), (2, .int p1)] := hl
  refine lv_aload_n hx hb d_Mo_count_0 rfl (lv_at hl 0 rfl) ?_
  refine lv_iconst (v := 0) hx hb d_Mo_count_1 (by decide) ?_
  refine va_put (D := D) (ci := 7) (v := .int 0) (ty := .int) (C := R_Mo) (T := F_Mo) (N := 52) hx hb hts i_Mo t_Mo t_Mo_ok n_Mo hown hK hP hD hS 0 rfl rfl 0 (by decide) (hts _ w_397) (fun _ h9 => h9) rfl (by decide +kernel) rfl rfl (Nat.le_of_ble_eq_true rfl) d_Mo_count_2 (fun H locs hP hD hS => ?_)
  have hP : va_P D cls [(h0, .inr (7, [.int 0, .int 0, .int 0, .int 0, .int 0, .int 0, .int (-1), .int (-1), .int 0, .int 0, .int 0, .int 0, .int 0, .int 0, .int 0, .int 0, .ref (qa 0), .ref (qa 1), .ref (qa 2), .ref (qa 3), .int 0, .ref (qa 4), .ref (qa 5), .ref (qa 6), .ref (qa 7), .ref (qa 8), .ref (qa 9), .ref (qa 10), .ref (qa 11), .ref (qa 12), .ref (qa 13), .ref (qa 14), .ref (qa 15), .ref (qa 16), .ref (qa 17), .ref (qa 18), .ref (qa 19), .ref (qa 20), .int 0, .int 0, .int 0, .int 0, .long 0, .long 0, .long 0, .long 0, .long 0, .ref (qa 21), .int 0, .int 0, .int 0, .int 0]))] H := hP
  have hD : va_D A [(h0, .inr (7, [.int 0, .int 0, .int 0, .int 0, .int 0, .int 0, .int (-1), .int (-1), .int 0, .int 0, .int 0, .int 0, .int 0, .int 0, .int 0, .int 0, .ref (qa 0), .ref (qa 1), .ref (qa 2), .ref (qa 3), .int 0, .ref (qa 4), .ref (qa 5), .ref (qa 6), .ref (qa 7), .ref (qa 8), .ref (qa 9), .ref (qa 10), .ref (qa 11), .ref (qa 12), .ref (qa 13), .ref (qa 14), .ref (qa 15), .ref (qa 16), .ref (qa 17), .ref (qa 18), .ref (qa 19), .ref (qa 20), .int 0, .int 0, .int 0, .int 0, .long 0, .long 0, .long 0, .long 0, .long 0, .ref (qa 21), .int 0, .int 0, .int 0, .int 0]))] := hD
  refine lv_iload_n hx hb d_Mo_count_5 rfl (lv_at hl 1 rfl) ?_
  refine lv_iconst (v := 4) hx hb d_Mo_count_6 (by decide) ?_
  refine xc_S (As := [.int 2, .int 4]) (rest := []) (n := 2) (wc := []) (wr := [(h0, .inr (7, [.int 0, .int 0, .int 0, .int 0, .int 0, .int 0, .int (-1), .int (-1), .int 0, .int 0, .int 0, .int 0, .int 0, .int 0, .int 0, .int 0, .ref (qa 0), .ref (qa 1), .ref (qa 2), .ref (qa 3), .int 0, .ref (qa 4), .ref (qa 5), .ref (qa 6), .ref (qa 7), .ref (qa 8), .ref (qa 9), .ref (qa 10), .ref (qa 11), .ref (qa 12), .ref (qa 13), .ref (qa 14), .ref (qa 15), .ref (qa 16), .ref (qa 17), .ref (qa 18), .ref (qa 19), .ref (qa 20), .int 0, .int 0, .int 0, .int 0, .long 0, .long 0, .long 0, .long 0, .long 0, .ref (qa 21), .int 0, .int 0, .int 0, .int 0]))]) (tc := []) (tr := []) ⟨hx, hb, hml, hown, hts⟩ (c_Mo_within_2 l D H.size) rfl rfl w_510 w_508 w_509 w_8 (by decide +kernel) ⟨Nat.le_of_ble_eq_true rfl, Nat.le_of_ble_eq_true rfl⟩ hP hD hK hS hA hN hZ [] [0] rfl rfl (by decide) (by decide) (by decide) [] [] rfl rfl rfl hl.1 rfl (Nat.le_of_ble_eq_true rfl) d_Mo_count_7 ⟨Nat.le_of_ble_eq_true rfl, Nat.le_of_ble_eq_true rfl⟩ (fun u1 H locs hP hD hK hS => ?_)
  have hP : va_P D cls [(h0, .inr (7, [.int 0, .int 0, .int 0, .int 0, .int 0, .int 0, .int (-1), .int (-1), .int 0, .int 0, .int 0, .int 0, .int 0, .int 0, .int 0, .int 0, .ref (qa 0), .ref (qa 1), .ref (qa 2), .ref (qa 3), .int 0, .ref (qa 4), .ref (qa 5), .ref (qa 6), .ref (qa 7), .ref (qa 8), .ref (qa 9), .ref (qa 10), .ref (qa 11), .ref (qa 12), .ref (qa 13), .ref (qa 14), .ref (qa 15), .ref (qa 16), .ref (qa 17), .ref (qa 18), .ref (qa 19), .ref (qa 20), .int 0, .int 0, .int 0, .int 0, .long 0, .long 0, .long 0, .long 0, .long 0, .ref (qa 21), .int 0, .int 0, .int 0, .int 0]))] H := hP
  have hD : va_D A [(h0, .inr (7, [.int 0, .int 0, .int 0, .int 0, .int 0, .int 0, .int (-1), .int (-1), .int 0, .int 0, .int 0, .int 0, .int 0, .int 0, .int 0, .int 0, .ref (qa 0), .ref (qa 1), .ref (qa 2), .ref (qa 3), .int 0, .ref (qa 4), .ref (qa 5), .ref (qa 6), .ref (qa 7), .ref (qa 8), .ref (qa 9), .ref (qa 10), .ref (qa 11), .ref (qa 12), .ref (qa 13), .ref (qa 14), .ref (qa 15), .ref (qa 16), .ref (qa 17), .ref (qa 18), .ref (qa 19), .ref (qa 20), .int 0, .int 0, .int 0, .int 0, .long 0, .long 0, .long 0, .long 0, .long 0, .ref (qa 21), .int 0, .int 0, .int 0, .int 0]))] := hD
  have hK : va_K D cls [] s := hK
  refine W.eq (g2 := F0 m 10 ls [.int 1]) rfl ?_
  refine lv_if_eq (tgt := 29) hx hb d_Mo_count_10 (by decide) (fun q9 => absurd q9 (by decide : ¬ ((1 : Int32) = 0))) (fun _ => ?_)
  refine lv_iload_n hx hb d_Mo_count_13 rfl (lv_at hl 1 rfl) ?_
  refine lv_iconst (v := 1) hx hb d_Mo_count_14 (by decide) ?_
  refine lv_icmp_le (tgt := 35) hx hb d_Mo_count_15 (by decide) (fun q9 => absurd q9 (by decide : ¬ ((2 : Int32) ≤ 1))) (fun _ => ?_)
  refine lv_iload_n hx hb d_Mo_count_18 rfl (lv_at hl 2 rfl) ?_
  refine lv_aload_n hx hb d_Mo_count_19 rfl (lv_at hl 0 rfl) ?_
  refine va_get (D := D) (ci := 7) (v := .int 0) (C := R_Mo) (T := F_Mo) (N := 52) hx hb hts i_Mo hown hK hP 0 rfl rfl 2 (by decide) (hts _ w_400) (fun _ h9 => h9) rfl d_Mo_count_20 ?_
  refine xc_S (As := [.int p1, .int 0]) (rest := []) (n := 2) (wc := []) (wr := [(h0, .inr (7, [.int 0, .int 0, .int 0, .int 0, .int 0, .int 0, .int (-1), .int (-1), .int 0, .int 0, .int 0, .int 0, .int 0, .int 0, .int 0, .int 0, .ref (qa 0), .ref (qa 1), .ref (qa 2), .ref (qa 3), .int 0, .ref (qa 4), .ref (qa 5), .ref (qa 6), .ref (qa 7), .ref (qa 8), .ref (qa 9), .ref (qa 10), .ref (qa 11), .ref (qa 12), .ref (qa 13), .ref (qa 14), .ref (qa 15), .ref (qa 16), .ref (qa 17), .ref (qa 18), .ref (qa 19), .ref (qa 20), .int 0, .int 0, .int 0, .int 0, .long 0, .long 0, .long 0, .long 0, .long 0, .ref (qa 21), .int 0, .int 0, .int 0, .int 0]))]) (tc := []) (tr := []) ⟨hx, hb, hml, hown, hts⟩ (c_Mo_within_g l D p1 0 hk hg H.size) rfl rfl w_510 w_508 w_509 w_8 (by decide +kernel) ⟨Nat.le_of_ble_eq_true rfl, Nat.le_of_ble_eq_true rfl⟩ hP hD hK hS hA hN hZ [] [0] rfl rfl (by decide) (by decide) (by decide) [] [] rfl rfl rfl hl.1 rfl (Nat.le_of_ble_eq_true rfl) d_Mo_count_23 ⟨Nat.le_of_ble_eq_true rfl, Nat.le_of_ble_eq_true rfl⟩ (fun u2 H locs hP hD hK hS => ?_)
  have hP : va_P D cls [(h0, .inr (7, [.int 0, .int 0, .int 0, .int 0, .int 0, .int 0, .int (-1), .int (-1), .int 0, .int 0, .int 0, .int 0, .int 0, .int 0, .int 0, .int 0, .ref (qa 0), .ref (qa 1), .ref (qa 2), .ref (qa 3), .int 0, .ref (qa 4), .ref (qa 5), .ref (qa 6), .ref (qa 7), .ref (qa 8), .ref (qa 9), .ref (qa 10), .ref (qa 11), .ref (qa 12), .ref (qa 13), .ref (qa 14), .ref (qa 15), .ref (qa 16), .ref (qa 17), .ref (qa 18), .ref (qa 19), .ref (qa 20), .int 0, .int 0, .int 0, .int 0, .long 0, .long 0, .long 0, .long 0, .long 0, .ref (qa 21), .int 0, .int 0, .int 0, .int 0]))] H := hP
  have hD : va_D A [(h0, .inr (7, [.int 0, .int 0, .int 0, .int 0, .int 0, .int 0, .int (-1), .int (-1), .int 0, .int 0, .int 0, .int 0, .int 0, .int 0, .int 0, .int 0, .ref (qa 0), .ref (qa 1), .ref (qa 2), .ref (qa 3), .int 0, .ref (qa 4), .ref (qa 5), .ref (qa 6), .ref (qa 7), .ref (qa 8), .ref (qa 9), .ref (qa 10), .ref (qa 11), .ref (qa 12), .ref (qa 13), .ref (qa 14), .ref (qa 15), .ref (qa 16), .ref (qa 17), .ref (qa 18), .ref (qa 19), .ref (qa 20), .int 0, .int 0, .int 0, .int 0, .long 0, .long 0, .long 0, .long 0, .long 0, .ref (qa 21), .int 0, .int 0, .int 0, .int 0]))] := hD
  have hK : va_K D cls [] s := hK
  refine W.eq (g2 := F0 m 26 ls [.int 0]) rfl ?_
  refine lv_if_ne (tgt := 35) hx hb d_Mo_count_26 (by decide) (fun q9 => absurd (by decide : ((0 : Int32) = 0)) q9) (fun _ => ?_)
  refine lv_aload_n hx hb d_Mo_count_29 rfl (lv_at hl 0 rfl) ?_
  refine lv_iconst (v := 1) hx hb d_Mo_count_30 (by decide) ?_
  refine xc_V (As := [.int 1]) (rest := []) (n := 1) (wc := [(h0, .inr (7, [.int 0, .int 0, .int 0, .int 0, .int 0, .int 0, .int (-1), .int (-1), .int 0, .int 0, .int 0, .int 0, .int 0, .int 0, .int 0, .int 0, .ref (qa 0), .ref (qa 1), .ref (qa 2), .ref (qa 3), .int 0, .ref (qa 4), .ref (qa 5), .ref (qa 6), .ref (qa 7), .ref (qa 8), .ref (qa 9), .ref (qa 10), .ref (qa 11), .ref (qa 12), .ref (qa 13), .ref (qa 14), .ref (qa 15), .ref (qa 16), .ref (qa 17), .ref (qa 18), .ref (qa 19), .ref (qa 20), .int 0, .int 0, .int 0, .int 0, .long 0, .long 0, .long 0, .long 0, .long 0, .ref (qa 21), .int 0, .int 0, .int 0, .int 0]))]) (wr := []) (tc := []) (tr := []) ⟨hx, hb, hml, hown, hts⟩ (c_Mo_refuse_1 l D h0 qa H.size) rfl rfl w_452 w_450 w_451 w_557 w_8 (by decide +kernel) ⟨Nat.le_of_ble_eq_true rfl, Nat.le_of_ble_eq_true rfl⟩ hP hD hK hS hA hN hZ [0] [] rfl rfl (by decide) (by decide) (by decide) [] [] rfl rfl (ci := 7) (q0 := 0) (q := (R_Mo, F_Mo, 52)) rfl rfl rfl rfl hl.1 rfl (Nat.le_of_ble_eq_true rfl) d_Mo_count_31 ⟨Nat.le_of_ble_eq_true rfl, Nat.le_of_ble_eq_true rfl⟩ (fun u3 H locs hP hD hK hS => ?_)
  have hP : va_P D cls [(h0, .inr (7, [.int 1, .int 0, .int 0, .int 0, .int 0, .int 0, .int (-1), .int (-1), .int 0, .int 0, .int 0, .int 0, .int 0, .int 0, .int 0, .int 0, .ref (qa 0), .ref (qa 1), .ref (qa 2), .ref (qa 3), .int 0, .ref (qa 4), .ref (qa 5), .ref (qa 6), .ref (qa 7), .ref (qa 8), .ref (qa 9), .ref (qa 10), .ref (qa 11), .ref (qa 12), .ref (qa 13), .ref (qa 14), .ref (qa 15), .ref (qa 16), .ref (qa 17), .ref (qa 18), .ref (qa 19), .ref (qa 20), .int 0, .int 0, .int 0, .int 0, .long 0, .long 0, .long 0, .long 0, .long 0, .ref (qa 21), .int 0, .int 0, .int 0, .int 0]))] H := hP
  have hD : va_D A [(h0, .inr (7, [.int 1, .int 0, .int 0, .int 0, .int 0, .int 0, .int (-1), .int (-1), .int 0, .int 0, .int 0, .int 0, .int 0, .int 0, .int 0, .int 0, .ref (qa 0), .ref (qa 1), .ref (qa 2), .ref (qa 3), .int 0, .ref (qa 4), .ref (qa 5), .ref (qa 6), .ref (qa 7), .ref (qa 8), .ref (qa 9), .ref (qa 10), .ref (qa 11), .ref (qa 12), .ref (qa 13), .ref (qa 14), .ref (qa 15), .ref (qa 16), .ref (qa 17), .ref (qa 18), .ref (qa 19), .ref (qa 20), .int 0, .int 0, .int 0, .int 0, .long 0, .long 0, .long 0, .long 0, .long 0, .ref (qa 21), .int 0, .int 0, .int 0, .int 0]))] := hD
  have hK : va_K D cls [] s := hK
  refine W.eq (g2 := F0 m 34 ls [.int 0]) rfl ?_
  exact xr_i hx hb hr hlocks hP hD hK hS (()) [0] rfl rfl (by decide) [] rfl rfl d_Mo_count_34

set_option maxHeartbeats 4000000 in
set_option maxRecDepth 100000 in
theorem c_Mo_count_3_n (l : Launch) (D : va_G) (h0 : Nat) (qa : Nat → Nat) (p1 : Int32) (hk : p1 < 0) (sz : Nat) : Met l y_Mo_count (Cond.code y_Mo_count b_Mo_count 3 (some .int) :: bw) (xR 2 0 0) (va_Pc [.ref h0, .int 3, .int p1] (xP D [] sz [(h0, .inr (7, [.int 0, .int 0, .int 0, .int 0, .int 0, .int 0, .int (-1), .int (-1), .int 0, .int 0, .int 0, .int 0, .int 0, .int 0, .int 0, .int 0, .ref (qa 0), .ref (qa 1), .ref (qa 2), .ref (qa 3), .int 0, .ref (qa 4), .ref (qa 5), .ref (qa 6), .ref (qa 7), .ref (qa 8), .ref (qa 9), .ref (qa 10), .ref (qa 11), .ref (qa 12), .ref (qa 13), .ref (qa 14), .ref (qa 15), .ref (qa 16), .ref (qa 17), .ref (qa 18), .ref (qa 19), .ref (qa 20), .int 0, .int 0, .int 0, .int 0, .long 0, .long 0, .long 0, .long 0, .long 0, .ref (qa 21), .int 0, .int 0, .int 0, .int 0]))])) (xQ (S := Unit) (fun _ => some (.int 0)) (fun _ => [(h0, .inr (7, [.int 1, .int 0, .int 0, .int 0, .int 0, .int 0, .int (-1), .int (-1), .int 0, .int 0, .int 0, .int 0, .int 0, .int 0, .int 0, .int 0, .ref (qa 0), .ref (qa 1), .ref (qa 2), .ref (qa 3), .int 0, .ref (qa 4), .ref (qa 5), .ref (qa 6), .ref (qa 7), .ref (qa 8), .ref (qa 9), .ref (qa 10), .ref (qa 11), .ref (qa 12), .ref (qa 13), .ref (qa 14), .ref (qa 15), .ref (qa 16), .ref (qa 17), .ref (qa 18), .ref (qa 19), .ref (qa 20), .int 0, .int 0, .int 0, .int 0, .long 0, .long 0, .long 0, .long 0, .long 0, .ref (qa 21), .int 0, .int 0, .int 0, .int 0]))]) (fun _ => []) D (va_A [(h0, .inr (7, [.int 0, .int 0, .int 0, .int 0, .int 0, .int 0, .int (-1), .int (-1), .int 0, .int 0, .int 0, .int 0, .int 0, .int 0, .int 0, .int 0, .ref (qa 0), .ref (qa 1), .ref (qa 2), .ref (qa 3), .int 0, .ref (qa 4), .ref (qa 5), .ref (qa 6), .ref (qa 7), .ref (qa 8), .ref (qa 9), .ref (qa 10), .ref (qa 11), .ref (qa 12), .ref (qa 13), .ref (qa 14), .ref (qa 15), .ref (qa 16), .ref (qa 17), .ref (qa 18), .ref (qa 19), .ref (qa 20), .int 0, .int 0, .int 0, .int 0, .long 0, .long 0, .long 0, .long 0, .long 0, .ref (qa 21), .int 0, .int 0, .int 0, .int 0]))] sz)) 0 0 (va_A [(h0, .inr (7, [.int 0, .int 0, .int 0, .int 0, .int 0, .int 0, .int (-1), .int (-1), .int 0, .int 0, .int 0, .int 0, .int 0, .int 0, .int 0, .int 0, .ref (qa 0), .ref (qa 1), .ref (qa 2), .ref (qa 3), .int 0, .ref (qa 4), .ref (qa 5), .ref (qa 6), .ref (qa 7), .ref (qa 8), .ref (qa 9), .ref (qa 10), .ref (qa 11), .ref (qa 12), .ref (qa 13), .ref (qa 14), .ref (qa 15), .ref (qa 16), .ref (qa 17), .ref (qa 18), .ref (qa 19), .ref (qa 20), .int 0, .int 0, .int 0, .int 0, .long 0, .long 0, .long 0, .long 0, .long 0, .ref (qa 21), .int 0, .int 0, .int 0, .int 0]))] sz) := by
  refine Met.ofW (cc := b_Mo_count) (maxL := 3) (ret := (some .int)) (by decide) rfl ?_
  intro p e s m args below meth c s₁ B hml hv
  obtain ⟨rfl, hsz, hP, hK, hD0, hN, hZ⟩ := hv
  have hx := B.exec
  have hb := B.bytes
  have hr := B.returns
  have hlocks := B.notSynchronized
  have hts : ∀ w ∈ bw, w.before _ s = true := fun w h => atoms_spec (ws := Cond.code y_Mo_count b_Mo_count 3 (some .int) :: bw) B.pre w (List.mem_cons_of_mem _ h)
  have hown : s.vm.findClass "ObjectForgeModel" = some m.cls := findClass_of_methodNamed B.named
  subst hsz
  have hP0 := hP
  have hD := hD0.self (sz := s.heap.size)
  generalize hAe : va_A [(h0, .inr (7, [.int 0, .int 0, .int 0, .int 0, .int 0, .int 0, .int (-1), .int (-1), .int 0, .int 0, .int 0, .int 0, .int 0, .int 0, .int 0, .int 0, .ref (qa 0), .ref (qa 1), .ref (qa 2), .ref (qa 3), .int 0, .ref (qa 4), .ref (qa 5), .ref (qa 6), .ref (qa 7), .ref (qa 8), .ref (qa 9), .ref (qa 10), .ref (qa 11), .ref (qa 12), .ref (qa 13), .ref (qa 14), .ref (qa 15), .ref (qa 16), .ref (qa 17), .ref (qa 18), .ref (qa 19), .ref (qa 20), .int 0, .int 0, .int 0, .int 0, .long 0, .long 0, .long 0, .long 0, .long 0, .ref (qa 21), .int 0, .int 0, .int 0, .int 0]))] s.heap.size = A at hD hZ ⊢
  have hA : ∀ q : Nat, s.heap.size ≤ q → A q := fun q h => by rw [← hAe]; exact Or.inr h
  have hS : va_S A s.heap s.heap [] := va_S.rf
  have hl := lv_entry ([.ref h0, .int 3, .int p1]) (n := 3) (Nat.le_of_ble_eq_true rfl)
  rw [lg_entry_eq]
  generalize (lg_sl ([.ref h0, .int 3, .int p1]) ++ List.replicate (3 - (lg_sl ([.ref h0, .int 3, .int p1])).length) Slot.unset).toArray = ls at hl ⊢
  have hl : lv_has ls 3 [(0, .ref h0), (1, .int 3), (2, .int p1)] := hl
  refine lv_aload_n hx hb d_Mo_count_0 rfl (lv_at hl 0 rfl) ?_
  refine lv_iconst (v := 0) hx hb d_Mo_count_1 (by decide) ?_
  refine va_put (D := D) (ci := 7) (v := .int 0) (ty := .int) (C := R_Mo) (T := F_Mo) (N := 52) hx hb hts i_Mo t_Mo t_Mo_ok n_Mo hown hK hP hD hS 0 rfl rfl 0 (by decide) (hts _ w_397) (fun _ h9 => h9) rfl (by decide +kernel) rfl rfl (Nat.le_of_ble_eq_true rfl) d_Mo_count_2 (fun H locs hP hD hS => ?_)
  have hP : va_P D cls [(h0, .inr (7, [.int 0, .int 0, .int 0, .int 0, .int 0, .int 0, .int (-1), .int (-1), .int 0, .int 0, .int 0, .int 0, .int 0, .int 0, .int 0, .int 0, .ref (qa 0), .ref (qa 1), .ref (qa 2), .ref (qa 3), .int 0, .ref (qa 4), .ref (qa 5), .ref (qa 6), .ref (qa 7), .ref (qa 8), .ref (qa 9), .ref (qa 10), .ref (qa 11), .ref (qa 12), .ref (qa 13), .ref (qa 14), .ref (qa 15), .ref (qa 16), .ref (qa 17), .ref (qa 18), .ref (qa 19), .ref (qa 20), .int 0, .int 0, .int 0, .int 0, .long 0, .long 0, .long 0, .long 0, .long 0, .ref (qa 21), .int 0, .int 0, .int 0, .int 0]))] H := hP
  have hD : va_D A [(h0, .inr (7, [.int 0, .int 0, .int 0, .int 0, .int 0, .int 0, .int (-1), .int (-1), .int 0, .int 0, .int 0, .int 0, .int 0, .int 0, .int 0, .int 0, .ref (qa 0), .ref (qa 1), .ref (qa 2), .ref (qa 3), .int 0, .ref (qa 4), .ref (qa 5), .ref (qa 6), .ref (qa 7), .ref (qa 8), .ref (qa 9), .ref (qa 10), .ref (qa 11), .ref (qa 12), .ref (qa 13), .ref (qa 14), .ref (qa 15), .ref (qa 16), .ref (qa 17), .ref (qa 18), .ref (qa 19), .ref (qa 20), .int 0, .int 0, .int 0, .int 0, .long 0, .long 0, .long 0, .long 0, .long 0, .ref (qa 21), .int 0, .int 0, .int 0, .int 0]))] := hD
  refine lv_iload_n hx hb d_Mo_count_5 rfl (lv_at hl 1 rfl) ?_
  refine lv_iconst (v := 4) hx hb d_Mo_count_6 (by decide) ?_
  refine xc_S (As := [.int 3, .int 4]) (rest := []) (n := 2) (wc := []) (wr := [(h0, .inr (7, [.int 0, .int 0, .int 0, .int 0, .int 0, .int 0, .int (-1), .int (-1), .int 0, .int 0, .int 0, .int 0, .int 0, .int 0, .int 0, .int 0, .ref (qa 0), .ref (qa 1), .ref (qa 2), .ref (qa 3), .int 0, .ref (qa 4), .ref (qa 5), .ref (qa 6), .ref (qa 7), .ref (qa 8), .ref (qa 9), .ref (qa 10), .ref (qa 11), .ref (qa 12), .ref (qa 13), .ref (qa 14), .ref (qa 15), .ref (qa 16), .ref (qa 17), .ref (qa 18), .ref (qa 19), .ref (qa 20), .int 0, .int 0, .int 0, .int 0, .long 0, .long 0, .long 0, .long 0, .long 0, .ref (qa 21), .int 0, .int 0, .int 0, .int 0]))]) (tc := []) (tr := []) ⟨hx, hb, hml, hown, hts⟩ (c_Mo_within_3 l D H.size) rfl rfl w_510 w_508 w_509 w_8 (by decide +kernel) ⟨Nat.le_of_ble_eq_true rfl, Nat.le_of_ble_eq_true rfl⟩ hP hD hK hS hA hN hZ [] [0] rfl rfl (by decide) (by decide) (by decide) [] [] rfl rfl rfl hl.1 rfl (Nat.le_of_ble_eq_true rfl) d_Mo_count_7 ⟨Nat.le_of_ble_eq_true rfl, Nat.le_of_ble_eq_true rfl⟩ (fun u1 H locs hP hD hK hS => ?_)
  have hP : va_P D cls [(h0, .inr (7, [.int 0, .int 0, .int 0, .int 0, .int 0, .int 0, .int (-1), .int (-1), .int 0, .int 0, .int 0, .int 0, .int 0, .int 0, .int 0, .int 0, .ref (qa 0), .ref (qa 1), .ref (qa 2), .ref (qa 3), .int 0, .ref (qa 4), .ref (qa 5), .ref (qa 6), .ref (qa 7), .ref (qa 8), .ref (qa 9), .ref (qa 10), .ref (qa 11), .ref (qa 12), .ref (qa 13), .ref (qa 14), .ref (qa 15), .ref (qa 16), .ref (qa 17), .ref (qa 18), .ref (qa 19), .ref (qa 20), .int 0, .int 0, .int 0, .int 0, .long 0, .long 0, .long 0, .long 0, .long 0, .ref (qa 21), .int 0, .int 0, .int 0, .int 0]))] H := hP
  have hD : va_D A [(h0, .inr (7, [.int 0, .int 0, .int 0, .int 0, .int 0, .int 0, .int (-1), .int (-1), .int 0, .int 0, .int 0, .int 0, .int 0, .int 0, .int 0, .int 0, .ref (qa 0), .ref (qa 1), .ref (qa 2), .ref (qa 3), .int 0, .ref (qa 4), .ref (qa 5), .ref (qa 6), .ref (qa 7), .ref (qa 8), .ref (qa 9), .ref (qa 10), .ref (qa 11), .ref (qa 12), .ref (qa 13), .ref (qa 14), .ref (qa 15), .ref (qa 16), .ref (qa 17), .ref (qa 18), .ref (qa 19), .ref (qa 20), .int 0, .int 0, .int 0, .int 0, .long 0, .long 0, .long 0, .long 0, .long 0, .ref (qa 21), .int 0, .int 0, .int 0, .int 0]))] := hD
  have hK : va_K D cls [] s := hK
  refine W.eq (g2 := F0 m 10 ls [.int 1]) rfl ?_
  refine lv_if_eq (tgt := 29) hx hb d_Mo_count_10 (by decide) (fun q9 => absurd q9 (by decide : ¬ ((1 : Int32) = 0))) (fun _ => ?_)
  refine lv_iload_n hx hb d_Mo_count_13 rfl (lv_at hl 1 rfl) ?_
  refine lv_iconst (v := 1) hx hb d_Mo_count_14 (by decide) ?_
  refine lv_icmp_le (tgt := 35) hx hb d_Mo_count_15 (by decide) (fun q9 => absurd q9 (by decide : ¬ ((3 : Int32) ≤ 1))) (fun _ => ?_)
  refine lv_iload_n hx hb d_Mo_count_18 rfl (lv_at hl 2 rfl) ?_
  refine lv_aload_n hx hb d_Mo_count_19 rfl (lv_at hl 0 rfl) ?_
  refine va_get (D := D) (ci := 7) (v := .int 0) (C := R_Mo) (T := F_Mo) (N := 52) hx hb hts i_Mo hown hK hP 0 rfl rfl 2 (by decide) (hts _ w_400) (fun _ h9 => h9) rfl d_Mo_count_20 ?_
  refine xc_S (As := [.int p1, .int 0]) (rest := []) (n := 2) (wc := []) (wr := [(h0, .inr (7, [.int 0, .int 0, .int 0, .int 0, .int 0, .int 0, .int (-1), .int (-1), .int 0, .int 0, .int 0, .int 0, .int 0, .int 0, .int 0, .int 0, .ref (qa 0), .ref (qa 1), .ref (qa 2), .ref (qa 3), .int 0, .ref (qa 4), .ref (qa 5), .ref (qa 6), .ref (qa 7), .ref (qa 8), .ref (qa 9), .ref (qa 10), .ref (qa 11), .ref (qa 12), .ref (qa 13), .ref (qa 14), .ref (qa 15), .ref (qa 16), .ref (qa 17), .ref (qa 18), .ref (qa 19), .ref (qa 20), .int 0, .int 0, .int 0, .int 0, .long 0, .long 0, .long 0, .long 0, .long 0, .ref (qa 21), .int 0, .int 0, .int 0, .int 0]))]) (tc := []) (tr := []) ⟨hx, hb, hml, hown, hts⟩ (c_Mo_within_n l D p1 0 hk H.size) rfl rfl w_510 w_508 w_509 w_8 (by decide +kernel) ⟨Nat.le_of_ble_eq_true rfl, Nat.le_of_ble_eq_true rfl⟩ hP hD hK hS hA hN hZ [] [0] rfl rfl (by decide) (by decide) (by decide) [] [] rfl rfl rfl hl.1 rfl (Nat.le_of_ble_eq_true rfl) d_Mo_count_23 ⟨Nat.le_of_ble_eq_true rfl, Nat.le_of_ble_eq_true rfl⟩ (fun u2 H locs hP hD hK hS => ?_)
  have hP : va_P D cls [(h0, .inr (7, [.int 0, .int 0, .int 0, .int 0, .int 0, .int 0, .int (-1), .int (-1), .int 0, .int 0, .int 0, .int 0, .int 0, .int 0, .int 0, .int 0, .ref (qa 0), .ref (qa 1), .ref (qa 2), .ref (qa 3), .int 0, .ref (qa 4), .ref (qa 5), .ref (qa 6), .ref (qa 7), .ref (qa 8), .ref (qa 9), .ref (qa 10), .ref (qa 11), .ref (qa 12), .ref (qa 13), .ref (qa 14), .ref (qa 15), .ref (qa 16), .ref (qa 17), .ref (qa 18), .ref (qa 19), .ref (qa 20), .int 0, .int 0, .int 0, .int 0, .long 0, .long 0, .long 0, .long 0, .long 0, .ref (qa 21), .int 0, .int 0, .int 0, .int 0]))] H := hP
  have hD : va_D A [(h0, .inr (7, [.int 0, .int 0, .int 0, .int 0, .int 0, .int 0, .int (-1), .int (-1), .int 0, .int 0, .int 0, .int 0, .int 0, .int 0, .int 0, .int 0, .ref (qa 0), .ref (qa 1), .ref (qa 2), .ref (qa 3), .int 0, .ref (qa 4), .ref (qa 5), .ref (qa 6), .ref (qa 7), .ref (qa 8), .ref (qa 9), .ref (qa 10), .ref (qa 11), .ref (qa 12), .ref (qa 13), .ref (qa 14), .ref (qa 15), .ref (qa 16), .ref (qa 17), .ref (qa 18), .ref (qa 19), .ref (qa 20), .int 0, .int 0, .int 0, .int 0, .long 0, .long 0, .long 0, .long 0, .long 0, .ref (qa 21), .int 0, .int 0, .int 0, .int 0]))] := hD
  have hK : va_K D cls [] s := hK
  refine W.eq (g2 := F0 m 26 ls [.int 0]) rfl ?_
  refine lv_if_ne (tgt := 35) hx hb d_Mo_count_26 (by decide) (fun q9 => absurd (by decide : ((0 : Int32) = 0)) q9) (fun _ => ?_)
  refine lv_aload_n hx hb d_Mo_count_29 rfl (lv_at hl 0 rfl) ?_
  refine lv_iconst (v := 1) hx hb d_Mo_count_30 (by decide) ?_
  refine xc_V (As := [.int 1]) (rest := []) (n := 1) (wc := [(h0, .inr (7, [.int 0, .int 0, .int 0, .int 0, .int 0, .int 0, .int (-1), .int (-1), .int 0, .int 0, .int 0, .int 0, .int 0, .int 0, .int 0, .int 0, .ref (qa 0), .ref (qa 1), .ref (qa 2), .ref (qa 3), .int 0, .ref (qa 4), .ref (qa 5), .ref (qa 6), .ref (qa 7), .ref (qa 8), .ref (qa 9), .ref (qa 10), .ref (qa 11), .ref (qa 12), .ref (qa 13), .ref (qa 14), .ref (qa 15), .ref (qa 16), .ref (qa 17), .ref (qa 18), .ref (qa 19), .ref (qa 20), .int 0, .int 0, .int 0, .int 0, .long 0, .long 0, .long 0, .long 0, .long 0, .ref (qa 21), .int 0, .int 0, .int 0, .int 0]))]) (wr := []) (tc := []) (tr := []) ⟨hx, hb, hml, hown, hts⟩ (c_Mo_refuse_1 l D h0 qa H.size) rfl rfl w_452 w_450 w_451 w_557 w_8 (by decide +kernel) ⟨Nat.le_of_ble_eq_true rfl, Nat.le_of_ble_eq_true rfl⟩ hP hD hK hS hA hN hZ [0] [] rfl rfl (by decide) (by decide) (by decide) [] [] rfl rfl (ci := 7) (q0 := 0) (q := (R_Mo, F_Mo, 52)) rfl rfl rfl rfl hl.1 rfl (Nat.le_of_ble_eq_true rfl) d_Mo_count_31 ⟨Nat.le_of_ble_eq_true rfl, Nat.le_of_ble_eq_true rfl⟩ (fun u3 H locs hP hD hK hS => ?_)
  have hP : va_P D cls [(h0, .inr (7, [.int 1, .int 0, .int 0, .int 0, .int 0, .int 0, .int (-1), .int (-1), .int 0, .int 0, .int 0, .int 0, .int 0, .int 0, .int 0, .int 0, .ref (qa 0), .ref (qa 1), .ref (qa 2), .ref (qa 3), .int 0, .ref (qa 4), .ref (qa 5), .ref (qa 6), .ref (qa 7), .ref (qa 8), .ref (qa 9), .ref (qa 10), .ref (qa 11), .ref (qa 12), .ref (qa 13), .ref (qa 14), .ref (qa 15), .ref (qa 16), .ref (qa 17), .ref (qa 18), .ref (qa 19), .ref (qa 20), .int 0, .int 0, .int 0, .int 0, .long 0, .long 0, .long 0, .long 0, .long 0, .ref (qa 21), .int 0, .int 0, .int 0, .int 0]))] H := hP
  have hD : va_D A [(h0, .inr (7, [.int 1, .int 0, .int 0, .int 0, .int 0, .int 0, .int (-1), .int (-1), .int 0, .int 0, .int 0, .int 0, .int 0, .int 0, .int 0, .int 0, .ref (qa 0), .ref (qa 1), .ref (qa 2), .ref (qa 3), .int 0, .ref (qa 4), .ref (qa 5), .ref (qa 6), .ref (qa 7), .ref (qa 8), .ref (qa 9), .ref (qa 10), .ref (qa 11), .ref (qa 12), .ref (qa 13), .ref (qa 14), .ref (qa 15), .ref (qa 16), .ref (qa 17), .ref (qa 18), .ref (qa 19), .ref (qa 20), .int 0, .int 0, .int 0, .int 0, .long 0, .long 0, .long 0, .long 0, .long 0, .ref (qa 21), .int 0, .int 0, .int 0, .int 0]))] := hD
  have hK : va_K D cls [] s := hK
  refine W.eq (g2 := F0 m 34 ls [.int 0]) rfl ?_
  exact xr_i hx hb hr hlocks hP hD hK hS (()) [0] rfl rfl (by decide) [] rfl rfl d_Mo_count_34

set_option maxHeartbeats 4000000 in
set_option maxRecDepth 100000 in
theorem c_Mo_count_3_g (l : Launch) (D : va_G) (h0 : Nat) (qa : Nat → Nat) (p1 : Int32) (hk : ¬ p1 < 0) (hg : 0 ≤ p1) (sz : Nat) : Met l y_Mo_count (Cond.code y_Mo_count b_Mo_count 3 (some .int) :: bw) (xR 2 0 0) (va_Pc [.ref h0, .int 3, .int p1] (xP D [] sz [(h0, .inr (7, [.int 0, .int 0, .int 0, .int 0, .int 0, .int 0, .int (-1), .int (-1), .int 0, .int 0, .int 0, .int 0, .int 0, .int 0, .int 0, .int 0, .ref (qa 0), .ref (qa 1), .ref (qa 2), .ref (qa 3), .int 0, .ref (qa 4), .ref (qa 5), .ref (qa 6), .ref (qa 7), .ref (qa 8), .ref (qa 9), .ref (qa 10), .ref (qa 11), .ref (qa 12), .ref (qa 13), .ref (qa 14), .ref (qa 15), .ref (qa 16), .ref (qa 17), .ref (qa 18), .ref (qa 19), .ref (qa 20), .int 0, .int 0, .int 0, .int 0, .long 0, .long 0, .long 0, .long 0, .long 0, .ref (qa 21), .int 0, .int 0, .int 0, .int 0]))])) (xQ (S := Unit) (fun _ => some (.int 0)) (fun _ => [(h0, .inr (7, [.int 1, .int 0, .int 0, .int 0, .int 0, .int 0, .int (-1), .int (-1), .int 0, .int 0, .int 0, .int 0, .int 0, .int 0, .int 0, .int 0, .ref (qa 0), .ref (qa 1), .ref (qa 2), .ref (qa 3), .int 0, .ref (qa 4), .ref (qa 5), .ref (qa 6), .ref (qa 7), .ref (qa 8), .ref (qa 9), .ref (qa 10), .ref (qa 11), .ref (qa 12), .ref (qa 13), .ref (qa 14), .ref (qa 15), .ref (qa 16), .ref (qa 17), .ref (qa 18), .ref (qa 19), .ref (qa 20), .int 0, .int 0, .int 0, .int 0, .long 0, .long 0, .long 0, .long 0, .long 0, .ref (qa 21), .int 0, .int 0, .int 0, .int 0]))]) (fun _ => []) D (va_A [(h0, .inr (7, [.int 0, .int 0, .int 0, .int 0, .int 0, .int 0, .int (-1), .int (-1), .int 0, .int 0, .int 0, .int 0, .int 0, .int 0, .int 0, .int 0, .ref (qa 0), .ref (qa 1), .ref (qa 2), .ref (qa 3), .int 0, .ref (qa 4), .ref (qa 5), .ref (qa 6), .ref (qa 7), .ref (qa 8), .ref (qa 9), .ref (qa 10), .ref (qa 11), .ref (qa 12), .ref (qa 13), .ref (qa 14), .ref (qa 15), .ref (qa 16), .ref (qa 17), .ref (qa 18), .ref (qa 19), .ref (qa 20), .int 0, .int 0, .int 0, .int 0, .long 0, .long 0, .long 0, .long 0, .long 0, .ref (qa 21), .int 0, .int 0, .int 0, .int 0]))] sz)) 0 0 (va_A [(h0, .inr (7, [.int 0, .int 0, .int 0, .int 0, .int 0, .int 0, .int (-1), .int (-1), .int 0, .int 0, .int 0, .int 0, .int 0, .int 0, .int 0, .int 0, .ref (qa 0), .ref (qa 1), .ref (qa 2), .ref (qa 3), .int 0, .ref (qa 4), .ref (qa 5), .ref (qa 6), .ref (qa 7), .ref (qa 8), .ref (qa 9), .ref (qa 10), .ref (qa 11), .ref (qa 12), .ref (qa 13), .ref (qa 14), .ref (qa 15), .ref (qa 16), .ref (qa 17), .ref (qa 18), .ref (qa 19), .ref (qa 20), .int 0, .int 0, .int 0, .int 0, .long 0, .long 0, .long 0, .long 0, .long 0, .ref (qa 21), .int 0, .int 0, .int 0, .int 0]))] sz) := by
  refine Met.ofW (cc := b_Mo_count) (maxL := 3) (ret := (some .int)) (by decide) rfl ?_
  intro p e s m args below meth c s₁ B hml hv
  obtain ⟨rfl, hsz, hP, hK, hD0, hN, hZ⟩ := hv
  have hx := B.exec
  have hb := B.bytes
  have hr := B.returns
  have hlocks := B.notSynchronized
  have hts : ∀ w ∈ bw, w.before _ s = true := fun w h => atoms_spec (ws := Cond.code y_Mo_count b_Mo_count 3 (some .int) :: bw) B.pre w (List.mem_cons_of_mem _ h)
  have hown : s.vm.findClass "ObjectForgeModel" = some m.cls := findClass_of_methodNamed B.named
  subst hsz
  have hP0 := hP
  have hD := hD0.self (sz := s.heap.size)
  generalize hAe : va_A [(h0, .inr (7, [.int 0, .int 0, .int 0, .int 0, .int 0, .int 0, .int (-1), .int (-1), .int 0, .int 0, .int 0, .int 0, .int 0, .int 0, .int 0, .int 0, .ref (qa 0), .ref (qa 1), .ref (qa 2), .ref (qa 3), .int 0, .ref (qa 4), .ref (qa 5), .ref (qa 6), .ref (qa 7), .ref (qa 8), .ref (qa 9), .ref (qa 10), .ref (qa 11), .ref (qa 12), .ref (qa 13), .ref (qa 14), .ref (qa 15), .ref (qa 16), .ref (qa 17), .ref (qa 18), .ref (qa 19), .ref (qa 20), .int 0, .int 0, .int 0, .int 0, .long 0, .long 0, .long 0, .long 0, .long 0, .ref (qa 21), .int 0, .int 0, .int 0, .int 0]))] s.heap.size = A at hD hZ ⊢
  have hA : ∀ q : Nat, s.heap.size ≤ q → A q := fun q h => by rw [← hAe]; exact Or.inr h
  have hS : va_S A s.heap s.heap [] := va_S.rf
  have hl := lv_entry ([.ref h0, .int 3, .int p1]) (n := 3) (Nat.le_of_ble_eq_true rfl)
  rw [lg_entry_eq]
  generalize (lg_sl ([.ref h0, .int 3, .int p1]) ++ List.replicate (3 - (lg_sl ([.ref h0, .int 3, .int p1])).length) Slot.unset).toArray = ls at hl ⊢
  have hl : lv_has ls 3 [(0, .ref h0), (1, .int 3), (2, .int p1)] := hl
  refine lv_aload_n hx hb d_Mo_count_0 rfl (lv_at hl 0 rfl) ?_
  refine lv_iconst (v := 0) hx hb d_Mo_count_1 (by decide) ?_
  refine va_put (D := D) (ci := 7) (v := .int 0) (ty := .int) (C := R_Mo) (T := F_Mo) (N := 52) hx hb hts i_Mo t_Mo t_Mo_ok n_Mo hown hK hP hD hS 0 rfl rfl 0 (by decide) (hts _ w_397) (fun _ h9 => h9) rfl (by decide +kernel) rfl rfl (Nat.le_of_ble_eq_true rfl) d_Mo_count_2 (fun H locs hP hD hS => ?_)
  have hP : va_P D cls [(h0, .inr (7, [.int 0, .int 0, .int 0, .int 0, .int 0, .int 0, .int (-1), .int (-1), .int 0, .int 0, .int 0, .int 0, .int 0, .int 0, .int 0, .int 0, .ref (qa 0), .ref (qa 1), .ref (qa 2), .ref (qa 3), .int 0, .ref (qa 4), .ref (qa 5), .ref (qa 6), .ref (qa 7), .ref (qa 8), .ref (qa 9), .ref (qa 10), .ref (qa 11), .ref (qa 12), .ref (qa 13), .ref (qa 14), .ref (qa 15), .ref (qa 16), .ref (qa 17), .ref (qa 18), .ref (qa 19), .ref (qa 20), .int 0, .int 0, .int 0, .int 0, .long 0, .long 0, .long 0, .long 0, .long 0, .ref (qa 21), .int 0, .int 0, .int 0, .int 0]))] H := hP
  have hD : va_D A [(h0, .inr (7, [.int 0, .int 0, .int 0, .int 0, .int 0, .int 0, .int (-1), .int (-1), .int 0, .int 0, .int 0, .int 0, .int 0, .int 0, .int 0, .int 0, .ref (qa 0), .ref (qa 1), .ref (qa 2), .ref (qa 3), .int 0, .ref (qa 4), .ref (qa 5), .ref (qa 6), .ref (qa 7), .ref (qa 8), .ref (qa 9), .ref (qa 10), .ref (qa 11), .ref (qa 12), .ref (qa 13), .ref (qa 14), .ref (qa 15), .ref (qa 16), .ref (qa 17), .ref (qa 18), .ref (qa 19), .ref (qa 20), .int 0, .int 0, .int 0, .int 0, .long 0, .long 0, .long 0, .long 0, .long 0, .ref (qa 21), .int 0, .int 0, .int 0, .int 0]))] := hD
  refine lv_iload_n hx hb d_Mo_count_5 rfl (lv_at hl 1 rfl) ?_
  refine lv_iconst (v := 4) hx hb d_Mo_count_6 (by decide) ?_
  refine xc_S (As := [.int 3, .int 4]) (rest := []) (n := 2) (wc := []) (wr := [(h0, .inr (7, [.int 0, .int 0, .int 0, .int 0, .int 0, .int 0, .int (-1), .int (-1), .int 0, .int 0, .int 0, .int 0, .int 0, .int 0, .int 0, .int 0, .ref (qa 0), .ref (qa 1), .ref (qa 2), .ref (qa 3), .int 0, .ref (qa 4), .ref (qa 5), .ref (qa 6), .ref (qa 7), .ref (qa 8), .ref (qa 9), .ref (qa 10), .ref (qa 11), .ref (qa 12), .ref (qa 13), .ref (qa 14), .ref (qa 15), .ref (qa 16), .ref (qa 17), .ref (qa 18), .ref (qa 19), .ref (qa 20), .int 0, .int 0, .int 0, .int 0, .long 0, .long 0, .long 0, .long 0, .long 0, .ref (qa 21), .int 0, .int 0, .int 0, .int 0]))]) (tc := []) (tr := []) ⟨hx, hb, hml, hown, hts⟩ (c_Mo_within_3 l D H.size) rfl rfl w_510 w_508 w_509 w_8 (by decide +kernel) ⟨Nat.le_of_ble_eq_true rfl, Nat.le_of_ble_eq_true rfl⟩ hP hD hK hS hA hN hZ [] [0] rfl rfl (by decide) (by decide) (by decide) [] [] rfl rfl rfl hl.1 rfl (Nat.le_of_ble_eq_true rfl) d_Mo_count_7 ⟨Nat.le_of_ble_eq_true rfl, Nat.le_of_ble_eq_true rfl⟩ (fun u1 H locs hP hD hK hS => ?_)
  have hP : va_P D cls [(h0, .inr (7, [.int 0, .int 0, .int 0, .int 0, .int 0, .int 0, .int (-1), .int (-1), .int 0, .int 0, .int 0, .int 0, .int 0, .int 0, .int 0, .int 0, .ref (qa 0), .ref (qa 1), .ref (qa 2), .ref (qa 3), .int 0, .ref (qa 4), .ref (qa 5), .ref (qa 6), .ref (qa 7), .ref (qa 8), .ref (qa 9), .ref (qa 10), .ref (qa 11), .ref (qa 12), .ref (qa 13), .ref (qa 14), .ref (qa 15), .ref (qa 16), .ref (qa 17), .ref (qa 18), .ref (qa 19), .ref (qa 20), .int 0, .int 0, .int 0, .int 0, .long 0, .long 0, .long 0, .long 0, .long 0, .ref (qa 21), .int 0, .int 0, .int 0, .int 0]))] H := hP
  have hD : va_D A [(h0, .inr (7, [.int 0, .int 0, .int 0, .int 0, .int 0, .int 0, .int (-1), .int (-1), .int 0, .int 0, .int 0, .int 0, .int 0, .int 0, .int 0, .int 0, .ref (qa 0), .ref (qa 1), .ref (qa 2), .ref (qa 3), .int 0, .ref (qa 4), .ref (qa 5), .ref (qa 6), .ref (qa 7), .ref (qa 8), .ref (qa 9), .ref (qa 10), .ref (qa 11), .ref (qa 12), .ref (qa 13), .ref (qa 14), .ref (qa 15), .ref (qa 16), .ref (qa 17), .ref (qa 18), .ref (qa 19), .ref (qa 20), .int 0, .int 0, .int 0, .int 0, .long 0, .long 0, .long 0, .long 0, .long 0, .ref (qa 21), .int 0, .int 0, .int 0, .int 0]))] := hD
  have hK : va_K D cls [] s := hK
  refine W.eq (g2 := F0 m 10 ls [.int 1]) rfl ?_
  refine lv_if_eq (tgt := 29) hx hb d_Mo_count_10 (by decide) (fun q9 => absurd q9 (by decide : ¬ ((1 : Int32) = 0))) (fun _ => ?_)
  refine lv_iload_n hx hb d_Mo_count_13 rfl (lv_at hl 1 rfl) ?_
  refine lv_iconst (v := 1) hx hb d_Mo_count_14 (by decide) ?_
  refine lv_icmp_le (tgt := 35) hx hb d_Mo_count_15 (by decide) (fun q9 => absurd q9 (by decide : ¬ ((3 : Int32) ≤ 1))) (fun _ => ?_)
  refine lv_iload_n hx hb d_Mo_count_18 rfl (lv_at hl 2 rfl) ?_
  refine lv_aload_n hx hb d_Mo_count_19 rfl (lv_at hl 0 rfl) ?_
  refine va_get (D := D) (ci := 7) (v := .int 0) (C := R_Mo) (T := F_Mo) (N := 52) hx hb hts i_Mo hown hK hP 0 rfl rfl 2 (by decide) (hts _ w_400) (fun _ h9 => h9) rfl d_Mo_count_20 ?_
  refine xc_S (As := [.int p1, .int 0]) (rest := []) (n := 2) (wc := []) (wr := [(h0, .inr (7, [.int 0, .int 0, .int 0, .int 0, .int 0, .int 0, .int (-1), .int (-1), .int 0, .int 0, .int 0, .int 0, .int 0, .int 0, .int 0, .int 0, .ref (qa 0), .ref (qa 1), .ref (qa 2), .ref (qa 3), .int 0, .ref (qa 4), .ref (qa 5), .ref (qa 6), .ref (qa 7), .ref (qa 8), .ref (qa 9), .ref (qa 10), .ref (qa 11), .ref (qa 12), .ref (qa 13), .ref (qa 14), .ref (qa 15), .ref (qa 16), .ref (qa 17), .ref (qa 18), .ref (qa 19), .ref (qa 20), .int 0, .int 0, .int 0, .int 0, .long 0, .long 0, .long 0, .long 0, .long 0, .ref (qa 21), .int 0, .int 0, .int 0, .int 0]))]) (tc := []) (tr := []) ⟨hx, hb, hml, hown, hts⟩ (c_Mo_within_g l D p1 0 hk hg H.size) rfl rfl w_510 w_508 w_509 w_8 (by decide +kernel) ⟨Nat.le_of_ble_eq_true rfl, Nat.le_of_ble_eq_true rfl⟩ hP hD hK hS hA hN hZ [] [0] rfl rfl (by decide) (by decide) (by decide) [] [] rfl rfl rfl hl.1 rfl (Nat.le_of_ble_eq_true rfl) d_Mo_count_23 ⟨Nat.le_of_ble_eq_true rfl, Nat.le_of_ble_eq_true rfl⟩ (fun u2 H locs hP hD hK hS => ?_)
  have hP : va_P D cls [(h0, .inr (7, [.int 0, .int 0, .int 0, .int 0, .int 0, .int 0, .int (-1), .int (-1), .int 0, .int 0, .int 0, .int 0, .int 0, .int 0, .int 0, .int 0, .ref (qa 0), .ref (qa 1), .ref (qa 2), .ref (qa 3), .int 0, .ref (qa 4), .ref (qa 5), .ref (qa 6), .ref (qa 7), .ref (qa 8), .ref (qa 9), .ref (qa 10), .ref (qa 11), .ref (qa 12), .ref (qa 13), .ref (qa 14), .ref (qa 15), .ref (qa 16), .ref (qa 17), .ref (qa 18), .ref (qa 19), .ref (qa 20), .int 0, .int 0, .int 0, .int 0, .long 0, .long 0, .long 0, .long 0, .long 0, .ref (qa 21), .int 0, .int 0, .int 0, .int 0]))] H := hP
  have hD : va_D A [(h0, .inr (7, [.int 0, .int 0, .int 0, .int 0, .int 0, .int 0, .int (-1), .int (-1), .int 0, .int 0, .int 0, .int 0, .int 0, .int 0, .int 0, .int 0, .ref (qa 0), .ref (qa 1), .ref (qa 2), .ref (qa 3), .int 0, .ref (qa 4), .ref (qa 5), .ref (qa 6), .ref (qa 7), .ref (qa 8), .ref (qa 9), .ref (qa 10), .ref (qa 11), .ref (qa 12), .ref (qa 13), .ref (qa 14), .ref (qa 15), .ref (qa 16), .ref (qa 17), .ref (qa 18), .ref (qa 19), .ref (qa 20), .int 0, .int 0, .int 0, .int 0, .long 0, .long 0, .long 0, .long 0, .long 0, .ref (qa 21), .int 0, .int 0, .int 0, .int 0]))] := hD
  have hK : va_K D cls [] s := hK
  refine W.eq (g2 := F0 m 26 ls [.int 0]) rfl ?_
  refine lv_if_ne (tgt := 35) hx hb d_Mo_count_26 (by decide) (fun q9 => absurd (by decide : ((0 : Int32) = 0)) q9) (fun _ => ?_)
  refine lv_aload_n hx hb d_Mo_count_29 rfl (lv_at hl 0 rfl) ?_
  refine lv_iconst (v := 1) hx hb d_Mo_count_30 (by decide) ?_
  refine xc_V (As := [.int 1]) (rest := []) (n := 1) (wc := [(h0, .inr (7, [.int 0, .int 0, .int 0, .int 0, .int 0, .int 0, .int (-1), .int (-1), .int 0, .int 0, .int 0, .int 0, .int 0, .int 0, .int 0, .int 0, .ref (qa 0), .ref (qa 1), .ref (qa 2), .ref (qa 3), .int 0, .ref (qa 4), .ref (qa 5), .ref (qa 6), .ref (qa 7), .ref (qa 8), .ref (qa 9), .ref (qa 10), .ref (qa 11), .ref (qa 12), .ref (qa 13), .ref (qa 14), .ref (qa 15), .ref (qa 16), .ref (qa 17), .ref (qa 18), .ref (qa 19), .ref (qa 20), .int 0, .int 0, .int 0, .int 0, .long 0, .long 0, .long 0, .long 0, .long 0, .ref (qa 21), .int 0, .int 0, .int 0, .int 0]))]) (wr := []) (tc := []) (tr := []) ⟨hx, hb, hml, hown, hts⟩ (c_Mo_refuse_1 l D h0 qa H.size) rfl rfl w_452 w_450 w_451 w_557 w_8 (by decide +kernel) ⟨Nat.le_of_ble_eq_true rfl, Nat.le_of_ble_eq_true rfl⟩ hP hD hK hS hA hN hZ [0] [] rfl rfl (by decide) (by decide) (by decide) [] [] rfl rfl (ci := 7) (q0 := 0) (q := (R_Mo, F_Mo, 52)) rfl rfl rfl rfl hl.1 rfl (Nat.le_of_ble_eq_true rfl) d_Mo_count_31 ⟨Nat.le_of_ble_eq_true rfl, Nat.le_of_ble_eq_true rfl⟩ (fun u3 H locs hP hD hK hS => ?_)
  have hP : va_P D cls [(h0, .inr (7, [.int 1, .int 0, .int 0, .int 0, .int 0, .int 0, .int (-1), .int (-1), .int 0, .int 0, .int 0, .int 0, .int 0, .int 0, .int 0, .int 0, .ref (qa 0), .ref (qa 1), .ref (qa 2), .ref (qa 3), .int 0, .ref (qa 4), .ref (qa 5), .ref (qa 6), .ref (qa 7), .ref (qa 8), .ref (qa 9), .ref (qa 10), .ref (qa 11), .ref (qa 12), .ref (qa 13), .ref (qa 14), .ref (qa 15), .ref (qa 16), .ref (qa 17), .ref (qa 18), .ref (qa 19), .ref (qa 20), .int 0, .int 0, .int 0, .int 0, .long 0, .long 0, .long 0, .long 0, .long 0, .ref (qa 21), .int 0, .int 0, .int 0, .int 0]))] H := hP
  have hD : va_D A [(h0, .inr (7, [.int 1, .int 0, .int 0, .int 0, .int 0, .int 0, .int (-1), .int (-1), .int 0, .int 0, .int 0, .int 0, .int 0, .int 0, .int 0, .int 0, .ref (qa 0), .ref (qa 1), .ref (qa 2), .ref (qa 3), .int 0, .ref (qa 4), .ref (qa 5), .ref (qa 6), .ref (qa 7), .ref (qa 8), .ref (qa 9), .ref (qa 10), .ref (qa 11), .ref (qa 12), .ref (qa 13), .ref (qa 14), .ref (qa 15), .ref (qa 16), .ref (qa 17), .ref (qa 18), .ref (qa 19), .ref (qa 20), .int 0, .int 0, .int 0, .int 0, .long 0, .long 0, .long 0, .long 0, .long 0, .ref (qa 21), .int 0, .int 0, .int 0, .int 0]))] := hD
  have hK : va_K D cls [] s := hK
  refine W.eq (g2 := F0 m 34 ls [.int 0]) rfl ?_
  exact xr_i hx hb hr hlocks hP hD hK hS (()) [0] rfl rfl (by decide) [] rfl rfl d_Mo_count_34

set_option maxHeartbeats 4000000 in
set_option maxRecDepth 100000 in
theorem c_Mo_count_n (l : Launch) (D : va_G) (h0 : Nat) (qa : Nat → Nat) (p0 p1 : Int32) (hk : p0 < 0) (sz : Nat) : Met l y_Mo_count (Cond.code y_Mo_count b_Mo_count 3 (some .int) :: bw) (xR 2 0 0) (va_Pc [.ref h0, .int p0, .int p1] (xP D [] sz [(h0, .inr (7, [.int 0, .int 0, .int 0, .int 0, .int 0, .int 0, .int (-1), .int (-1), .int 0, .int 0, .int 0, .int 0, .int 0, .int 0, .int 0, .int 0, .ref (qa 0), .ref (qa 1), .ref (qa 2), .ref (qa 3), .int 0, .ref (qa 4), .ref (qa 5), .ref (qa 6), .ref (qa 7), .ref (qa 8), .ref (qa 9), .ref (qa 10), .ref (qa 11), .ref (qa 12), .ref (qa 13), .ref (qa 14), .ref (qa 15), .ref (qa 16), .ref (qa 17), .ref (qa 18), .ref (qa 19), .ref (qa 20), .int 0, .int 0, .int 0, .int 0, .long 0, .long 0, .long 0, .long 0, .long 0, .ref (qa 21), .int 0, .int 0, .int 0, .int 0]))])) (xQ (S := Unit) (fun _ => some (.int 0)) (fun _ => [(h0, .inr (7, [.int 1, .int 0, .int 0, .int 0, .int 0, .int 0, .int (-1), .int (-1), .int 0, .int 0, .int 0, .int 0, .int 0, .int 0, .int 0, .int 0, .ref (qa 0), .ref (qa 1), .ref (qa 2), .ref (qa 3), .int 0, .ref (qa 4), .ref (qa 5), .ref (qa 6), .ref (qa 7), .ref (qa 8), .ref (qa 9), .ref (qa 10), .ref (qa 11), .ref (qa 12), .ref (qa 13), .ref (qa 14), .ref (qa 15), .ref (qa 16), .ref (qa 17), .ref (qa 18), .ref (qa 19), .ref (qa 20), .int 0, .int 0, .int 0, .int 0, .long 0, .long 0, .long 0, .long 0, .long 0, .ref (qa 21), .int 0, .int 0, .int 0, .int 0]))]) (fun _ => []) D (va_A [(h0, .inr (7, [.int 0, .int 0, .int 0, .int 0, .int 0, .int 0, .int (-1), .int (-1), .int 0, .int 0, .int 0, .int 0, .int 0, .int 0, .int 0, .int 0, .ref (qa 0), .ref (qa 1), .ref (qa 2), .ref (qa 3), .int 0, .ref (qa 4), .ref (qa 5), .ref (qa 6), .ref (qa 7), .ref (qa 8), .ref (qa 9), .ref (qa 10), .ref (qa 11), .ref (qa 12), .ref (qa 13), .ref (qa 14), .ref (qa 15), .ref (qa 16), .ref (qa 17), .ref (qa 18), .ref (qa 19), .ref (qa 20), .int 0, .int 0, .int 0, .int 0, .long 0, .long 0, .long 0, .long 0, .long 0, .ref (qa 21), .int 0, .int 0, .int 0, .int 0]))] sz)) 0 0 (va_A [(h0, .inr (7, [.int 0, .int 0, .int 0, .int 0, .int 0, .int 0, .int (-1), .int (-1), .int 0, .int 0, .int 0, .int 0, .int 0, .int 0, .int 0, .int 0, .ref (qa 0), .ref (qa 1), .ref (qa 2), .ref (qa 3), .int 0, .ref (qa 4), .ref (qa 5), .ref (qa 6), .ref (qa 7), .ref (qa 8), .ref (qa 9), .ref (qa 10), .ref (qa 11), .ref (qa 12), .ref (qa 13), .ref (qa 14), .ref (qa 15), .ref (qa 16), .ref (qa 17), .ref (qa 18), .ref (qa 19), .ref (qa 20), .int 0, .int 0, .int 0, .int 0, .long 0, .long 0, .long 0, .long 0, .long 0, .ref (qa 21), .int 0, .int 0, .int 0, .int 0]))] sz) := by
  refine Met.ofW (cc := b_Mo_count) (maxL := 3) (ret := (some .int)) (by decide) rfl ?_
  intro p e s m args below meth c s₁ B hml hv
  obtain ⟨rfl, hsz, hP, hK, hD0, hN, hZ⟩ := hv
  have hx := B.exec
  have hb := B.bytes
  have hr := B.returns
  have hlocks := B.notSynchronized
  have hts : ∀ w ∈ bw, w.before _ s = true := fun w h => atoms_spec (ws := Cond.code y_Mo_count b_Mo_count 3 (some .int) :: bw) B.pre w (List.mem_cons_of_mem _ h)
  have hown : s.vm.findClass "ObjectForgeModel" = some m.cls := findClass_of_methodNamed B.named
  subst hsz
  have hP0 := hP
  have hD := hD0.self (sz := s.heap.size)
  generalize hAe : va_A [(h0, .inr (7, [.int 0, .int 0, .int 0, .int 0, .int 0, .int 0, .int (-1), .int (-1), .int 0, .int 0, .int 0, .int 0, .int 0, .int 0, .int 0, .int 0, .ref (qa 0), .ref (qa 1), .ref (qa 2), .ref (qa 3), .int 0, .ref (qa 4), .ref (qa 5), .ref (qa 6), .ref (qa 7), .ref (qa 8), .ref (qa 9), .ref (qa 10), .ref (qa 11), .ref (qa 12), .ref (qa 13), .ref (qa 14), .ref (qa 15), .ref (qa 16), .ref (qa 17), .ref (qa 18), .ref (qa 19), .ref (qa 20), .int 0, .int 0, .int 0, .int 0, .long 0, .long 0, .long 0, .long 0, .long 0, .ref (qa 21), .int 0, .int 0, .int 0, .int 0]))] s.heap.size = A at hD hZ ⊢
  have hA : ∀ q : Nat, s.heap.size ≤ q → A q := fun q h => by rw [← hAe]; exact Or.inr h
  have hS : va_S A s.heap s.heap [] := va_S.rf
  have hl := lv_entry ([.ref h0, .int p0, .int p1]) (n := 3) (Nat.le_of_ble_eq_true rfl)
  rw [lg_entry_eq]
  generalize (lg_sl ([.ref h0, .int p0, .int p1]) ++ List.replicate (3 - (lg_sl ([.ref h0, .int p0, .int p1])).length) Slot.unset).toArray = ls at hl ⊢
  have hl : lv_has ls 3 [(0, .ref h0), (1, .int p0), (2, .int p1)] := hl
  refine lv_aload_n hx hb d_Mo_count_0 rfl (lv_at hl 0 rfl) ?_
  refine lv_iconst (v := 0) hx hb d_Mo_count_1 (by decide) ?_
  refine va_put (D := D) (ci := 7) (v := .int 0) (ty := .int) (C := R_Mo) (T := F_Mo) (N := 52) hx hb hts i_Mo t_Mo t_Mo_ok n_Mo hown hK hP hD hS 0 rfl rfl 0 (by decide) (hts _ w_397) (fun _ h9 => h9) rfl (by decide +kernel) rfl rfl (Nat.le_of_ble_eq_true rfl) d_Mo_count_2 (fun H locs hP hD hS => ?_)
  have hP : va_P D cls [(h0, .inr (7, [.int 0, .int 0, .int 0, .int 0, .int 0, .int 0, .int (-1), .int (-1), .int 0, .int 0, .int 0, .int 0, .int 0, .int 0, .int 0, .int 0, .ref (qa 0), .ref (qa 1), .ref (qa 2), .ref (qa 3), .int 0, .ref (qa 4), .ref (qa 5), .ref (qa 6), .ref (qa 7), .ref (qa 8), .ref (qa 9), .ref (qa 10), .ref (qa 11), .ref (qa 12), .ref (qa 13), .ref (qa 14), .ref (qa 15), .ref (qa 16), .ref (qa 17), .ref (qa 18), .ref (qa 19), .ref (qa 20), .int 0, .int 0, .int 0, .int 0, .long 0, .long 0, .long 0, .long 0, .long 0, .ref (qa 21), .int 0, .int 0, .int 0, .int 0]))] H := hP
  have hD : va_D A [(h0, .inr (7, [.int 0, .int 0, .int 0, .int 0, .int 0, .int 0, .int (-1), .int (-1), .int 0, .int 0, .int 0, .int 0, .int 0, .int 0, .int 0, .int 0, .ref (qa 0), .ref (qa 1), .ref (qa 2), .ref (qa 3), .int 0, .ref (qa 4), .ref (qa 5), .ref (qa 6), .ref (qa 7), .ref (qa 8), .ref (qa 9), .ref (qa 10), .ref (qa 11), .ref (qa 12), .ref (qa 13), .ref (qa 14), .ref (qa 15), .ref (qa 16), .ref (qa 17), .ref (qa 18), .ref (qa 19), .ref (qa 20), .int 0, .int 0, .int 0, .int 0, .long 0, .long 0, .long 0, .long 0, .long 0, .ref (qa 21), .int 0, .int 0, .int 0, .int 0]))] := hD
  refine lv_iload_n hx hb d_Mo_count_5 rfl (lv_at hl 1 rfl) ?_
  refine lv_iconst (v := 4) hx hb d_Mo_count_6 (by decide) ?_
  refine xc_S (As := [.int p0, .int 4]) (rest := []) (n := 2) (wc := []) (wr := [(h0, .inr (7, [.int 0, .int 0, .int 0, .int 0, .int 0, .int 0, .int (-1), .int (-1), .int 0, .int 0, .int 0, .int 0, .int 0, .int 0, .int 0, .int 0, .ref (qa 0), .ref (qa 1), .ref (qa 2), .ref (qa 3), .int 0, .ref (qa 4), .ref (qa 5), .ref (qa 6), .ref (qa 7), .ref (qa 8), .ref (qa 9), .ref (qa 10), .ref (qa 11), .ref (qa 12), .ref (qa 13), .ref (qa 14), .ref (qa 15), .ref (qa 16), .ref (qa 17), .ref (qa 18), .ref (qa 19), .ref (qa 20), .int 0, .int 0, .int 0, .int 0, .long 0, .long 0, .long 0, .long 0, .long 0, .ref (qa 21), .int 0, .int 0, .int 0, .int 0]))]) (tc := []) (tr := []) ⟨hx, hb, hml, hown, hts⟩ (c_Mo_within_n l D p0 4 hk H.size) rfl rfl w_510 w_508 w_509 w_8 (by decide +kernel) ⟨Nat.le_of_ble_eq_true rfl, Nat.le_of_ble_eq_true rfl⟩ hP hD hK hS hA hN hZ [] [0] rfl rfl (by decide) (by decide) (by decide) [] [] rfl rfl rfl hl.1 rfl (Nat.le_of_ble_eq_true rfl) d_Mo_count_7 ⟨Nat.le_of_ble_eq_true rfl, Nat.le_of_ble_eq_true rfl⟩ (fun u1 H locs hP hD hK hS => ?_)
  have hP : va_P D cls [(h0, .inr (7, [.int 0, .int 0, .int 0, .int 0, .int 0, .int 0, .int (-1), .int (-1), .int 0, .int 0, .int 0, .int 0, .int 0, .int 0, .int 0, .int 0, .ref (qa 0), .ref (qa 1), .ref (qa 2), .ref (qa 3), .int 0, .ref (qa 4), .ref (qa 5), .ref (qa 6), .ref (qa 7), .ref (qa 8), .ref (qa 9), .ref (qa 10), .ref (qa 11), .ref (qa 12), .ref (qa 13), .ref (qa 14), .ref (qa 15), .ref (qa 16), .ref (qa 17), .ref (qa 18), .ref (qa 19), .ref (qa 20), .int 0, .int 0, .int 0, .int 0, .long 0, .long 0, .long 0, .long 0, .long 0, .ref (qa 21), .int 0, .int 0, .int 0, .int 0]))] H := hP
  have hD : va_D A [(h0, .inr (7, [.int 0, .int 0, .int 0, .int 0, .int 0, .int 0, .int (-1), .int (-1), .int 0, .int 0, .int 0, .int 0, .int 0, .int 0, .int 0, .int 0, .ref (qa 0), .ref (qa 1), .ref (qa 2), .ref (qa 3), .int 0, .ref (qa 4), .ref (qa 5), .ref (qa 6), .ref (qa 7), .ref (qa 8), .ref (qa 9), .ref (qa 10), .ref (qa 11), .ref (qa 12), .ref (qa 13), .ref (qa 14), .ref (qa 15), .ref (qa 16), .ref (qa 17), .ref (qa 18), .ref (qa 19), .ref (qa 20), .int 0, .int 0, .int 0, .int 0, .long 0, .long 0, .long 0, .long 0, .long 0, .ref (qa 21), .int 0, .int 0, .int 0, .int 0]))] := hD
  have hK : va_K D cls [] s := hK
  refine W.eq (g2 := F0 m 10 ls [.int 0]) rfl ?_
  refine lv_if_eq (tgt := 29) hx hb d_Mo_count_10 (by decide) (fun _ => ?_) (fun q9 => absurd (by decide : ((0 : Int32) = 0)) q9)
  refine lv_aload_n hx hb d_Mo_count_29 rfl (lv_at hl 0 rfl) ?_
  refine lv_iconst (v := 1) hx hb d_Mo_count_30 (by decide) ?_
  refine xc_V (As := [.int 1]) (rest := []) (n := 1) (wc := [(h0, .inr (7, [.int 0, .int 0, .int 0, .int 0, .int 0, .int 0, .int (-1), .int (-1), .int 0, .int 0, .int 0, .int 0, .int 0, .int 0, .int 0, .int 0, .ref (qa 0), .ref (qa 1), .ref (qa 2), .ref (qa 3), .int 0, .ref (qa 4), .ref (qa 5), .ref (qa 6), .ref (qa 7), .ref (qa 8), .ref (qa 9), .ref (qa 10), .ref (qa 11), .ref (qa 12), .ref (qa 13), .ref (qa 14), .ref (qa 15), .ref (qa 16), .ref (qa 17), .ref (qa 18), .ref (qa 19), .ref (qa 20), .int 0, .int 0, .int 0, .int 0, .long 0, .long 0, .long 0, .long 0, .long 0, .ref (qa 21), .int 0, .int 0, .int 0, .int 0]))]) (wr := []) (tc := []) (tr := []) ⟨hx, hb, hml, hown, hts⟩ (c_Mo_refuse_1 l D h0 qa H.size) rfl rfl w_452 w_450 w_451 w_557 w_8 (by decide +kernel) ⟨Nat.le_of_ble_eq_true rfl, Nat.le_of_ble_eq_true rfl⟩ hP hD hK hS hA hN hZ [0] [] rfl rfl (by decide) (by decide) (by decide) [] [] rfl rfl (ci := 7) (q0 := 0) (q := (R_Mo, F_Mo, 52)) rfl rfl rfl rfl hl.1 rfl (Nat.le_of_ble_eq_true rfl) d_Mo_count_31 ⟨Nat.le_of_ble_eq_true rfl, Nat.le_of_ble_eq_true rfl⟩ (fun u2 H locs hP hD hK hS => ?_)
  have hP : va_P D cls [(h0, .inr (7, [.int 1, .int 0, .int 0, .int 0, .int 0, .int 0, .int (-1), .int (-1), .int 0, .int 0, .int 0, .int 0, .int 0, .int 0, .int 0, .int 0, .ref (qa 0), .ref (qa 1), .ref (qa 2), .ref (qa 3), .int 0, .ref (qa 4), .ref (qa 5), .ref (qa 6), .ref (qa 7), .ref (qa 8), .ref (qa 9), .ref (qa 10), .ref (qa 11), .ref (qa 12), .ref (qa 13), .ref (qa 14), .ref (qa 15), .ref (qa 16), .ref (qa 17), .ref (qa 18), .ref (qa 19), .ref (qa 20), .int 0, .int 0, .int 0, .int 0, .long 0, .long 0, .long 0, .long 0, .long 0, .ref (qa 21), .int 0, .int 0, .int 0, .int 0]))] H := hP
  have hD : va_D A [(h0, .inr (7, [.int 1, .int 0, .int 0, .int 0, .int 0, .int 0, .int (-1), .int (-1), .int 0, .int 0, .int 0, .int 0, .int 0, .int 0, .int 0, .int 0, .ref (qa 0), .ref (qa 1), .ref (qa 2), .ref (qa 3), .int 0, .ref (qa 4), .ref (qa 5), .ref (qa 6), .ref (qa 7), .ref (qa 8), .ref (qa 9), .ref (qa 10), .ref (qa 11), .ref (qa 12), .ref (qa 13), .ref (qa 14), .ref (qa 15), .ref (qa 16), .ref (qa 17), .ref (qa 18), .ref (qa 19), .ref (qa 20), .int 0, .int 0, .int 0, .int 0, .long 0, .long 0, .long 0, .long 0, .long 0, .ref (qa 21), .int 0, .int 0, .int 0, .int 0]))] := hD
  have hK : va_K D cls [] s := hK
  refine W.eq (g2 := F0 m 34 ls [.int 0]) rfl ?_
  exact xr_i hx hb hr hlocks hP hD hK hS (()) [0] rfl rfl (by decide) [] rfl rfl d_Mo_count_34

set_option maxHeartbeats 4000000 in
set_option maxRecDepth 100000 in
theorem c_Mo_count_g (l : Launch) (D : va_G) (h0 : Nat) (qa : Nat → Nat) (p0 p1 : Int32) (hk : ¬ p0 < 0) (hg : 4 ≤ p0) (sz : Nat) : Met l y_Mo_count (Cond.code y_Mo_count b_Mo_count 3 (some .int) :: bw) (xR 2 0 0) (va_Pc [.ref h0, .int p0, .int p1] (xP D [] sz [(h0, .inr (7, [.int 0, .int 0, .int 0, .int 0, .int 0, .int 0, .int (-1), .int (-1), .int 0, .int 0, .int 0, .int 0, .int 0, .int 0, .int 0, .int 0, .ref (qa 0), .ref (qa 1), .ref (qa 2), .ref (qa 3), .int 0, .ref (qa 4), .ref (qa 5), .ref (qa 6), .ref (qa 7), .ref (qa 8), .ref (qa 9), .ref (qa 10), .ref (qa 11), .ref (qa 12), .ref (qa 13), .ref (qa 14), .ref (qa 15), .ref (qa 16), .ref (qa 17), .ref (qa 18), .ref (qa 19), .ref (qa 20), .int 0, .int 0, .int 0, .int 0, .long 0, .long 0, .long 0, .long 0, .long 0, .ref (qa 21), .int 0, .int 0, .int 0, .int 0]))])) (xQ (S := Unit) (fun _ => some (.int 0)) (fun _ => [(h0, .inr (7, [.int 1, .int 0, .int 0, .int 0, .int 0, .int 0, .int (-1), .int (-1), .int 0, .int 0, .int 0, .int 0, .int 0, .int 0, .int 0, .int 0, .ref (qa 0), .ref (qa 1), .ref (qa 2), .ref (qa 3), .int 0, .ref (qa 4), .ref (qa 5), .ref (qa 6), .ref (qa 7), .ref (qa 8), .ref (qa 9), .ref (qa 10), .ref (qa 11), .ref (qa 12), .ref (qa 13), .ref (qa 14), .ref (qa 15), .ref (qa 16), .ref (qa 17), .ref (qa 18), .ref (qa 19), .ref (qa 20), .int 0, .int 0, .int 0, .int 0, .long 0, .long 0, .long 0, .long 0, .long 0, .ref (qa 21), .int 0, .int 0, .int 0, .int 0]))]) (fun _ => []) D (va_A [(h0, .inr (7, [.int 0, .int 0, .int 0, .int 0, .int 0, .int 0, .int (-1), .int (-1), .int 0, .int 0, .int 0, .int 0, .int 0, .int 0, .int 0, .int 0, .ref (qa 0), .ref (qa 1), .ref (qa 2), .ref (qa 3), .int 0, .ref (qa 4), .ref (qa 5), .ref (qa 6), .ref (qa 7), .ref (qa 8), .ref (qa 9), .ref (qa 10), .ref (qa 11), .ref (qa 12), .ref (qa 13), .ref (qa 14), .ref (qa 15), .ref (qa 16), .ref (qa 17), .ref (qa 18), .ref (qa 19), .ref (qa 20), .int 0, .int 0, .int 0, .int 0, .long 0, .long 0, .long 0, .long 0, .long 0, .ref (qa 21), .int 0, .int 0, .int 0, .int 0]))] sz)) 0 0 (va_A [(h0, .inr (7, [.int 0, .int 0, .int 0, .int 0, .int 0, .int 0, .int (-1), .int (-1), .int 0, .int 0, .int 0, .int 0, .int 0, .int 0, .int 0, .int 0, .ref (qa 0), .ref (qa 1), .ref (qa 2), .ref (qa 3), .int 0, .ref (qa 4), .ref (qa 5), .ref (qa 6), .ref (qa 7), .ref (qa 8), .ref (qa 9), .ref (qa 10), .ref (qa 11), .ref (qa 12), .ref (qa 13), .ref (qa 14), .ref (qa 15), .ref (qa 16), .ref (qa 17), .ref (qa 18), .ref (qa 19), .ref (qa 20), .int 0, .int 0, .int 0, .int 0, .long 0, .long 0, .long 0, .long 0, .long 0, .ref (qa 21), .int 0, .int 0, .int 0, .int 0]))] sz) := by
  refine Met.ofW (cc := b_Mo_count) (maxL := 3) (ret := (some .int)) (by decide) rfl ?_
  intro p e s m args below meth c s₁ B hml hv
  obtain ⟨rfl, hsz, hP, hK, hD0, hN, hZ⟩ := hv
  have hx := B.exec
  have hb := B.bytes
  have hr := B.returns
  have hlocks := B.notSynchronized
  have hts : ∀ w ∈ bw, w.before _ s = true := fun w h => atoms_spec (ws := Cond.code y_Mo_count b_Mo_count 3 (some .int) :: bw) B.pre w (List.mem_cons_of_mem _ h)
  have hown : s.vm.findClass "ObjectForgeModel" = some m.cls := findClass_of_methodNamed B.named
  subst hsz
  have hP0 := hP
  have hD := hD0.self (sz := s.heap.size)
  generalize hAe : va_A [(h0, .inr (7, [.int 0, .int 0, .int 0, .int 0, .int 0, .int 0, .int (-1), .int (-1), .int 0, .int 0, .int 0, .int 0, .int 0, .int 0, .int 0, .int 0, .ref (qa 0), .ref (qa 1), .ref (qa 2), .ref (qa 3), .int 0, .ref (qa 4), .ref (qa 5), .ref (qa 6), .ref (qa 7), .ref (qa 8), .ref (qa 9), .ref (qa 10), .ref (qa 11), .ref (qa 12), .ref (qa 13), .ref (qa 14), .ref (qa 15), .ref (qa 16), .ref (qa 17), .ref (qa 18), .ref (qa 19), .ref (qa 20), .int 0, .int 0, .int 0, .int 0, .long 0, .long 0, .long 0, .long 0, .long 0, .ref (qa 21), .int 0, .int 0, .int 0, .int 0]))] s.heap.size = A at hD hZ ⊢
  have hA : ∀ q : Nat, s.heap.size ≤ q → A q := fun q h => by rw [← hAe]; exact Or.inr h
  have hS : va_S A s.heap s.heap [] := va_S.rf
  have hl := lv_entry ([.ref h0, .int p0, .int p1]) (n := 3) (Nat.le_of_ble_eq_true rfl)
  rw [lg_entry_eq]
  generalize (lg_sl ([.ref h0, .int p0, .int p1]) ++ List.replicate (3 - (lg_sl ([.ref h0, .int p0, .int p1])).length) Slot.unset).toArray = ls at hl ⊢
  have hl : lv_has ls 3 [(0, .ref h0), (1, .int p0), (2, .int p1)] := hl
  refine lv_aload_n hx hb d_Mo_count_0 rfl (lv_at hl 0 rfl) ?_
  refine lv_iconst (v := 0) hx hb d_Mo_count_1 (by decide) ?_
  refine va_put (D := D) (ci := 7) (v := .int 0) (ty := .int) (C := R_Mo) (T := F_Mo) (N := 52) hx hb hts i_Mo t_Mo t_Mo_ok n_Mo hown hK hP hD hS 0 rfl rfl 0 (by decide) (hts _ w_397) (fun _ h9 => h9) rfl (by decide +kernel) rfl rfl (Nat.le_of_ble_eq_true rfl) d_Mo_count_2 (fun H locs hP hD hS => ?_)
  have hP : va_P D cls [(h0, .inr (7, [.int 0, .int 0, .int 0, .int 0, .int 0, .int 0, .int (-1), .int (-1), .int 0, .int 0, .int 0, .int 0, .int 0, .int 0, .int 0, .int 0, .ref (qa 0), .ref (qa 1), .ref (qa 2), .ref (qa 3), .int 0, .ref (qa 4), .ref (qa 5), .ref (qa 6), .ref (qa 7), .ref (qa 8), .ref (qa 9), .ref (qa 10), .ref (qa 11), .ref (qa 12), .ref (qa 13), .ref (qa 14), .ref (qa 15), .ref (qa 16), .ref (qa 17), .ref (qa 18), .ref (qa 19), .ref (qa 20), .int 0, .int 0, .int 0, .int 0, .long 0, .long 0, .long 0, .long 0, .long 0, .ref (qa 21), .int 0, .int 0, .int 0, .int 0]))] H := hP
  have hD : va_D A [(h0, .inr (7, [.int 0, .int 0, .int 0, .int 0, .int 0, .int 0, .int (-1), .int (-1), .int 0, .int 0, .int 0, .int 0, .int 0, .int 0, .int 0, .int 0, .ref (qa 0), .ref (qa 1), .ref (qa 2), .ref (qa 3), .int 0, .ref (qa 4), .ref (qa 5), .ref (qa 6), .ref (qa 7), .ref (qa 8), .ref (qa 9), .ref (qa 10), .ref (qa 11), .ref (qa 12), .ref (qa 13), .ref (qa 14), .ref (qa 15), .ref (qa 16), .ref (qa 17), .ref (qa 18), .ref (qa 19), .ref (qa 20), .int 0, .int 0, .int 0, .int 0, .long 0, .long 0, .long 0, .long 0, .long 0, .ref (qa 21), .int 0, .int 0, .int 0, .int 0]))] := hD
  refine lv_iload_n hx hb d_Mo_count_5 rfl (lv_at hl 1 rfl) ?_
  refine lv_iconst (v := 4) hx hb d_Mo_count_6 (by decide) ?_
  refine xc_S (As := [.int p0, .int 4]) (rest := []) (n := 2) (wc := []) (wr := [(h0, .inr (7, [.int 0, .int 0, .int 0, .int 0, .int 0, .int 0, .int (-1), .int (-1), .int 0, .int 0, .int 0, .int 0, .int 0, .int 0, .int 0, .int 0, .ref (qa 0), .ref (qa 1), .ref (qa 2), .ref (qa 3), .int 0, .ref (qa 4), .ref (qa 5), .ref (qa 6), .ref (qa 7), .ref (qa 8), .ref (qa 9), .ref (qa 10), .ref (qa 11), .ref (qa 12), .ref (qa 13), .ref (qa 14), .ref (qa 15), .ref (qa 16), .ref (qa 17), .ref (qa 18), .ref (qa 19), .ref (qa 20), .int 0, .int 0, .int 0, .int 0, .long 0, .long 0, .long 0, .long 0, .long 0, .ref (qa 21), .int 0, .int 0, .int 0, .int 0]))]) (tc := []) (tr := []) ⟨hx, hb, hml, hown, hts⟩ (c_Mo_within_g l D p0 4 hk hg H.size) rfl rfl w_510 w_508 w_509 w_8 (by decide +kernel) ⟨Nat.le_of_ble_eq_true rfl, Nat.le_of_ble_eq_true rfl⟩ hP hD hK hS hA hN hZ [] [0] rfl rfl (by decide) (by decide) (by decide) [] [] rfl rfl rfl hl.1 rfl (Nat.le_of_ble_eq_true rfl) d_Mo_count_7 ⟨Nat.le_of_ble_eq_true rfl, Nat.le_of_ble_eq_true rfl⟩ (fun u1 H locs hP hD hK hS => ?_)
  have hP : va_P D cls [(h0, .inr (7, [.int 0, .int 0, .int 0, .int 0, .int 0, .int 0, .int (-1), .int (-1), .int 0, .int 0, .int 0, .int 0, .int 0, .int 0, .int 0, .int 0, .ref (qa 0), .ref (qa 1), .ref (qa 2), .ref (qa 3), .int 0, .ref (qa 4), .ref (qa 5), .ref (qa 6), .ref (qa 7), .ref (qa 8), .ref (qa 9), .ref (qa 10), .ref (qa 11), .ref (qa 12), .ref (qa 13), .ref (qa 14), .ref (qa 15), .ref (qa 16), .ref (qa 17), .ref (qa 18), .ref (qa 19), .ref (qa 20), .int 0, .int 0, .int 0, .int 0, .long 0, .long 0, .long 0, .long 0, .long 0, .ref (qa 21), .int 0, .int 0, .int 0, .int 0]))] H := hP
  have hD : va_D A [(h0, .inr (7, [.int 0, .int 0, .int 0, .int 0, .int 0, .int 0, .int (-1), .int (-1), .int 0, .int 0, .int 0, .int 0, .int 0, .int 0, .int 0, .int 0, .ref (qa 0), .ref (qa 1), .ref (qa 2), .ref (qa 3), .int 0, .ref (qa 4), .ref (qa 5), .ref (qa 6), .ref (qa 7), .ref (qa 8), .ref (qa 9), .ref (qa 10), .ref (qa 11), .ref (qa 12), .ref (qa 13), .ref (qa 14), .ref (qa 15), .ref (qa 16), .ref (qa 17), .ref (qa 18), .ref (qa 19), .ref (qa 20), .int 0, .int 0, .int 0, .int 0, .long 0, .long 0, .long 0, .long 0, .long 0, .ref (qa 21), .int 0, .int 0, .int 0, .int 0]))] := hD
  have hK : va_K D cls [] s := hK
  refine W.eq (g2 := F0 m 10 ls [.int 0]) rfl ?_
  refine lv_if_eq (tgt := 29) hx hb d_Mo_count_10 (by decide) (fun _ => ?_) (fun q9 => absurd (by decide : ((0 : Int32) = 0)) q9)
  refine lv_aload_n hx hb d_Mo_count_29 rfl (lv_at hl 0 rfl) ?_
  refine lv_iconst (v := 1) hx hb d_Mo_count_30 (by decide) ?_
  refine xc_V (As := [.int 1]) (rest := []) (n := 1) (wc := [(h0, .inr (7, [.int 0, .int 0, .int 0, .int 0, .int 0, .int 0, .int (-1), .int (-1), .int 0, .int 0, .int 0, .int 0, .int 0, .int 0, .int 0, .int 0, .ref (qa 0), .ref (qa 1), .ref (qa 2), .ref (qa 3), .int 0, .ref (qa 4), .ref (qa 5), .ref (qa 6), .ref (qa 7), .ref (qa 8), .ref (qa 9), .ref (qa 10), .ref (qa 11), .ref (qa 12), .ref (qa 13), .ref (qa 14), .ref (qa 15), .ref (qa 16), .ref (qa 17), .ref (qa 18), .ref (qa 19), .ref (qa 20), .int 0, .int 0, .int 0, .int 0, .long 0, .long 0, .long 0, .long 0, .long 0, .ref (qa 21), .int 0, .int 0, .int 0, .int 0]))]) (wr := []) (tc := []) (tr := []) ⟨hx, hb, hml, hown, hts⟩ (c_Mo_refuse_1 l D h0 qa H.size) rfl rfl w_452 w_450 w_451 w_557 w_8 (by decide +kernel) ⟨Nat.le_of_ble_eq_true rfl, Nat.le_of_ble_eq_true rfl⟩ hP hD hK hS hA hN hZ [0] [] rfl rfl (by decide) (by decide) (by decide) [] [] rfl rfl (ci := 7) (q0 := 0) (q := (R_Mo, F_Mo, 52)) rfl rfl rfl rfl hl.1 rfl (Nat.le_of_ble_eq_true rfl) d_Mo_count_31 ⟨Nat.le_of_ble_eq_true rfl, Nat.le_of_ble_eq_true rfl⟩ (fun u2 H locs hP hD hK hS => ?_)
  have hP : va_P D cls [(h0, .inr (7, [.int 1, .int 0, .int 0, .int 0, .int 0, .int 0, .int (-1), .int (-1), .int 0, .int 0, .int 0, .int 0, .int 0, .int 0, .int 0, .int 0, .ref (qa 0), .ref (qa 1), .ref (qa 2), .ref (qa 3), .int 0, .ref (qa 4), .ref (qa 5), .ref (qa 6), .ref (qa 7), .ref (qa 8), .ref (qa 9), .ref (qa 10), .ref (qa 11), .ref (qa 12), .ref (qa 13), .ref (qa 14), .ref (qa 15), .ref (qa 16), .ref (qa 17), .ref (qa 18), .ref (qa 19), .ref (qa 20), .int 0, .int 0, .int 0, .int 0, .long 0, .long 0, .long 0, .long 0, .long 0, .ref (qa 21), .int 0, .int 0, .int 0, .int 0]))] H := hP
  have hD : va_D A [(h0, .inr (7, [.int 1, .int 0, .int 0, .int 0, .int 0, .int 0, .int (-1), .int (-1), .int 0, .int 0, .int 0, .int 0, .int 0, .int 0, .int 0, .int 0, .ref (qa 0), .ref (qa 1), .ref (qa 2), .ref (qa 3), .int 0, .ref (qa 4), .ref (qa 5), .ref (qa 6), .ref (qa 7), .ref (qa 8), .ref (qa 9), .ref (qa 10), .ref (qa 11), .ref (qa 12), .ref (qa 13), .ref (qa 14), .ref (qa 15), .ref (qa 16), .ref (qa 17), .ref (qa 18), .ref (qa 19), .ref (qa 20), .int 0, .int 0, .int 0, .int 0, .long 0, .long 0, .long 0, .long 0, .long 0, .ref (qa 21), .int 0, .int 0, .int 0, .int 0]))] := hD
  have hK : va_K D cls [] s := hK
  refine W.eq (g2 := F0 m 34 ls [.int 0]) rfl ?_
  exact xr_i hx hb hr hlocks hP hD hK hS (()) [0] rfl rfl (by decide) [] rfl rfl d_Mo_count_34
