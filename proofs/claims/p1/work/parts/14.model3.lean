theorem d_Mo_four_0 : decode b_Mo_four 0 = .ok (.bipush 24, 2) := by decide +kernel
theorem d_Mo_four_2 : decode b_Mo_four 2 = .ok (.istore_n 2, 1) := by decide +kernel
theorem d_Mo_four_3 : decode b_Mo_four 3 = .ok (.iload_n 2, 1) := by decide +kernel
theorem d_Mo_four_4 : decode b_Mo_four 4 = .ok (.ifCond .lt 32, 3) := by decide +kernel
theorem d_Mo_four_7 : decode b_Mo_four 7 = .ok (.aload_n 0, 1) := by decide +kernel
theorem d_Mo_four_8 : decode b_Mo_four 8 = .ok (.getfield 7, 3) := by decide +kernel
theorem d_Mo_four_11 : decode b_Mo_four 11 = .ok (.aload_n 0, 1) := by decide +kernel
theorem d_Mo_four_12 : decode b_Mo_four 12 = .ok (.getfield 91, 3) := by decide +kernel
theorem d_Mo_four_15 : decode b_Mo_four 15 = .ok (.iload_n 1, 1) := by decide +kernel
theorem d_Mo_four_16 : decode b_Mo_four 16 = .ok (.iload_n 2, 1) := by decide +kernel
theorem d_Mo_four_17 : decode b_Mo_four 17 = .ok (.ishr, 1) := by decide +kernel
theorem d_Mo_four_18 : decode b_Mo_four 18 = .ok (.i2b, 1) := by decide +kernel
theorem d_Mo_four_19 : decode b_Mo_four 19 = .ok (.bastore, 1) := by decide +kernel
theorem d_Mo_four_20 : decode b_Mo_four 20 = .ok (.aload_n 0, 1) := by decide +kernel
theorem d_Mo_four_21 : decode b_Mo_four 21 = .ok (.dup, 1) := by decide +kernel
theorem d_Mo_four_22 : decode b_Mo_four 22 = .ok (.getfield 91, 3) := by decide +kernel
theorem d_Mo_four_25 : decode b_Mo_four 25 = .ok (.iconst 1, 1) := by decide +kernel
theorem d_Mo_four_26 : decode b_Mo_four 26 = .ok (.iadd, 1) := by decide +kernel
theorem d_Mo_four_27 : decode b_Mo_four 27 = .ok (.putfield 91, 3) := by decide +kernel
theorem d_Mo_four_30 : decode b_Mo_four 30 = .ok (.iinc 2 (-8), 3) := by decide +kernel
theorem d_Mo_four_33 : decode b_Mo_four 33 = .ok (.goto (-30), 3) := by decide +kernel
theorem d_Mo_four_36 : decode b_Mo_four 36 = .ok (.return_, 1) := by decide +kernel
set_option maxHeartbeats 4000000 in
set_option maxRecDepth 100000 in
theorem c_Mo_four_0 (l : Launch) (D : va_G) (h0 : Nat) (qa : Nat → Nat) (qk : Nat → ClassId) (f : Nat → Int32) (v : Int32) (sz : Nat) : Met l y_Mo_four (Cond.code y_Mo_four b_Mo_four 3 none :: bw) (xR 1 0 0) (va_Pc [.ref h0, .int v] (xP D [((qk 0), .byte)] sz [(h0, .inr (7, [.int 0, .int 0, .int 0, .int 0, .int 0, .int 0, .int (-1), .int (-1), .int 0, .int 0, .int 0, .int 0, .int 0, .int 0, .int 0, .int 0, .ref (qa 0), .ref (qa 1), .ref (qa 2), .ref (qa 3), .int 0, .ref (qa 4), .ref (qa 5), .ref (qa 6), .ref (qa 7), .ref (qa 8), .ref (qa 9), .ref (qa 10), .ref (qa 11), .ref (qa 12), .ref (qa 13), .ref (qa 14), .ref (qa 15), .ref (qa 16), .ref (qa 17), .ref (qa 18), .ref (qa 19), .ref (qa 20), .int 0, .int 0, .int 0, .int 0, .long 0, .long 0, .long 0, .long 0, .long 0, .ref (qa 21), .int 0, .int 0, .int 0, .int 0])), ((qa 0), .inl ((qk 0), 8192, .inl f))])) (xQ (S := (Nat → Int32)) (fun u => none) (fun u => [(h0, .inr (7, [.int 0, .int 4, .int 0, .int 0, .int 0, .int 0, .int (-1), .int (-1), .int 0, .int 0, .int 0, .int 0, .int 0, .int 0, .int 0, .int 0, .ref (qa 0), .ref (qa 1), .ref (qa 2), .ref (qa 3), .int 0, .ref (qa 4), .ref (qa 5), .ref (qa 6), .ref (qa 7), .ref (qa 8), .ref (qa 9), .ref (qa 10), .ref (qa 11), .ref (qa 12), .ref (qa 13), .ref (qa 14), .ref (qa 15), .ref (qa 16), .ref (qa 17), .ref (qa 18), .ref (qa 19), .ref (qa 20), .int 0, .int 0, .int 0, .int 0, .long 0, .long 0, .long 0, .long 0, .long 0, .ref (qa 21), .int 0, .int 0, .int 0, .int 0])), ((qa 0), .inl ((qk 0), 8192, .inl u))]) (fun u => [((qk 0), .byte)]) D (va_A [(h0, .inr (7, [.int 0, .int 0, .int 0, .int 0, .int 0, .int 0, .int (-1), .int (-1), .int 0, .int 0, .int 0, .int 0, .int 0, .int 0, .int 0, .int 0, .ref (qa 0), .ref (qa 1), .ref (qa 2), .ref (qa 3), .int 0, .ref (qa 4), .ref (qa 5), .ref (qa 6), .ref (qa 7), .ref (qa 8), .ref (qa 9), .ref (qa 10), .ref (qa 11), .ref (qa 12), .ref (qa 13), .ref (qa 14), .ref (qa 15), .ref (qa 16), .ref (qa 17), .ref (qa 18), .ref (qa 19), .ref (qa 20), .int 0, .int 0, .int 0, .int 0, .long 0, .long 0, .long 0, .long 0, .long 0, .ref (qa 21), .int 0, .int 0, .int 0, .int 0])), ((qa 0), .inl ((qk 0), 8192, .inl f))] sz)) 0 0 (va_A [(h0, .inr (7, [.int 0, .int 0, .int 0, .int 0, .int 0, .int 0, .int (-1), .int (-1), .int 0, .int 0, .int 0, .int 0, .int 0, .int 0, .int 0, .int 0, .ref (qa 0), .ref (qa 1), .ref (qa 2), .ref (qa 3), .int 0, .ref (qa 4), .ref (qa 5), .ref (qa 6), .ref (qa 7), .ref (qa 8), .ref (qa 9), .ref (qa 10), .ref (qa 11), .ref (qa 12), .ref (qa 13), .ref (qa 14), .ref (qa 15), .ref (qa 16), .ref (qa 17), .ref (qa 18), .ref (qa 19), .ref (qa 20), .int 0, .int 0, .int 0, .int 0, .long 0, .long 0, .long 0, .long 0, .long 0, .ref (qa 21), .int 0, .int 0, .int 0, .int 0])), ((qa 0), .inl ((qk 0), 8192, .inl f))] sz) := by
  refine Met.ofW (cc := b_Mo_four) (maxL := 3) (ret := none) (by decide) rfl ?_
  intro p e s m args below meth c s₁ B hml hv
  obtain ⟨rfl, hsz, hP, hK, hD0, hN, hZ⟩ := hv
  have hx := B.exec
  have hb := B.bytes
  have hr := B.returns
  have hlocks := B.notSynchronized
  have hts : ∀ w ∈ bw, w.before _ s = true := fun w h => atoms_spec (ws := Cond.code y_Mo_four b_Mo_four 3 none :: bw) B.pre w (List.mem_cons_of_mem _ h)
  have hown : s.vm.findClass "ObjectForgeModel" = some m.cls := findClass_of_methodNamed B.named
  subst hsz
  have hP0 := hP
  have hD := hD0.self (sz := s.heap.size)
  generalize hAe : va_A [(h0, .inr (7, [.int 0, .int 0, .int 0, .int 0, .int 0, .int 0, .int (-1), .int (-1), .int 0, .int 0, .int 0, .int 0, .int 0, .int 0, .int 0, .int 0, .ref (qa 0), .ref (qa 1), .ref (qa 2), .ref (qa 3), .int 0, .ref (qa 4), .ref (qa 5), .ref (qa 6), .ref (qa 7), .ref (qa 8), .ref (qa 9), .ref (qa 10), .ref (qa 11), .ref (qa 12), .ref (qa 13), .ref (qa 14), .ref (qa 15), .ref (qa 16), .ref (qa 17), .ref (qa 18), .ref (qa 19), .ref (qa 20), .int 0, .int 0, .int 0, .int 0, .long 0, .long 0, .long 0, .long 0, .long 0, .ref (qa 21), .int 0, .int 0, .int 0, .int 0])), ((qa 0), .inl ((qk 0), 8192, .inl f))] s.heap.size = A at hD hZ ⊢
  have hA : ∀ q : Nat, s.heap.size ≤ q → A q := fun q h => by rw [← hAe]; exact Or.inr h
  have hS : va_S A s.heap s.heap [] := va_S.rf
  have hl := lv_entry ([.ref h0, .int v]) (n := 3) (Nat.le_of_ble_eq_true rfl)
  rw [lg_entry_eq]
  generalize (lg_sl ([.ref h0, .int v]) ++ List.replicate (3 - (lg_sl ([.ref h0, .int v])).length) Slot.unset).toArray = ls at hl ⊢
  have hl : lv_has ls 3 [(0, .ref h0), (1, .int v)] := hl
  refine lv_bipush (v := 24) hx hb d_Mo_four_0 (by decide) ?_
  refine lv_istore_n (lv' := [(2, .int 24), (0, .ref h0), (1, .int v)]) hx hb d_Mo_four_2 rfl hl (by decide) rfl (fun ls hl => ?_)
  refine lv_iload_n hx hb d_Mo_four_3 rfl (lv_at hl 0 rfl) ?_
  refine lv_if_lt (tgt := 36) hx hb d_Mo_four_4 (by decide) (fun q9 => absurd q9 (by decide : ¬ ((24 : Int32) < 0))) (fun _ => ?_)
  refine lv_aload_n hx hb d_Mo_four_7 rfl (lv_at hl 1 rfl) ?_
  refine va_get (D := D) (ci := 7) (v := .ref (qa 0)) (C := R_Mo) (T := F_Mo) (N := 52) hx hb hts i_Mo hown hK hP 0 rfl rfl 16 (by decide) (hts _ w_399) (fun _ h9 => h9) rfl d_Mo_four_8 ?_
  refine lv_aload_n hx hb d_Mo_four_11 rfl (lv_at hl 1 rfl) ?_
  refine va_get (D := D) (ci := 7) (v := .int 0) (C := R_Mo) (T := F_Mo) (N := 52) hx hb hts i_Mo hown hK hP 0 rfl rfl 1 (by decide) (hts _ w_398) (fun _ h9 => h9) rfl d_Mo_four_12 ?_
  refine lv_iload_n hx hb d_Mo_four_15 rfl (lv_at hl 2 rfl) ?_
  refine lv_iload_n hx hb d_Mo_four_16 rfl (lv_at hl 0 rfl) ?_
  refine lv_ishr hx hb d_Mo_four_17 ?_
  refine lv_topi (fun z1 _ => ?_)
  refine lv_i2b hx hb d_Mo_four_18 rfl ?_
  refine lv_topi (fun z2 _ => ?_)
  refine va_bast hx hb hK hP hD hS 1 0 rfl rfl (by unfold vp_in; decide) d_Mo_four_19 (fun H locs hP hD hS => ?_)
  obtain ⟨f3, ef3⟩ : ∃ z : Nat → Int32, z = (upd f (0 : Int32).toNatClampNeg (vp_nar .byte z2)) := ⟨_, rfl⟩
  have hP : va_P D cls [(h0, .inr (7, [.int 0, .int 0, .int 0, .int 0, .int 0, .int 0, .int (-1), .int (-1), .int 0, .int 0, .int 0, .int 0, .int 0, .int 0, .int 0, .int 0, .ref (qa 0), .ref (qa 1), .ref (qa 2), .ref (qa 3), .int 0, .ref (qa 4), .ref (qa 5), .ref (qa 6), .ref (qa 7), .ref (qa 8), .ref (qa 9), .ref (qa 10), .ref (qa 11), .ref (qa 12), .ref (qa 13), .ref (qa 14), .ref (qa 15), .ref (qa 16), .ref (qa 17), .ref (qa 18), .ref (qa 19), .ref (qa 20), .int 0, .int 0, .int 0, .int 0, .long 0, .long 0, .long 0, .long 0, .long 0, .ref (qa 21), .int 0, .int 0, .int 0, .int 0])), ((qa 0), .inl ((qk 0), 8192, .inl f3))] H := by rw [ef3]; exact hP
  have hD : va_D A [(h0, .inr (7, [.int 0, .int 0, .int 0, .int 0, .int 0, .int 0, .int (-1), .int (-1), .int 0, .int 0, .int 0, .int 0, .int 0, .int 0, .int 0, .int 0, .ref (qa 0), .ref (qa 1), .ref (qa 2), .ref (qa 3), .int 0, .ref (qa 4), .ref (qa 5), .ref (qa 6), .ref (qa 7), .ref (qa 8), .ref (qa 9), .ref (qa 10), .ref (qa 11), .ref (qa 12), .ref (qa 13), .ref (qa 14), .ref (qa 15), .ref (qa 16), .ref (qa 17), .ref (qa 18), .ref (qa 19), .ref (qa 20), .int 0, .int 0, .int 0, .int 0, .long 0, .long 0, .long 0, .long 0, .long 0, .ref (qa 21), .int 0, .int 0, .int 0, .int 0])), ((qa 0), .inl ((qk 0), 8192, .inl f3))] := by rw [ef3]; exact hD
  refine lv_aload_n hx hb d_Mo_four_20 rfl (lv_at hl 1 rfl) ?_
  refine lv_dup hx hb d_Mo_four_21 rfl ?_
  refine va_get (D := D) (ci := 7) (v := .int 0) (C := R_Mo) (T := F_Mo) (N := 52) hx hb hts i_Mo hown hK hP 0 rfl rfl 1 (by decide) (hts _ w_398) (fun _ h9 => h9) rfl d_Mo_four_22 ?_
  refine lv_iconst (v := 1) hx hb d_Mo_four_25 (by decide) ?_
  refine lv_iadd hx hb d_Mo_four_26 ?_
  refine lv_topi (fun z4 ez4 => ?_)
  obtain rfl : z4 = 1 := ez4.trans (by decide)
  refine va_put (D := D) (ci := 7) (v := .int 1) (ty := .int) (C := R_Mo) (T := F_Mo) (N := 52) hx hb hts i_Mo t_Mo t_Mo_ok n_Mo hown hK hP hD hS 0 rfl rfl 1 (by decide) (hts _ w_398) (fun _ h9 => h9) rfl (by decide +kernel) rfl rfl (Nat.le_of_ble_eq_true rfl) d_Mo_four_27 (fun H locs hP hD hS => ?_)
  have hP : va_P D cls [(h0, .inr (7, [.int 0, .int 1, .int 0, .int 0, .int 0, .int 0, .int (-1), .int (-1), .int 0, .int 0, .int 0, .int 0, .int 0, .int 0, .int 0, .int 0, .ref (qa 0), .ref (qa 1), .ref (qa 2), .ref (qa 3), .int 0, .ref (qa 4), .ref (qa 5), .ref (qa 6), .ref (qa 7), .ref (qa 8), .ref (qa 9), .ref (qa 10), .ref (qa 11), .ref (qa 12), .ref (qa 13), .ref (qa 14), .ref (qa 15), .ref (qa 16), .ref (qa 17), .ref (qa 18), .ref (qa 19), .ref (qa 20), .int 0, .int 0, .int 0, .int 0, .long 0, .long 0, .long 0, .long 0, .long 0, .ref (qa 21), .int 0, .int 0, .int 0, .int 0])), ((qa 0), .inl ((qk 0), 8192, .inl f3))] H := hP
  have hD : va_D A [(h0, .inr (7, [.int 0, .int 1, .int 0, .int 0, .int 0, .int 0, .int (-1), .int (-1), .int 0, .int 0, .int 0, .int 0, .int 0, .int 0, .int 0, .int 0, .ref (qa 0), .ref (qa 1), .ref (qa 2), .ref (qa 3), .int 0, .ref (qa 4), .ref (qa 5), .ref (qa 6), .ref (qa 7), .ref (qa 8), .ref (qa 9), .ref (qa 10), .ref (qa 11), .ref (qa 12), .ref (qa 13), .ref (qa 14), .ref (qa 15), .ref (qa 16), .ref (qa 17), .ref (qa 18), .ref (qa 19), .ref (qa 20), .int 0, .int 0, .int 0, .int 0, .long 0, .long 0, .long 0, .long 0, .long 0, .ref (qa 21), .int 0, .int 0, .int 0, .int 0])), ((qa 0), .inl ((qk 0), 8192, .inl f3))] := hD
  refine lv_iinc (v := 16) (lv' := [(2, .int 16), (0, .ref h0), (1, .int v)]) hx hb d_Mo_four_30 hl (k := 0) rfl (by decide) (by decide) rfl (fun ls hl => ?_)
  refine lv_goto (tgt := 3) hx hb d_Mo_four_33 (by decide) ?_
  refine lv_iload_n hx hb d_Mo_four_3 rfl (lv_at hl 0 rfl) ?_
  refine lv_if_lt (tgt := 36) hx hb d_Mo_four_4 (by decide) (fun q9 => absurd q9 (by decide : ¬ ((16 : Int32) < 0))) (fun _ => ?_)
  refine lv_aload_n hx hb d_Mo_four_7 rfl (lv_at hl 1 rfl) ?_
  refine va_get (D := D) (ci := 7) (v := .ref (qa 0)) (C := R_Mo) (T := F_Mo) (N := 52) hx hb hts i_Mo hown hK hP 0 rfl rfl 16 (by decide) (hts _ w_399) (fun _ h9 => h9) rfl d_Mo_four_8 ?_
  refine lv_aload_n hx hb d_Mo_four_11 rfl (lv_at hl 1 rfl) ?_
  refine va_get (D := D) (ci := 7) (v := .int 1) (C := R_Mo) (T := F_Mo) (N := 52) hx hb hts i_Mo hown hK hP 0 rfl rfl 1 (by decide) (hts _ w_398) (fun _ h9 => h9) rfl d_Mo_four_12 ?_
  refine lv_iload_n hx hb d_Mo_four_15 rfl (lv_at hl 2 rfl) ?_
  refine lv_iload_n hx hb d_Mo_four_16 rfl (lv_at hl 0 rfl) ?_
  refine lv_ishr hx hb d_Mo_four_17 ?_
  refine lv_topi (fun z5 _ => ?_)
  refine lv_i2b hx hb d_Mo_four_18 rfl ?_
  refine lv_topi (fun z6 _ => ?_)
  refine va_bast hx hb hK hP hD hS 1 0 rfl rfl (by unfold vp_in; decide) d_Mo_four_19 (fun H locs hP hD hS => ?_)
  obtain ⟨f7, ef7⟩ : ∃ z : Nat → Int32, z = (upd f3 (1 : Int32).toNatClampNeg (vp_nar .byte z6)) := ⟨_, rfl⟩
  have hP : va_P D cls [(h0, .inr (7, [.int 0, .int 1, .int 0, .int 0, .int 0, .int 0, .int (-1), .int (-1), .int 0, .int 0, .int 0, .int 0, .int 0, .int 0, .int 0, .int 0, .ref (qa 0), .ref (qa 1), .ref (qa 2), .ref (qa 3), .int 0, .ref (qa 4), .ref (qa 5), .ref (qa 6), .ref (qa 7), .ref (qa 8), .ref (qa 9), .ref (qa 10), .ref (qa 11), .ref (qa 12), .ref (qa 13), .ref (qa 14), .ref (qa 15), .ref (qa 16), .ref (qa 17), .ref (qa 18), .ref (qa 19), .ref (qa 20), .int 0, .int 0, .int 0, .int 0, .long 0, .long 0, .long 0, .long 0, .long 0, .ref (qa 21), .int 0, .int 0, .int 0, .int 0])), ((qa 0), .inl ((qk 0), 8192, .inl f7))] H := by rw [ef7]; exact hP
  have hD : va_D A [(h0, .inr (7, [.int 0, .int 1, .int 0, .int 0, .int 0, .int 0, .int (-1), .int (-1), .int 0, .int 0, .int 0, .int 0, .int 0, .int 0, .int 0, .int 0, .ref (qa 0), .ref (qa 1), .ref (qa 2), .ref (qa 3), .int 0, .ref (qa 4), .ref (qa 5), .ref (qa 6), .ref (qa 7), .ref (qa 8), .ref (qa 9), .ref (qa 10), .ref (qa 11), .ref (qa 12), .ref (qa 13), .ref (qa 14), .ref (qa 15), .ref (qa 16), .ref (qa 17), .ref (qa 18), .ref (qa 19), .ref (qa 20), .int 0, .int 0, .int 0, .int 0, .long 0, .long 0, .long 0, .long 0, .long 0, .ref (qa 21), .int 0, .int 0, .int 0, .int 0])), ((qa 0), .inl ((qk 0), 8192, .inl f7))] := by rw [ef7]; exact hD
  refine lv_aload_n hx hb d_Mo_four_20 rfl (lv_at hl 1 rfl) ?_
  refine lv_dup hx hb d_Mo_four_21 rfl ?_
  refine va_get (D := D) (ci := 7) (v := .int 1) (C := R_Mo) (T := F_Mo) (N := 52) hx hb hts i_Mo hown hK hP 0 rfl rfl 1 (by decide) (hts _ w_398) (fun _ h9 => h9) rfl d_Mo_four_22 ?_
  refine lv_iconst (v := 1) hx hb d_Mo_four_25 (by decide) ?_
  refine lv_iadd hx hb d_Mo_four_26 ?_
  refine lv_topi (fun z8 ez8 => ?_)
  obtain rfl : z8 = 2 := ez8.trans (by decide)
  refine va_put (D := D) (ci := 7) (v := .int 2) (ty := .int) (C := R_Mo) (T := F_Mo) (N := 52) hx hb hts i_Mo t_Mo t_Mo_ok n_Mo hown hK hP hD hS 0 rfl rfl 1 (by decide) (hts _ w_398) (fun _ h9 => h9) rfl (by decide +kernel) rfl rfl (Nat.le_of_ble_eq_true rfl) d_Mo_four_27 (fun H locs hP hD hS => ?_)
  have hP : va_P D cls [(h0, .inr (7, [.int 0, .int 2, .int 0, .int 0, .int 0, .int 0, .int (-1), .int (-1), .int 0, .int 0, .int 0, .int 0, .int 0, .int 0, .int 0, .int 0, .ref (qa 0), .ref (qa 1), .ref (qa 2), .ref (qa 3), .int 0, .ref (qa 4), .ref (qa 5), .ref (qa 6), .ref (qa 7), .ref (qa 8), .ref (qa 9), .ref (qa 10), .ref (qa 11), .ref (qa 12), .ref (qa 13), .ref (qa 14), .ref (qa 15), .ref (qa 16), .ref (qa 17), .ref (qa 18), .ref (qa 19), .ref (qa 20), .int 0, .int 0, .int 0, .int 0, .long 0, .long 0, .long 0, .long 0, .long 0, .ref (qa 21), .int 0, .int 0, .int 0, .int 0])), ((qa 0), .inl ((qk 0), 8192, .inl f7))] H := hP
  have hD : va_D A [(h0, .inr (7, [.int 0, .int 2, .int 0, .int 0, .int 0, .int 0, .int (-1), .int (-1), .int 0, .int 0, .int 0, .int 0, .int 0, .int 0, .int 0, .int 0, .ref (qa 0), .ref (qa 1), .ref (qa 2), .ref (qa 3), .int 0, .ref (qa 4), .ref (qa 5), .ref (qa 6), .ref (qa 7), .ref (qa 8), .ref (qa 9), .ref (qa 10), .ref (qa 11), .ref (qa 12), .ref (qa 13), .ref (qa 14), .ref (qa 15), .ref (qa 16), .ref (qa 17), .ref (qa 18), .ref (qa 19), .ref (qa 20), .int 0, .int 0, .int 0, .int 0, .long 0, .long 0, .long 0, .long 0, .long 0, .ref (qa 21), .int 0, .int 0, .int 0, .int 0])), ((qa 0), .inl ((qk 0), 8192, .inl f7))] := hD
  refine lv_iinc (v := 8) (lv' := [(2, .int 8), (0, .ref h0), (1, .int v)]) hx hb d_Mo_four_30 hl (k := 0) rfl (by decide) (by decide) rfl (fun ls hl => ?_)
  refine lv_goto (tgt := 3) hx hb d_Mo_four_33 (by decide) ?_
  refine lv_iload_n hx hb d_Mo_four_3 rfl (lv_at hl 0 rfl) ?_
  refine lv_if_lt (tgt := 36) hx hb d_Mo_four_4 (by decide) (fun q9 => absurd q9 (by decide : ¬ ((8 : Int32) < 0))) (fun _ => ?_)
  refine lv_aload_n hx hb d_Mo_four_7 rfl (lv_at hl 1 rfl) ?_
  refine va_get (D := D) (ci := 7) (v := .ref (qa 0)) (C := R_Mo) (T := F_Mo) (N := 52) hx hb hts i_Mo hown hK hP 0 rfl rfl 16 (by decide) (hts _ w_399) (fun _ h9 => h9) rfl d_Mo_four_8 ?_
  refine lv_aload_n hx hb d_Mo_four_11 rfl (lv_at hl 1 rfl) ?_
  refine va_get (D := D) (ci := 7) (v := .int 2) (C := R_Mo) (T := F_Mo) (N := 52) hx hb hts i_Mo hown hK hP 0 rfl rfl 1 (by decide) (hts _ w_398) (fun _ h9 => h9) rfl d_Mo_four_12 ?_
  refine lv_iload_n hx hb d_Mo_four_15 rfl (lv_at hl 2 rfl) ?_
  refine lv_iload_n hx hb d_Mo_four_16 rfl (lv_at hl 0 rfl) ?_
  refine lv_ishr hx hb d_Mo_four_17 ?_
  refine lv_topi (fun z9 _ => ?_)
  refine lv_i2b hx hb d_Mo_four_18 rfl ?_
  refine lv_topi (fun z10 _ => ?_)
  refine va_bast hx hb hK hP hD hS 1 0 rfl rfl (by unfold vp_in; decide) d_Mo_four_19 (fun H locs hP hD hS => ?_)
  obtain ⟨f11, ef11⟩ : ∃ z : Nat → Int32, z = (upd f7 (2 : Int32).toNatClampNeg (vp_nar .byte z10)) := ⟨_, rfl⟩
  have hP : va_P D cls [(h0, .inr (7, [.int 0, .int 2, .int 0, .int 0, .int 0, .int 0, .int (-1), .int (-1), .int 0, .int 0, .int 0, .int 0, .int 0, .int 0, .int 0, .int 0, .ref (qa 0), .ref (qa 1), .ref (qa 2), .ref (qa 3), .int 0, .ref (qa 4), .ref (qa 5), .ref (qa 6), .ref (qa 7), .ref (qa 8), .ref (qa 9), .ref (qa 10), .ref (qa 11), .ref (qa 12), .ref (qa 13), .ref (qa 14), .ref (qa 15), .ref (qa 16), .ref (qa 17), .ref (qa 18), .ref (qa 19), .ref (qa 20), .int 0, .int 0, .int 0, .int 0, .long 0, .long 0, .long 0, .long 0, .long 0, .ref (qa 21), .int 0, .int 0, .int 0, .int 0])), ((qa 0), .inl ((qk 0), 8192, .inl f11))] H := by rw [ef11]; exact hP
  have hD : va_D A [(h0, .inr (7, [.int 0, .int 2, .int 0, .int 0, .int 0, .int 0, .int (-1), .int (-1), .int 0, .int 0, .int 0, .int 0, .int 0, .int 0, .int 0, .int 0, .ref (qa 0), .ref (qa 1), .ref (qa 2), .ref (qa 3), .int 0, .ref (qa 4), .ref (qa 5), .ref (qa 6), .ref (qa 7), .ref (qa 8), .ref (qa 9), .ref (qa 10), .ref (qa 11), .ref (qa 12), .ref (qa 13), .ref (qa 14), .ref (qa 15), .ref (qa 16), .ref (qa 17), .ref (qa 18), .ref (qa 19), .ref (qa 20), .int 0, .int 0, .int 0, .int 0, .long 0, .long 0, .long 0, .long 0, .long 0, .ref (qa 21), .int 0, .int 0, .int 0, .int 0])), ((qa 0), .inl ((qk 0), 8192, .inl f11))] := by rw [ef11]; exact hD
  refine lv_aload_n hx hb d_Mo_four_20 rfl (lv_at hl 1 rfl) ?_
  refine lv_dup hx hb d_Mo_four_21 rfl ?_
  refine va_get (D := D) (ci := 7) (v := .int 2) (C := R_Mo) (T := F_Mo) (N := 52) hx hb hts i_Mo hown hK hP 0 rfl rfl 1 (by decide) (hts _ w_398) (fun _ h9 => h9) rfl d_Mo_four_22 ?_
  refine lv_iconst (v := 1) hx hb d_Mo_four_25 (by decide) ?_
  refine lv_iadd hx hb d_Mo_four_26 ?_
  refine lv_topi (fun z12 ez12 => ?_)
  obtain rfl : z12 = 3 := ez12.trans (by decide)
  refine va_put (D := D) (ci := 7) (v := .int 3) (ty := .int) (C := R_Mo) (T := F_Mo) (N := 52) hx hb hts i_Mo t_Mo t_Mo_ok n_Mo hown hK hP hD hS 0 rfl rfl 1 (by decide) (hts _ w_398) (fun _ h9 => h9) rfl (by decide +kernel) rfl rfl (Nat.le_of_ble_eq_true rfl) d_Mo_four_27 (fun H locs hP hD hS => ?_)
  have hP : va_P D cls [(h0, .inr (7, [.int 0, .int 3, .int 0, .int 0, .int 0, .int 0, .int (-1), .int (-1), .int 0, .int 0, .int 0, .int 0, .int 0, .int 0, .int 0, .int 0, .ref (qa 0), .ref (qa 1), .ref (qa 2), .ref (qa 3), .int 0, .ref (qa 4), .ref (qa 5), .ref (qa 6), .ref (qa 7), .ref (qa 8), .ref (qa 9), .ref (qa 10), .ref (qa 11), .ref (qa 12), .ref (qa 13), .ref (qa 14), .ref (qa 15), .ref (qa 16), .ref (qa 17), .ref (qa 18), .ref (qa 19), .ref (qa 20), .int 0, .int 0, .int 0, .int 0, .long 0, .long 0, .long 0, .long 0, .long 0, .ref (qa 21), .int 0, .int 0, .int 0, .int 0])), ((qa 0), .inl ((qk 0), 8192, .inl f11))] H := hP
  have hD : va_D A [(h0, .inr (7, [.int 0, .int 3, .int 0, .int 0, .int 0, .int 0, .int (-1), .int (-1), .int 0, .int 0, .int 0, .int 0, .int 0, .int 0, .int 0, .int 0, .ref (qa 0), .ref (qa 1), .ref (qa 2), .ref (qa 3), .int 0, .ref (qa 4), .ref (qa 5), .ref (qa 6), .ref (qa 7), .ref (qa 8), .ref (qa 9), .ref (qa 10), .ref (qa 11), .ref (qa 12), .ref (qa 13), .ref (qa 14), .ref (qa 15), .ref (qa 16), .ref (qa 17), .ref (qa 18), .ref (qa 19), .ref (qa 20), .int 0, .int 0, .int 0, .int 0, .long 0, .long 0, .long 0, .long 0, .long 0, .ref (qa 21), .int 0, .int 0, .int 0, .int 0])), ((qa 0), .inl ((qk 0), 8192, .inl f11))] := hD
  refine lv_iinc (v := 0) (lv' := [(2, .int 0), (0, .ref h0), (1, .int v)]) hx hb d_Mo_four_30 hl (k := 0) rfl (by decide) (by decide) rfl (fun ls hl => ?_)
  refine lv_goto (tgt := 3) hx hb d_Mo_four_33 (by decide) ?_
  refine lv_iload_n hx hb d_Mo_four_3 rfl (lv_at hl 0 rfl) ?_
  refine lv_if_lt (tgt := 36) hx hb d_Mo_four_4 (by decide) (fun q9 => absurd q9 (by decide : ¬ ((0 : Int32) < 0))) (fun _ => ?_)
  refine lv_aload_n hx hb d_Mo_four_7 rfl (lv_at hl 1 rfl) ?_
  refine va_get (D := D) (ci := 7) (v := .ref (qa 0)) (C := R_Mo) (T := F_Mo) (N := 52) hx hb hts i_Mo hown hK hP 0 rfl rfl 16 (by decide) (hts _ w_399) (fun _ h9 => h9) rfl d_Mo_four_8 ?_
  refine lv_aload_n hx hb d_Mo_four_11 rfl (lv_at hl 1 rfl) ?_
  refine va_get (D := D) (ci := 7) (v := .int 3) (C := R_Mo) (T := F_Mo) (N := 52) hx hb hts i_Mo hown hK hP 0 rfl rfl 1 (by decide) (hts _ w_398) (fun _ h9 => h9) rfl d_Mo_four_12 ?_
  refine lv_iload_n hx hb d_Mo_four_15 rfl (lv_at hl 2 rfl) ?_
  refine lv_iload_n hx hb d_Mo_four_16 rfl (lv_at hl 0 rfl) ?_
  refine lv_ishr hx hb d_Mo_four_17 ?_
  refine lv_topi (fun z13 _ => ?_)
  refine lv_i2b hx hb d_Mo_four_18 rfl ?_
  refine lv_topi (fun z14 _ => ?_)
  refine va_bast hx hb hK hP hD hS 1 0 rfl rfl (by unfold vp_in; decide) d_Mo_four_19 (fun H locs hP hD hS => ?_)
  obtain ⟨f15, ef15⟩ : ∃ z : Nat → Int32, z = (upd f11 (3 : Int32).toNatClampNeg (vp_nar .byte z14)) := ⟨_, rfl⟩
  have hP : va_P D cls [(h0, .inr (7, [.int 0, .int 3, .int 0, .int 0, .int 0, .int 0, .int (-1), .int (-1), .int 0, .int 0, .int 0, .int 0, .int 0, .int 0, .int 0, .int 0, .ref (qa 0), .ref (qa 1), .ref (qa 2), .ref (qa 3), .int 0, .ref (qa 4), .ref (qa 5), .ref (qa 6), .ref (qa 7), .ref (qa 8), .ref (qa 9), .ref (qa 10), .ref (qa 11), .ref (qa 12), .ref (qa 13), .ref (qa 14), .ref (qa 15), .ref (qa 16), .ref (qa 17), .ref (qa 18), .ref (qa 19), .ref (qa 20), .int 0, .int 0, .int 0, .int 0, .long 0, .long 0, .long 0, .long 0, .long 0, .ref (qa 21), .int 0, .int 0, .int 0, .int 0])), ((qa 0), .inl ((qk 0), 8192, .inl f15))] H := by rw [ef15]; exact hP
  have hD : va_D A [(h0, .inr (7, [.int 0, .int 3, .int 0, .int 0, .int 0, .int 0, .int (-1), .int (-1), .int 0, .int 0, .int 0, .int 0, .int 0, .int 0, .int 0, .int 0, .ref (qa 0), .ref (qa 1), .ref (qa 2), .ref (qa 3), .int 0, .ref (qa 4), .ref (qa 5), .ref (qa 6), .ref (qa 7), .ref (qa 8), .ref (qa 9), .ref (qa 10), .ref (qa 11), .ref (qa 12), .ref (qa 13), .ref (qa 14), .ref (qa 15), .ref (qa 16), .ref (qa 17), .ref (qa 18), .ref (qa 19), .ref (qa 20), .int 0, .int 0, .int 0, .int 0, .long 0, .long 0, .long 0, .long 0, .long 0, .ref (qa 21), .int 0, .int 0, .int 0, .int 0])), ((qa 0), .inl ((qk 0), 8192, .inl f15))] := by rw [ef15]; exact hD
  refine lv_aload_n hx hb d_Mo_four_20 rfl (lv_at hl 1 rfl) ?_
  refine lv_dup hx hb d_Mo_four_21 rfl ?_
  refine va_get (D := D) (ci := 7) (v := .int 3) (C := R_Mo) (T := F_Mo) (N := 52) hx hb hts i_Mo hown hK hP 0 rfl rfl 1 (by decide) (hts _ w_398) (fun _ h9 => h9) rfl d_Mo_four_22 ?_
  refine lv_iconst (v := 1) hx hb d_Mo_four_25 (by decide) ?_
  refine lv_iadd hx hb d_Mo_four_26 ?_
  refine lv_topi (fun z16 ez16 => ?_)
  obtain rfl : z16 = 4 := ez16.trans (by decide)
  refine va_put (D := D) (ci := 7) (v := .int 4) (ty := .int) (C := R_Mo) (T := F_Mo) (N := 52) hx hb hts i_Mo t_Mo t_Mo_ok n_Mo hown hK hP hD hS 0 rfl rfl 1 (by decide) (hts _ w_398) (fun _ h9 => h9) rfl (by decide +kernel) rfl rfl (Nat.le_of_ble_eq_true rfl) d_Mo_four_27 (fun H locs hP hD hS => ?_)
  have hP : va_P D cls [(h0, .inr (7, [.int 0, .int 4, .int 0, .int 0, .int 0, .int 0, .int (-1), .int (-1), .int 0, .int 0, .int 0, .int 0, .int 0, .int 0, .int 0, .int 0, .ref (qa 0), .ref (qa 1), .ref (qa 2), .ref (qa 3), .int 0, .ref (qa 4), .ref (qa 5), .ref (qa 6), .ref (qa 7), .ref (qa 8), .ref (qa 9), .ref (qa 10), .ref (qa 11), .ref (qa 12), .ref (qa 13), .ref (qa 14), .ref (qa 15), .ref (qa 16), .ref (qa 17), .ref (qa 18), .ref (qa 19), .ref (qa 20), .int 0, .int 0, .int 0, .int 0, .long 0, .long 0, .long 0, .long 0, .long 0, .ref (qa 21), .int 0, .int 0, .int 0, .int 0])), ((qa 0), .inl ((qk 0), 8192, .inl f15))] H := hP
  have hD : va_D A [(h0, .inr (7, [.int 0, .int 4, .int 0, .int 0, .int 0, .int 0, .int (-1), .int (-1), .int 0, .int 0, .int 0, .int 0, .int 0, .int 0, .int 0, .int 0, .ref (qa 0), .ref (qa 1), .ref (qa 2), .ref (qa 3), .int 0, .ref (qa 4), .ref (qa 5), .ref (qa 6), .ref (qa 7), .ref (qa 8), .ref (qa 9), .ref (qa 10), .ref (qa 11), .ref (qa 12), .ref (qa 13), .ref (qa 14), .ref (qa 15), .ref (qa 16), .ref (qa 17), .ref (qa 18), .ref (qa 19), .ref (qa 20), .int 0, .int 0, .int 0, .int 0, .long 0, .long 0, .long 0, .long 0, .long 0, .ref (qa 21), .int 0, .int 0, .int 0, .int 0])), ((qa 0), .inl ((qk 0), 8192, .inl f15))] := hD
  refine lv_iinc (v := (-8)) (lv' := [(2, .int (-8)), (0, .ref h0), (1, .int v)]) hx hb d_Mo_four_30 hl (k := 0) rfl (by decide) (by decide) rfl (fun ls hl => ?_)
  refine lv_goto (tgt := 3) hx hb d_Mo_four_33 (by decide) ?_
  refine lv_iload_n hx hb d_Mo_four_3 rfl (lv_at hl 0 rfl) ?_
  refine lv_if_lt (tgt := 36) hx hb d_Mo_four_4 (by decide) (fun _ => ?_) (fun q9 => absurd (by decide : (((-8) : Int32) < 0)) q9)
  exact xr_v hx hb hr hlocks hP hD hK hS (f15) [0, 1] rfl rfl (by decide) [0] rfl rfl d_Mo_four_36

set_option maxHeartbeats 4000000 in
set_option maxRecDepth 100000 in
theorem c_Mo_four_4 (l : Launch) (D : va_G) (h0 : Nat) (qa : Nat → Nat) (qk : Nat → ClassId) (f : Nat → Int32) (v : Int32) (sz : Nat) : Met l y_Mo_four (Cond.code y_Mo_four b_Mo_four 3 none :: bw) (xR 1 0 0) (va_Pc [.ref h0, .int v] (xP D [((qk 0), .byte)] sz [(h0, .inr (7, [.int 0, .int 4, .int 0, .int 0, .int 0, .int 0, .int (-1), .int (-1), .int 0, .int 0, .int 0, .int 0, .int 0, .int 0, .int 0, .int 0, .ref (qa 0), .ref (qa 1), .ref (qa 2), .ref (qa 3), .int 0, .ref (qa 4), .ref (qa 5), .ref (qa 6), .ref (qa 7), .ref (qa 8), .ref (qa 9), .ref (qa 10), .ref (qa 11), .ref (qa 12), .ref (qa 13), .ref (qa 14), .ref (qa 15), .ref (qa 16), .ref (qa 17), .ref (qa 18), .ref (qa 19), .ref (qa 20), .int 0, .int 0, .int 0, .int 0, .long 0, .long 0, .long 0, .long 0, .long 0, .ref (qa 21), .int 0, .int 0, .int 0, .int 0])), ((qa 0), .inl ((qk 0), 8192, .inl f))])) (xQ (S := (Nat → Int32)) (fun u => none) (fun u => [(h0, .inr (7, [.int 0, .int 8, .int 0, .int 0, .int 0, .int 0, .int (-1), .int (-1), .int 0, .int 0, .int 0, .int 0, .int 0, .int 0, .int 0, .int 0, .ref (qa 0), .ref (qa 1), .ref (qa 2), .ref (qa 3), .int 0, .ref (qa 4), .ref (qa 5), .ref (qa 6), .ref (qa 7), .ref (qa 8), .ref (qa 9), .ref (qa 10), .ref (qa 11), .ref (qa 12), .ref (qa 13), .ref (qa 14), .ref (qa 15), .ref (qa 16), .ref (qa 17), .ref (qa 18), .ref (qa 19), .ref (qa 20), .int 0, .int 0, .int 0, .int 0, .long 0, .long 0, .long 0, .long 0, .long 0, .ref (qa 21), .int 0, .int 0, .int 0, .int 0])), ((qa 0), .inl ((qk 0), 8192, .inl u))]) (fun u => [((qk 0), .byte)]) D (va_A [(h0, .inr (7, [.int 0, .int 4, .int 0, .int 0, .int 0, .int 0, .int (-1), .int (-1), .int 0, .int 0, .int 0, .int 0, .int 0, .int 0, .int 0, .int 0, .ref (qa 0), .ref (qa 1), .ref (qa 2), .ref (qa 3), .int 0, .ref (qa 4), .ref (qa 5), .ref (qa 6), .ref (qa 7), .ref (qa 8), .ref (qa 9), .ref (qa 10), .ref (qa 11), .ref (qa 12), .ref (qa 13), .ref (qa 14), .ref (qa 15), .ref (qa 16), .ref (qa 17), .ref (qa 18), .ref (qa 19), .ref (qa 20), .int 0, .int 0, .int 0, .int 0, .long 0, .long 0, .long 0, .long 0, .long 0, .ref (qa 21), .int 0, .int 0, .int 0, .int 0])), ((qa 0), .inl ((qk 0), 8192, .inl f))] sz)) 0 0 (va_A [(h0, .inr (7, [.int 0, .int 4, .int 0, .int 0, .int 0, .int 0, .int (-1), .int (-1), .int 0, .int 0, .int 0, .int 0, .int 0, .int 0, .int 0, .int 0, .ref (qa 0), .ref (qa 1), .ref (qa 2), .ref (qa 3), .int 0, .ref (qa 4), .ref (qa 5), .ref (qa 6), .ref (qa 7), .ref (qa 8), .ref (qa 9), .ref (qa 10), .ref (qa 11), .ref (qa 12), .ref (qa 13), .ref (qa 14), .ref (qa 15), .ref (qa 16), .ref (qa 17), .ref (qa 18), .ref (qa 19), .ref (qa 20), .int 0, .int 0, .int 0, .int 0, .long 0, .long 0, .long 0, .long 0, .long 0, .ref (qa 21), .int 0, .int 0, .int 0, .int 0])), ((qa 0), .inl ((qk 0), 8192, .inl f))] sz) := by
  refine Met.ofW (cc := b_Mo_four) (maxL := 3) (ret := none) (by decide) rfl ?_
  intro p e s m args below meth c s₁ B hml hv
  obtain ⟨rfl, hsz, hP, hK, hD0, hN, hZ⟩ := hv
  have hx := B.exec
  have hb := B.bytes
  have hr := B.returns
  have hlocks := B.notSynchronized
  have hts : ∀ w ∈ bw, w.before _ s = true := fun w h => atoms_spec (ws := Cond.code y_Mo_four b_Mo_four 3 none :: bw) B.pre w (List.mem_cons_of_mem _ h)
  have hown : s.vm.findClass "ObjectForgeModel" = some m.cls := findClass_of_methodNamed B.named
  subst hsz
  have hP0 := hP
  have hD := hD0.self (sz := s.heap.size)
  generalize hAe : va_A [(h0, .inr (7, [.int 0, .int 4, .int 0, .int 0, .int 0, .int 0, .int (-1), .int (-1), .int 0, .int 0, .int 0, .int 0, .int 0, .int 0, .int 0, .int 0, .ref (qa 0), .ref (qa 1), .ref (qa 2), .ref (qa 3), .int 0, .ref (qa 4), .ref (qa 5), .ref (qa 6), .ref (qa 7), .ref (qa 8), .ref (qa 9), .ref (qa 10), .ref (qa 11), .ref (qa 12), .ref (qa 13), .ref (qa 14), .ref (qa 15), .ref (qa 16), .ref (qa 17), .ref (qa 18), .ref (qa 19), .ref (qa 20), .int 0, .int 0, .int 0, .int 0, .long 0, .long 0, .long 0, .long 0, .long 0, .ref (qa 21), .int 0, .int 0, .int 0, .int 0])), ((qa 0), .inl ((qk 0), 8192, .inl f))] s.heap.size = A at hD hZ ⊢
  have hA : ∀ q : Nat, s.heap.size ≤ q → A q := fun q h => by rw [← hAe]; exact Or.inr h
  have hS : va_S A s.heap s.heap [] := va_S.rf
  have hl := lv_entry ([.ref h0, .int v]) (n := 3) (Nat.le_of_ble_eq_true rfl)
  rw [lg_entry_eq]
  generalize (lg_sl ([.ref h0, .int v]) ++ List.replicate (3 - (lg_sl ([.ref h0, .int v])).length) Slot.unset).toArray = ls at hl ⊢
  have hl : lv_has ls 3 [(0, .ref h0), (1, .int v)] := hl
  refine lv_bipush (v := 24) hx hb d_Mo_four_0 (by decide) ?_
  refine lv_istore_n (lv' := [(2, .int 24), (0, .ref h0), (1, .int v)]) hx hb d_Mo_four_2 rfl hl (by decide) rfl (fun ls hl => ?_)
  refine lv_iload_n hx hb d_Mo_four_3 rfl (lv_at hl 0 rfl) ?_
  refine lv_if_lt (tgt := 36) hx hb d_Mo_four_4 (by decide) (fun q9 => absurd q9 (by decide : ¬ ((24 : Int32) < 0))) (fun _ => ?_)
  refine lv_aload_n hx hb d_Mo_four_7 rfl (lv_at hl 1 rfl) ?_
  refine va_get (D := D) (ci := 7) (v := .ref (qa 0)) (C := R_Mo) (T := F_Mo) (N := 52) hx hb hts i_Mo hown hK hP 0 rfl rfl 16 (by decide) (hts _ w_399) (fun _ h9 => h9) rfl d_Mo_four_8 ?_
  refine lv_aload_n hx hb d_Mo_four_11 rfl (lv_at hl 1 rfl) ?_
  refine va_get (D := D) (ci := 7) (v := .int 4) (C := R_Mo) (T := F_Mo) (N := 52) hx hb hts i_Mo hown hK hP 0 rfl rfl 1 (by decide) (hts _ w_398) (fun _ h9 => h9) rfl d_Mo_four_12 ?_
  refine lv_iload_n hx hb d_Mo_four_15 rfl (lv_at hl 2 rfl) ?_
  refine lv_iload_n hx hb d_Mo_four_16 rfl (lv_at hl 0 rfl) ?_
  refine lv_ishr hx hb d_Mo_four_17 ?_
  refine lv_topi (fun z1 _ => ?_)
  refine lv_i2b hx hb d_Mo_four_18 rfl ?_
  refine lv_topi (fun z2 _ => ?_)
  refine va_bast hx hb hK hP hD hS 1 0 rfl rfl (by unfold vp_in; decide) d_Mo_four_19 (fun H locs hP hD hS => ?_)
  obtain ⟨f3, ef3⟩ : ∃ z : Nat → Int32, z = (upd f (4 : Int32).toNatClampNeg (vp_nar .byte z2)) := ⟨_, rfl⟩
  have hP : va_P D cls [(h0, .inr (7, [.int 0, .int 4, .int 0, .int 0, .int 0, .int 0, .int (-1), .int (-1), .int 0, .int 0, .int 0, .int 0, .int 0, .int 0, .int 0, .int 0, .ref (qa 0), .ref (qa 1), .ref (qa 2), .ref (qa 3), .int 0, .ref (qa 4), .ref (qa 5), .ref (qa 6), .ref (qa 7), .ref (qa 8), .ref (qa 9), .ref (qa 10), .ref (qa 11), .ref (qa 12), .ref (qa 13), .ref (qa 14), .ref (qa 15), .ref (qa 16), .ref (qa 17), .ref (qa 18), .ref (qa 19), .ref (qa 20), .int 0, .int 0, .int 0, .int 0, .long 0, .long 0, .long 0, .long 0, .long 0, .ref (qa 21), .int 0, .int 0, .int 0, .int 0])), ((qa 0), .inl ((qk 0), 8192, .inl f3))] H := by rw [ef3]; exact hP
  have hD : va_D A [(h0, .inr (7, [.int 0, .int 4, .int 0, .int 0, .int 0, .int 0, .int (-1), .int (-1), .int 0, .int 0, .int 0, .int 0, .int 0, .int 0, .int 0, .int 0, .ref (qa 0), .ref (qa 1), .ref (qa 2), .ref (qa 3), .int 0, .ref (qa 4), .ref (qa 5), .ref (qa 6), .ref (qa 7), .ref (qa 8), .ref (qa 9), .ref (qa 10), .ref (qa 11), .ref (qa 12), .ref (qa 13), .ref (qa 14), .ref (qa 15), .ref (qa 16), .ref (qa 17), .ref (qa 18), .ref (qa 19), .ref (qa 20), .int 0, .int 0, .int 0, .int 0, .long 0, .long 0, .long 0, .long 0, .long 0, .ref (qa 21), .int 0, .int 0, .int 0, .int 0])), ((qa 0), .inl ((qk 0), 8192, .inl f3))] := by rw [ef3]; exact hD
  refine lv_aload_n hx hb d_Mo_four_20 rfl (lv_at hl 1 rfl) ?_
  refine lv_dup hx hb d_Mo_four_21 rfl ?_
  refine va_get (D := D) (ci := 7) (v := .int 4) (C := R_Mo) (T := F_Mo) (N := 52) hx hb hts i_Mo hown hK hP 0 rfl rfl 1 (by decide) (hts _ w_398) (fun _ h9 => h9) rfl d_Mo_four_22 ?_
  refine lv_iconst (v := 1) hx hb d_Mo_four_25 (by decide) ?_
  refine lv_iadd hx hb d_Mo_four_26 ?_
  refine lv_topi (fun z4 ez4 => ?_)
  obtain rfl : z4 = 5 := ez4.trans (by decide)
  refine va_put (D := D) (ci := 7) (v := .int 5) (ty := .int) (C := R_Mo) (T := F_Mo) (N := 52) hx hb hts i_Mo t_Mo t_Mo_ok n_Mo hown hK hP hD hS 0 rfl rfl 1 (by decide) (hts _ w_398) (fun _ h9 => h9) rfl (by decide +kernel) rfl rfl (Nat.le_of_ble_eq_true rfl) d_Mo_four_27 (fun H locs hP hD hS => ?_)
  have hP : va_P D cls [(h0, .inr (7, [.int 0, .int 5, .int 0, .int 0, .int 0, .int 0, .int (-1), .int (-1), .int 0, .int 0, .int 0, .int 0, .int 0, .int 0, .int 0, .int 0, .ref (qa 0), .ref (qa 1), .ref (qa 2), .ref (qa 3), .int 0, .ref (qa 4), .ref (qa 5), .ref (qa 6), .ref (qa 7), .ref (qa 8), .ref (qa 9), .ref (qa 10), .ref (qa 11), .ref (qa 12), .ref (qa 13), .ref (qa 14), .ref (qa 15), .ref (qa 16), .ref (qa 17), .ref (qa 18), .ref (qa 19), .ref (qa 20), .int 0, .int 0, .int 0, .int 0, .long 0, .long 0, .long 0, .long 0, .long 0, .ref (qa 21), .int 0, .int 0, .int 0, .int 0])), ((qa 0), .inl ((qk 0), 8192, .inl f3))] H := hP
  have hD : va_D A [(h0, .inr (7, [.int 0, .int 5, .int 0, .int 0, .int 0, .int 0, .int (-1), .int (-1), .int 0, .int 0, .int 0, .int 0, .int 0, .int 0, .int 0, .int 0, .ref (qa 0), .ref (qa 1), .ref (qa 2), .ref (qa 3), .int 0, .ref (qa 4), .ref (qa 5), .ref (qa 6), .ref (qa 7), .ref (qa 8), .ref (qa 9), .ref (qa 10), .ref (qa 11), .ref (qa 12), .ref (qa 13), .ref (qa 14), .ref (qa 15), .ref (qa 16), .ref (qa 17), .ref (qa 18), .ref (qa 19), .ref (qa 20), .int 0, .int 0, .int 0, .int 0, .long 0, .long 0, .long 0, .long 0, .long 0, .ref (qa 21), .int 0, .int 0, .int 0, .int 0])), ((qa 0), .inl ((qk 0), 8192, .inl f3))] := hD
  refine lv_iinc (v := 16) (lv' := [(2, .int 16), (0, .ref h0), (1, .int v)]) hx hb d_Mo_four_30 hl (k := 0) rfl (by decide) (by decide) rfl (fun ls hl => ?_)
  refine lv_goto (tgt := 3) hx hb d_Mo_four_33 (by decide) ?_
  refine lv_iload_n hx hb d_Mo_four_3 rfl (lv_at hl 0 rfl) ?_
  refine lv_if_lt (tgt := 36) hx hb d_Mo_four_4 (by decide) (fun q9 => absurd q9 (by decide : ¬ ((16 : Int32) < 0))) (fun _ => ?_)
  refine lv_aload_n hx hb d_Mo_four_7 rfl (lv_at hl 1 rfl) ?_
  refine va_get (D := D) (ci := 7) (v := .ref (qa 0)) (C := R_Mo) (T := F_Mo) (N := 52) hx hb hts i_Mo hown hK hP 0 rfl rfl 16 (by decide) (hts _ w_399) (fun _ h9 => h9) rfl d_Mo_four_8 ?_
  refine lv_aload_n hx hb d_Mo_four_11 rfl (lv_at hl 1 rfl) ?_
  refine va_get (D := D) (ci := 7) (v := .int 5) (C := R_Mo) (T := F_Mo) (N := 52) hx hb hts i_Mo hown hK hP 0 rfl rfl 1 (by decide) (hts _ w_398) (fun _ h9 => h9) rfl d_Mo_four_12 ?_
  refine lv_iload_n hx hb d_Mo_four_15 rfl (lv_at hl 2 rfl) ?_
  refine lv_iload_n hx hb d_Mo_four_16 rfl (lv_at hl 0 rfl) ?_
  refine lv_ishr hx hb d_Mo_four_17 ?_
  refine lv_topi (fun z5 _ => ?_)
  refine lv_i2b hx hb d_Mo_four_18 rfl ?_
  refine lv_topi (fun z6 _ => ?_)
  refine va_bast hx hb hK hP hD hS 1 0 rfl rfl (by unfold vp_in; decide) d_Mo_four_19 (fun H locs hP hD hS => ?_)
  obtain ⟨f7, ef7⟩ : ∃ z : Nat → Int32, z = (upd f3 (5 : Int32).toNatClampNeg (vp_nar .byte z6)) := ⟨_, rfl⟩
  have hP : va_P D cls [(h0, .inr (7, [.int 0, .int 5, .int 0, .int 0, .int 0, .int 0, .int (-1), .int (-1), .int 0, .int 0, .int 0, .int 0, .int 0, .int 0, .int 0, .int 0, .ref (qa 0), .ref (qa 1), .ref (qa 2), .ref (qa 3), .int 0, .ref (qa 4), .ref (qa 5), .ref (qa 6), .ref (qa 7), .ref (qa 8), .ref (qa 9), .ref (qa 10), .ref (qa 11), .ref (qa 12), .ref (qa 13), .ref (qa 14), .ref (qa 15), .ref (qa 16), .ref (qa 17), .ref (qa 18), .ref (qa 19), .ref (qa 20), .int 0, .int 0, .int 0, .int 0, .long 0, .long 0, .long 0, .long 0, .long 0, .ref (qa 21), .int 0, .int 0, .int 0, .int 0])), ((qa 0), .inl ((qk 0), 8192, .inl f7))] H := by rw [ef7]; exact hP
  have hD : va_D A [(h0, .inr (7, [.int 0, .int 5, .int 0, .int 0, .int 0, .int 0, .int (-1), .int (-1), .int 0, .int 0, .int 0, .int 0, .int 0, .int 0, .int 0, .int 0, .ref (qa 0), .ref (qa 1), .ref (qa 2), .ref (qa 3), .int 0, .ref (qa 4), .ref (qa 5), .ref (qa 6), .ref (qa 7), .ref (qa 8), .ref (qa 9), .ref (qa 10), .ref (qa 11), .ref (qa 12), .ref (qa 13), .ref (qa 14), .ref (qa 15), .ref (qa 16), .ref (qa 17), .ref (qa 18), .ref (qa 19), .ref (qa 20), .int 0, .int 0, .int 0, .int 0, .long 0, .long 0, .long 0, .long 0, .long 0, .ref (qa 21), .int 0, .int 0, .int 0, .int 0])), ((qa 0), .inl ((qk 0), 8192, .inl f7))] := by rw [ef7]; exact hD
  refine lv_aload_n hx hb d_Mo_four_20 rfl (lv_at hl 1 rfl) ?_
  refine lv_dup hx hb d_Mo_four_21 rfl ?_
  refine va_get (D := D) (ci := 7) (v := .int 5) (C := R_Mo) (T := F_Mo) (N := 52) hx hb hts i_Mo hown hK hP 0 rfl rfl 1 (by decide) (hts _ w_398) (fun _ h9 => h9) rfl d_Mo_four_22 ?_
  refine lv_iconst (v := 1) hx hb d_Mo_four_25 (by decide) ?_
  refine lv_iadd hx hb d_Mo_four_26 ?_
  refine lv_topi (fun z8 ez8 => ?_)
  obtain rfl : z8 = 6 := ez8.trans (by decide)
  refine va_put (D := D) (ci := 7) (v := .int 6) (ty := .int) (C := R_Mo) (T := F_Mo) (N := 52) hx hb hts i_Mo t_Mo t_Mo_ok n_Mo hown hK hP hD hS 0 rfl rfl 1 (by decide) (hts _ w_398) (fun _ h9 => h9) rfl (by decide +kernel) rfl rfl (Nat.le_of_ble_eq_true rfl) d_Mo_four_27 (fun H locs hP hD hS => ?_)
  have hP : va_P D cls [(h0, .inr (7, [.int 0, .int 6, .int 0, .int 0, .int 0, .int 0, .int (-1), .int (-1), .int 0, .int 0, .int 0, .int 0, .int 0, .int 0, .int 0, .int 0, .ref (qa 0), .ref (qa 1), .ref (qa 2), .ref (qa 3), .int 0, .ref (qa 4), .ref (qa 5), .ref (qa 6), .ref (qa 7), .ref (qa 8), .ref (qa 9), .ref (qa 10), .ref (qa 11), .ref (qa 12), .ref (qa 13), .ref (qa 14), .ref (qa 15), .ref (qa 16), .ref (qa 17), .ref (qa 18), .ref (qa 19), .ref (qa 20), .int 0, .int 0, .int 0, .int 0, .long 0, .long 0, .long 0, .long 0, .long 0, .ref (qa 21), .int 0, .int 0, .int 0, .int 0])), ((qa 0), .inl ((qk 0), 8192, .inl f7))] H := hP
  have hD : va_D A [(h0, .inr (7, [.int 0, .int 6, .int 0, .int 0, .int 0, .int 0, .int (-1), .int (-1), .int 0, .int 0, .int 0, .int 0, .int 0, .int 0, .int 0, .int 0, .ref (qa 0), .ref (qa 1), .ref (qa 2), .ref (qa 3), .int 0, .ref (qa 4), .ref (qa 5), .ref (qa 6), .ref (qa 7), .ref (qa 8), .ref (qa 9), .ref (qa 10), .ref (qa 11), .ref (qa 12), .ref (qa 13), .ref (qa 14), .ref (qa 15), .ref (qa 16), .ref (qa 17), .ref (qa 18), .ref (qa 19), .ref (qa 20), .int 0, .int 0, .int 0, .int 0, .long 0, .long 0, .long 0, .long 0, .long 0, .ref (qa 21), .int 0, .int 0, .int 0, .int 0])), ((qa 0), .inl ((qk 0), 8192, .inl f7))] := hD
  refine lv_iinc (v := 8) (lv' := [(2, .int 8), (0, .ref h0), (1, .int v)]) hx hb d_Mo_four_30 hl (k := 0) rfl (by decide) (by decide) rfl (fun ls hl => ?_)
  refine lv_goto (tgt := 3) hx hb d_Mo_four_33 (by decide) ?_
  refine lv_iload_n hx hb d_Mo_four_3 rfl (lv_at hl 0 rfl) ?_
  refine lv_if_lt (tgt := 36) hx hb d_Mo_four_4 (by decide) (fun q9 => absurd q9 (by decide : ¬ ((8 : Int32) < 0))) (fun _ => ?_)
  refine lv_aload_n hx hb d_Mo_four_7 rfl (lv_at hl 1 rfl) ?_
  refine va_get (D := D) (ci := 7) (v := .ref (qa 0)) (C := R_Mo) (T := F_Mo) (N := 52) hx hb hts i_Mo hown hK hP 0 rfl rfl 16 (by decide) (hts _ w_399) (fun _ h9 => h9) rfl d_Mo_four_8 ?_
  refine lv_aload_n hx hb d_Mo_four_11 rfl (lv_at hl 1 rfl) ?_
  refine va_get (D := D) (ci := 7) (v := .int 6) (C := R_Mo) (T := F_Mo) (N := 52) hx hb hts i_Mo hown hK hP 0 rfl rfl 1 (by decide) (hts _ w_398) (fun _ h9 => h9) rfl d_Mo_four_12 ?_
  refine lv_iload_n hx hb d_Mo_four_15 rfl (lv_at hl 2 rfl) ?_
  refine lv_iload_n hx hb d_Mo_four_16 rfl (lv_at hl 0 rfl) ?_
  refine lv_ishr hx hb d_Mo_four_17 ?_
  refine lv_topi (fun z9 _ => ?_)
  refine lv_i2b hx hb d_Mo_four_18 rfl ?_
  refine lv_topi (fun z10 _ => ?_)
  refine va_bast hx hb hK hP hD hS 1 0 rfl rfl (by unfold vp_in; decide) d_Mo_four_19 (fun H locs hP hD hS => ?_)
  obtain ⟨f11, ef11⟩ : ∃ z : Nat → Int32, z = (upd f7 (6 : Int32).toNatClampNeg (vp_nar .byte z10)) := ⟨_, rfl⟩
  have hP : va_P D cls [(h0, .inr (7, [.int 0, .int 6, .int 0, .int 0, .int 0, .int 0, .int (-1), .int (-1), .int 0, .int 0, .int 0, .int 0, .int 0, .int 0, .int 0, .int 0, .ref (qa 0), .ref (qa 1), .ref (qa 2), .ref (qa 3), .int 0, .ref (qa 4), .ref (qa 5), .ref (qa 6), .ref (qa 7), .ref (qa 8), .ref (qa 9), .ref (qa 10), .ref (qa 11), .ref (qa 12), .ref (qa 13), .ref (qa 14), .ref (qa 15), .ref (qa 16), .ref (qa 17), .ref (qa 18), .ref (qa 19), .ref (qa 20), .int 0, .int 0, .int 0, .int 0, .long 0, .long 0, .long 0, .long 0, .long 0, .ref (qa 21), .int 0, .int 0, .int 0, .int 0])), ((qa 0), .inl ((qk 0), 8192, .inl f11))] H := by rw [ef11]; exact hP
  have hD : va_D A [(h0, .inr (7, [.int 0, .int 6, .int 0, .int 0, .int 0, .int 0, .int (-1), .int (-1), .int 0, .int 0, .int 0, .int 0, .int 0, .int 0, .int 0, .int 0, .ref (qa 0), .ref (qa 1), .ref (qa 2), .ref (qa 3), .int 0, .ref (qa 4), .ref (qa 5), .ref (qa 6), .ref (qa 7), .ref (qa 8), .ref (qa 9), .ref (qa 10), .ref (qa 11), .ref (qa 12), .ref (qa 13), .ref (qa 14), .ref (qa 15), .ref (qa 16), .ref (qa 17), .ref (qa 18), .ref (qa 19), .ref (qa 20), .int 0, .int 0, .int 0, .int 0, .long 0, .long 0, .long 0, .long 0, .long 0, .ref (qa 21), .int 0, .int 0, .int 0, .int 0])), ((qa 0), .inl ((qk 0), 8192, .inl f11))] := by rw [ef11]; exact hD
  refine lv_aload_n hx hb d_Mo_four_20 rfl (lv_at hl 1 rfl) ?_
  refine lv_dup hx hb d_Mo_four_21 rfl ?_
  refine va_get (D := D) (ci := 7) (v := .int 6) (C := R_Mo) (T := F_Mo) (N := 52) hx hb hts i_Mo hown hK hP 0 rfl rfl 1 (by decide) (hts _ w_398) (fun _ h9 => h9) rfl d_Mo_four_22 ?_
  refine lv_iconst (v := 1) hx hb d_Mo_four_25 (by decide) ?_
  refine lv_iadd hx hb d_Mo_four_26 ?_
  refine lv_topi (fun z12 ez12 => ?_)
  obtain rfl : z12 = 7 := ez12.trans (by decide)
  refine va_put (D := D) (ci := 7) (v := .int 7) (ty := .int) (C := R_Mo) (T := F_Mo) (N := 52) hx hb hts i_Mo t_Mo t_Mo_ok n_Mo hown hK hP hD hS 0 rfl rfl 1 (by decide) (hts _ w_398) (fun _ h9 => h9) rfl (by decide +kernel) rfl rfl (Nat.le_of_ble_eq_true rfl) d_Mo_four_27 (fun H locs hP hD hS => ?_)
  have hP : va_P D cls [(h0, .inr (7, [.int 0, .int 7, .int 0, .int 0, .int 0, .int 0, .int (-1), .int (-1), .int 0, .int 0, .int 0, .int 0, .int 0, .int 0, .int 0, .int 0, .ref (qa 0), .ref (qa 1), .ref (qa 2), .ref (qa 3), .int 0, .ref (qa 4), .ref (qa 5), .ref (qa 6), .ref (qa 7), .ref (qa 8), .ref (qa 9), .ref (qa 10), .ref (qa 11), .ref (qa 12), .ref (qa 13), .ref (qa 14), .ref (qa 15), .ref (qa 16), .ref (qa 17), .ref (qa 18), .ref (qa 19), .ref (qa 20), .int 0, .int 0, .int 0, .int 0, .long 0, .long 0, .long 0, .long 0, .long 0, .ref (qa 21), .int 0, .int 0, .int 0, .int 0])), ((qa 0), .inl ((qk 0), 8192, .inl f11))] H := hP
  have hD : va_D A [(h0, .inr (7, [.int 0, .int 7, .int 0, .int 0, .int 0, .int 0, .int (-1), .int (-1), .int 0, .int 0, .int 0, .int 0, .int 0, .int 0, .int 0, .int 0, .ref (qa 0), .ref (qa 1), .ref (qa 2), .ref (qa 3), .int 0, .ref (qa 4), .ref (qa 5), .ref (qa 6), .ref (qa 7), .ref (qa 8), .ref (qa 9), .ref (qa 10), .ref (qa 11), .ref (qa 12), .ref (qa 13), .ref (qa 14), .ref (qa 15), .ref (qa 16), .ref (qa 17), .ref (qa 18), .ref (qa 19), .ref (qa 20), .int 0, .int 0, .int 0, .int 0, .long 0, .long 0, .long 0, .long 0, .long 0, .ref (qa 21), .int 0, .int 0, .int 0, .int 0])), ((qa 0), .inl ((qk 0), 8192, .inl f11))] := hD
  refine lv_iinc (v := 0) (lv' := [(2, .int 0), (0, .ref h0), (1, .int v)]) hx hb d_Mo_four_30 hl (k := 0) rfl (by decide) (by decide) rfl (fun ls hl => ?_)
  refine lv_goto (tgt := 3) hx hb d_Mo_four_33 (by decide) ?_
  refine lv_iload_n hx hb d_Mo_four_3 rfl (lv_at hl 0 rfl) ?_
  refine lv_if_lt (tgt := 36) hx hb d_Mo_four_4 (by decide) (fun q9 => absurd q9 (by decide : ¬ ((0 : Int32) < 0))) (fun _ => ?_)
  refine lv_aload_n hx hb d_Mo_four_7 rfl (lv_at hl 1 rfl) ?_
  refine va_get (D := D) (ci := 7) (v := .ref (qa 0)) (C := R_Mo) (T := F_Mo) (N := 52) hx hb hts i_Mo hown hK hP 0 rfl rfl 16 (by decide) (hts _ w_399) (fun _ h9 => h9) rfl d_Mo_four_8 ?_
  refine lv_aload_n hx hb d_Mo_four_11 rfl (lv_at hl 1 rfl) ?_
  refine va_get (D := D) (ci := 7) (v := .int 7) (C := R_Mo) (T := F_Mo) (N := 52) hx hb hts i_Mo hown hK hP 0 rfl rfl 1 (by decide) (hts _ w_398) (fun _ h9 => h9) rfl d_Mo_four_12 ?_
  refine lv_iload_n hx hb d_Mo_four_15 rfl (lv_at hl 2 rfl) ?_
  refine lv_iload_n hx hb d_Mo_four_16 rfl (lv_at hl 0 rfl) ?_
  refine lv_ishr hx hb d_Mo_four_17 ?_
  refine lv_topi (fun z13 _ => ?_)
  refine lv_i2b hx hb d_Mo_four_18 rfl ?_
  refine lv_topi (fun z14 _ => ?_)
  refine va_bast hx hb hK hP hD hS 1 0 rfl rfl (by unfold vp_in; decide) d_Mo_four_19 (fun H locs hP hD hS => ?_)
  obtain ⟨f15, ef15⟩ : ∃ z : Nat → Int32, z = (upd f11 (7 : Int32).toNatClampNeg (vp_nar .byte z14)) := ⟨_, rfl⟩
  have hP : va_P D cls [(h0, .inr (7, [.int 0, .int 7, .int 0, .int 0, .int 0, .int 0, .int (-1), .int (-1), .int 0, .int 0, .int 0, .int 0, .int 0, .int 0, .int 0, .int 0, .ref (qa 0), .ref (qa 1), .ref (qa 2), .ref (qa 3), .int 0, .ref (qa 4), .ref (qa 5), .ref (qa 6), .ref (qa 7), .ref (qa 8), .ref (qa 9), .ref (qa 10), .ref (qa 11), .ref (qa 12), .ref (qa 13), .ref (qa 14), .ref (qa 15), .ref (qa 16), .ref (qa 17), .ref (qa 18), .ref (qa 19), .ref (qa 20), .int 0, .int 0, .int 0, .int 0, .long 0, .long 0, .long 0, .long 0, .long 0, .ref (qa 21), .int 0, .int 0, .int 0, .int 0])), ((qa 0), .inl ((qk 0), 8192, .inl f15))] H := by rw [ef15]; exact hP
  have hD : va_D A [(h0, .inr (7, [.int 0, .int 7, .int 0, .int 0, .int 0, .int 0, .int (-1), .int (-1), .int 0, .int 0, .int 0, .int 0, .int 0, .int 0, .int 0, .int 0, .ref (qa 0), .ref (qa 1), .ref (qa 2), .ref (qa 3), .int 0, .ref (qa 4), .ref (qa 5), .ref (qa 6), .ref (qa 7), .ref (qa 8), .ref (qa 9), .ref (qa 10), .ref (qa 11), .ref (qa 12), .ref (qa 13), .ref (qa 14), .ref (qa 15), .ref (qa 16), .ref (qa 17), .ref (qa 18), .ref (qa 19), .ref (qa 20), .int 0, .int 0, .int 0, .int 0, .long 0, .long 0, .long 0, .long 0, .long 0, .ref (qa 21), .int 0, .int 0, .int 0, .int 0])), ((qa 0), .inl ((qk 0), 8192, .inl f15))] := by rw [ef15]; exact hD
  refine lv_aload_n hx hb d_Mo_four_20 rfl (lv_at hl 1 rfl) ?_
  refine lv_dup hx hb d_Mo_four_21 rfl ?_
  refine va_get (D := D) (ci := 7) (v := .int 7) (C := R_Mo) (T := F_Mo) (N := 52) hx hb hts i_Mo hown hK hP 0 rfl rfl 1 (by decide) (hts _ w_398) (fun _ h9 => h9) rfl d_Mo_four_22 ?_
  refine lv_iconst (v := 1) hx hb d_Mo_four_25 (by decide) ?_
  refine lv_iadd hx hb d_Mo_four_26 ?_
  refine lv_topi (fun z16 ez16 => ?_)
  obtain rfl : z16 = 8 := ez16.trans (by decide)
  refine va_put (D := D) (ci := 7) (v := .int 8) (ty := .int) (C := R_Mo) (T := F_Mo) (N := 52) hx hb hts i_Mo t_Mo t_Mo_ok n_Mo hown hK hP hD hS 0 rfl rfl 1 (by decide) (hts _ w_398) (fun _ h9 => h9) rfl (by decide +kernel) rfl rfl (Nat.le_of_ble_eq_true rfl) d_Mo_four_27 (fun H locs hP hD hS => ?_)
  have hP : va_P D cls [(h0, .inr (7, [.int 0, .int 8, .int 0, .int 0, .int 0, .int 0, .int (-1), .int (-1), .int 0, .int 0, .int 0, .int 0, .int 0, .int 0, .int 0, .int 0, .ref (qa 0), .ref (qa 1), .ref (qa 2), .ref (qa 3), .int 0, .ref (qa 4), .ref (qa 5), .ref (qa 6), .ref (qa 7), .ref (qa 8), .ref (qa 9), .ref (qa 10), .ref (qa 11), .ref (qa 12), .ref (qa 13), .ref (qa 14), .ref (qa 15), .ref (qa 16), .ref (qa 17), .ref (qa 18), .ref (qa 19), .ref (qa 20), .int 0, .int 0, .int 0, .int 0, .long 0, .long 0, .long 0, .long 0, .long 0, .ref (qa 21), .int 0, .int 0, .int 0, .int 0])), ((qa 0), .inl ((qk 0), 8192, .inl f15))] H := hP
  have hD : va_D A [(h0, .inr (7, [.int 0, .int 8, .int 0, .int 0, .int 0, .int 0, .int (-1), .int (-1), .int 0, .int 0, .int 0, .int 0, .int 0, .int 0, .int 0, .int 0, .ref (qa 0), .ref (qa 1), .ref (qa 2), .ref (qa 3), .int 0, .ref (qa 4), .ref (qa 5), .ref (qa 6), .ref (qa 7), .ref (qa 8), .ref (qa 9), .ref (qa 10), .ref (qa 11), .ref (qa 12), .ref (qa 13), .ref (qa 14), .ref (qa 15), .ref (qa 16), .ref (qa 17), .ref (qa 18), .ref (qa 19), .ref (qa 20), .int 0, .int 0, .int 0, .int 0, .long 0, .long 0, .long 0, .long 0, .long 0, .ref (qa 21), .int 0, .int 0, .int 0, .int 0])), ((qa 0), .inl ((qk 0), 8192, .inl f15))] := hD
  refine lv_iinc (v := (-8)) (lv' := [(2, .int (-8)), (0, .ref h0), (1, .int v)]) hx hb d_Mo_four_30 hl (k := 0) rfl (by decide) (by decide) rfl (fun ls hl => ?_)
  refine lv_goto (tgt := 3) hx hb d_Mo_four_33 (by decide) ?_
  refine lv_iload_n hx hb d_Mo_four_3 rfl (lv_at hl 0 rfl) ?_
  refine lv_if_lt (tgt := 36) hx hb d_Mo_four_4 (by decide) (fun _ => ?_) (fun q9 => absurd (by decide : (((-8) : Int32) < 0)) q9)
  exact xr_v hx hb hr hlocks hP hD hK hS (f15) [0, 1] rfl rfl (by decide) [0] rfl rfl d_Mo_four_36

set_option maxHeartbeats 4000000 in
set_option maxRecDepth 100000 in
theorem c_Mo_four_8 (l : Launch) (D : va_G) (h0 : Nat) (qa : Nat → Nat) (qk : Nat → ClassId) (f : Nat → Int32) (v : Int32) (sz : Nat) : Met l y_Mo_four (Cond.code y_Mo_four b_Mo_four 3 none :: bw) (xR 1 0 0) (va_Pc [.ref h0, .int v] (xP D [((qk 0), .byte)] sz [(h0, .inr (7, [.int 0, .int 8, .int 0, .int 0, .int 0, .int 0, .int (-1), .int (-1), .int 0, .int 0, .int 0, .int 0, .int 0, .int 0, .int 0, .int 0, .ref (qa 0), .ref (qa 1), .ref (qa 2), .ref (qa 3), .int 0, .ref (qa 4), .ref (qa 5), .ref (qa 6), .ref (qa 7), .ref (qa 8), .ref (qa 9), .ref (qa 10), .ref (qa 11), .ref (qa 12), .ref (qa 13), .ref (qa 14), .ref (qa 15), .ref (qa 16), .ref (qa 17), .ref (qa 18), .ref (qa 19), .ref (qa 20), .int 0, .int 0, .int 0, .int 0, .long 0, .long 0, .long 0, .long 0, .long 0, .ref (qa 21), .int 0, .int 0, .int 0, .int 0])), ((qa 0), .inl ((qk 0), 8192, .inl f))])) (xQ (S := (Nat → Int32)) (fun u => none) (fun u => [(h0, .inr (7, [.int 0, .int 12, .int 0, .int 0, .int 0, .int 0, .int (-1), .int (-1), .int 0, .int 0, .int 0, .int 0, .int 0, .int 0, .int 0, .int 0, .ref (qa 0), .ref (qa 1), .ref (qa 2), .ref (qa 3), .int 0, .ref (qa 4), .ref (qa 5), .ref (qa 6), .ref (qa 7), .ref (qa 8), .ref (qa 9), .ref (qa 10), .ref (qa 11), .ref (qa 12), .ref (qa 13), .ref (qa 14), .ref (qa 15), .ref (qa 16), .ref (qa 17), .ref (qa 18), .ref (qa 19), .ref (qa 20), .int 0, .int 0, .int 0, .int 0, .long 0, .long 0, .long 0, .long 0, .long 0, .ref (qa 21), .int 0, .int 0, .int 0, .int 0])), ((qa 0), .inl ((qk 0), 8192, .inl u))]) (fun u => [((qk 0), .byte)]) D (va_A [(h0, .inr (7, [.int 0, .int 8, .int 0, .int 0, .int 0, .int 0, .int (-1), .int (-1), .int 0, .int 0, .int 0, .int 0, .int 0, .int 0, .int 0, .int 0, .ref (qa 0), .ref (qa 1), .ref (qa 2), .ref (qa 3), .int 0, .ref (qa 4), .ref (qa 5), .ref (qa 6), .ref (qa 7), .ref (qa 8), .ref (qa 9), .ref (qa 10), .ref (qa 11), .ref (qa 12), .ref (qa 13), .ref (qa 14), .ref (qa 15), .ref (qa 16), .ref (qa 17), .ref (qa 18), .ref (qa 19), .ref (qa 20), .int 0, .int 0, .int 0, .int 0, .long 0, .long 0, .long 0, .long 0, .long 0, .ref (qa 21), .int 0, .int 0, .int 0, .int 0])), ((qa 0), .inl ((qk 0), 8192, .inl f))] sz)) 0 0 (va_A [(h0, .inr (7, [.int 0, .int 8, .int 0, .int 0, .int 0, .int 0, .int (-1), .int (-1), .int 0, .int 0, .int 0, .int 0, .int 0, .int 0, .int 0, .int 0, .ref (qa 0), .ref (qa 1), .ref (qa 2), .ref (qa 3), .int 0, .ref (qa 4), .ref (qa 5), .ref (qa 6), .ref (qa 7), .ref (qa 8), .ref (qa 9), .ref (qa 10), .ref (qa 11), .ref (qa 12), .ref (qa 13), .ref (qa 14), .ref (qa 15), .ref (qa 16), .ref (qa 17), .ref (qa 18), .ref (qa 19), .ref (qa 20), .int 0, .int 0, .int 0, .int 0, .long 0, .long 0, .long 0, .long 0, .long 0, .ref (qa 21), .int 0, .int 0, .int 0, .int 0])), ((qa 0), .inl ((qk 0), 8192, .inl f))] sz) := by
  refine Met.ofW (cc := b_Mo_four) (maxL := 3) (ret := none) (by decide) rfl ?_
  intro p e s m args below meth c s₁ B hml hv
  obtain ⟨rfl, hsz, hP, hK, hD0, hN, hZ⟩ := hv
  have hx := B.exec
  have hb := B.bytes
  have hr := B.returns
  have hlocks := B.notSynchronized
  have hts : ∀ w ∈ bw, w.before _ s = true := fun w h => atoms_spec (ws := Cond.code y_Mo_four b_Mo_four 3 none :: bw) B.pre w (List.mem_cons_of_mem _ h)
  have hown : s.vm.findClass "ObjectForgeModel" = some m.cls := findClass_of_methodNamed B.named
  subst hsz
  have hP0 := hP
  have hD := hD0.self (sz := s.heap.size)
  generalize hAe : va_A [(h0, .inr (7, [.int 0, .int 8, .int 0, .int 0, .int 0, .int 0, .int (-1), .int (-1), .int 0, .int 0, .int 0, .int 0, .int 0, .int 0, .int 0, .int 0, .ref (qa 0), .ref (qa 1), .ref (qa 2), .ref (qa 3), .int 0, .ref (qa 4), .ref (qa 5), .ref (qa 6), .ref (qa 7), .ref (qa 8), .ref (qa 9), .ref (qa 10), .ref (qa 11), .ref (qa 12), .ref (qa 13), .ref (qa 14), .ref (qa 15), .ref (qa 16), .ref (qa 17), .ref (qa 18), .ref (qa 19), .ref (qa 20), .int 0, .int 0, .int 0, .int 0, .long 0, .long 0, .long 0, .long 0, .long 0, .ref (qa 21), .int 0, .int 0, .int 0, .int 0])), ((qa 0), .inl ((qk 0), 8192, .inl f))] s.heap.size = A at hD hZ ⊢
  have hA : ∀ q : Nat, s.heap.size ≤ q → A q := fun q h => by rw [← hAe]; exact Or.inr h
  have hS : va_S A s.heap s.heap [] := va_S.rf
  have hl := lv_entry ([.ref h0, .int v]) (n := 3) (Nat.le_of_ble_eq_true rfl)
  rw [lg_entry_eq]
  generalize (lg_sl ([.ref h0, .int v]) ++ List.replicate (3 - (lg_sl ([.ref h0, .int v])).length) Slot.unset).toArray = ls at hl ⊢
  have hl : lv_has ls 3 [(0, .ref h0), (1, .int v)] := hl
  refine lv_bipush (v := 24) hx hb d_Mo_four_0 (by decide) ?_
  refine lv_istore_n (lv' := [(2, .int 24), (0, .ref h0), (1, .int v)]) hx hb d_Mo_four_2 rfl hl (by decide) rfl (fun ls hl => ?_)
  refine lv_iload_n hx hb d_Mo_four_3 rfl (lv_at hl 0 rfl) ?_
  refine lv_if_lt (tgt := 36) hx hb d_Mo_four_4 (by decide) (fun q9 => absurd q9 (by decide : ¬ ((24 : Int32) < 0))) (fun _ => ?_)
  refine lv_aload_n hx hb d_Mo_four_7 rfl (lv_at hl 1 rfl) ?_
  refine va_get (D := D) (ci := 7) (v := .ref (qa 0)) (C := R_Mo) (T := F_Mo) (N := 52) hx hb hts i_Mo hown hK hP 0 rfl rfl 16 (by decide) (hts _ w_399) (fun _ h9 => h9) rfl d_Mo_four_8 ?_
  refine lv_aload_n hx hb d_Mo_four_11 rfl (lv_at hl 1 rfl) ?_
  refine va_get (D := D) (ci := 7) (v := .int 8) (C := R_Mo) (T := F_Mo) (N := 52) hx hb hts i_Mo hown hK hP 0 rfl rfl 1 (by decide) (hts _ w_398) (fun _ h9 => h9) rfl d_Mo_four_12 ?_
  refine lv_iload_n hx hb d_Mo_four_15 rfl (lv_at hl 2 rfl) ?_
  refine lv_iload_n hx hb d_Mo_four_16 rfl (lv_at hl 0 rfl) ?_
  refine lv_ishr hx hb d_Mo_four_17 ?_
  refine lv_topi (fun z1 _ => ?_)
  refine lv_i2b hx hb d_Mo_four_18 rfl ?_
  refine lv_topi (fun z2 _ => ?_)
  refine va_bast hx hb hK hP hD hS 1 0 rfl rfl (by unfold vp_in; decide) d_Mo_four_19 (fun H locs hP hD hS => ?_)
  obtain ⟨f3, ef3⟩ : ∃ z : Nat → Int32, z = (upd f (8 : Int32).toNatClampNeg (vp_nar .byte z2)) := ⟨_, rfl⟩
  have hP : va_P D cls [(h0, .inr (7, [.int 0, .int 8, .int 0, .int 0, .int 0, .int 0, .int (-1), .int (-1), .int 0, .int 0, .int 0, .int 0, .int 0, .int 0, .int 0, .int 0, .ref (qa 0), .ref (qa 1), .ref (qa 2), .ref (qa 3), .int 0, .ref (qa 4), .ref (qa 5), .ref (qa 6), .ref (qa 7), .ref (qa 8), .ref (qa 9), .ref (qa 10), .ref (qa 11), .ref (qa 12), .ref (qa 13), .ref (qa 14), .ref (qa 15), .ref (qa 16), .ref (qa 17), .ref (qa 18), .ref (qa 19), .ref (qa 20), .int 0, .int 0, .int 0, .int 0, .long 0, .long 0, .long 0, .long 0, .long 0, .ref (qa 21), .int 0, .int 0, .int 0, .int 0])), ((qa 0), .inl ((qk 0), 8192, .inl f3))] H := by rw [ef3]; exact hP
  have hD : va_D A [(h0, .inr (7, [.int 0, .int 8, .int 0, .int 0, .int 0, .int 0, .int (-1), .int (-1), .int 0, .int 0, .int 0, .int 0, .int 0, .int 0, .int 0, .int 0, .ref (qa 0), .ref (qa 1), .ref (qa 2), .ref (qa 3), .int 0, .ref (qa 4), .ref (qa 5), .ref (qa 6), .ref (qa 7), .ref (qa 8), .ref (qa 9), .ref (qa 10), .ref (qa 11), .ref (qa 12), .ref (qa 13), .ref (qa 14), .ref (qa 15), .ref (qa 16), .ref (qa 17), .ref (qa 18), .ref (qa 19), .ref (qa 20), .int 0, .int 0, .int 0, .int 0, .long 0, .long 0, .long 0, .long 0, .long 0, .ref (qa 21), .int 0, .int 0, .int 0, .int 0])), ((qa 0), .inl ((qk 0), 8192, .inl f3))] := by rw [ef3]; exact hD
  refine lv_aload_n hx hb d_Mo_four_20 rfl (lv_at hl 1 rfl) ?_
  refine lv_dup hx hb d_Mo_four_21 rfl ?_
  refine va_get (D := D) (ci := 7) (v := .int 8) (C := R_Mo) (T := F_Mo) (N := 52) hx hb hts i_Mo hown hK hP 0 rfl rfl 1 (by decide) (hts _ w_398) (fun _ h9 => h9) rfl d_Mo_four_22 ?_
  refine lv_iconst (v := 1) hx hb d_Mo_four_25 (by decide) ?_
  refine lv_iadd hx hb d_Mo_four_26 ?_
  refine lv_topi (fun z4 ez4 => ?_)
  obtain rfl : z4 = 9 := ez4.trans (by decide)
  refine va_put (D := D) (ci := 7) (v := .int 9) (ty := .int) (C := R_Mo) (T := F_Mo) (N := 52) hx hb hts i_Mo t_Mo t_Mo_ok n_Mo hown hK hP hD hS 0 rfl rfl 1 (by decide) (hts _ w_398) (fun _ h9 => h9) rfl (by decide +kernel) rfl rfl (Nat.le_of_ble_eq_true rfl) d_Mo_four_27 (fun H locs hP hD hS => ?_)
  have hP : va_P D cls [(h0, .inr (7, [.int 0, .int 9, .int 0, .int 0, .int 0, .int 0, .int (-1), .int (-1), .int 0, .int 0, .int 0, .int 0, .int 0, .int 0, .int 0, .int 0, .ref (qa 0), .ref (qa 1), .ref (qa 2), .ref (qa 3), .int 0, .ref (qa 4), .ref (qa 5), .ref (qa 6), .ref (qa 7), .ref (qa 8), .ref (qa 9), .ref (qa 10), .ref (qa 11), .ref (qa 12), .ref (qa 13), .ref (qa 14), .ref (qa 15), .ref (qa 16), .ref (qa 17), .ref (qa 18), .ref (qa 19), .ref (qa 20), .int 0, .int 0, .int 0, .int 0, .long 0, .long 0, .long 0, .long 0, .long 0, .ref (qa 21), .int 0, .int 0, .int 0, .int 0])), ((qa 0), .inl ((qk 0), 8192, .inl f3))] H := hP
  have hD : va_D A [(h0, .inr (7, [.int 0, .int 9, .int 0, .int 0, .int 0, .int 0, .int (-1), .int (-1), .int 0, .int 0, .int 0, .int 0, .int 0, .int 0, .int 0, .int 0, .ref (qa 0), .ref (qa 1), .ref (qa 2), .ref (qa 3), .int 0, .ref (qa 4), .ref (qa 5), .ref (qa 6), .ref (qa 7), .ref (qa 8), .ref (qa 9), .ref (qa 10), .ref (qa 11), .ref (qa 12), .ref (qa 13), .ref (qa 14), .ref (qa 15), .ref (qa 16), .ref (qa 17), .ref (qa 18), .ref (qa 19), .ref (qa 20), .int 0, .int 0, .int 0, .int 0, .long 0, .long 0, .long 0, .long 0, .long 0, .ref (qa 21), .int 0, .int 0, .int 0, .int 0])), ((qa 0), .inl ((qk 0), 8192, .inl f3))] := hD
  refine lv_iinc (v := 16) (lv' := [(2, .int 16), (0, .ref h0), (1, .int v)]) hx hb d_Mo_four_30 hl (k := 0) rfl (by decide) (by decide) rfl (fun ls hl => ?_)
  refine lv_goto (tgt := 3) hx hb d_Mo_four_33 (by decide) ?_
  refine lv_iload_n hx hb d_Mo_four_3 rfl (lv_at hl 0 rfl) ?_
  refine lv_if_lt (tgt := 36) hx hb d_Mo_four_4 (by decide) (fun q9 => absurd q9 (by decide : ¬ ((16 : Int32) < 0))) (fun _ => ?_)
  refine lv_aload_n hx hb d_Mo_four_7 rfl (lv_at hl 1 rfl) ?_
  refine va_get (D := D) (ci := 7) (v := .ref (qa 0)) (C := R_Mo) (T := F_Mo) (N := 52) hx hb hts i_Mo hown hK hP 0 rfl rfl 16 (by decide) (hts _ w_399) (fun _ h9 => h9) rfl d_Mo_four_8 ?_
  refine lv_aload_n hx hb d_Mo_four_11 rfl (lv_at hl 1 rfl) ?_
  refine va_get (D := D) (ci := 7) (v := .int 9) (C := R_Mo) (T := F_Mo) (N := 52) hx hb hts i_Mo hown hK hP 0 rfl rfl 1 (by decide) (hts _ w_398) (fun _ h9 => h9) rfl d_Mo_four_12 ?_
  refine lv_iload_n hx hb d_Mo_four_15 rfl (lv_at hl 2 rfl) ?_
  refine lv_iload_n hx hb d_Mo_four_16 rfl (lv_at hl 0 rfl) ?_
  refine lv_ishr hx hb d_Mo_four_17 ?_
  refine lv_topi (fun z5 _ => ?_)
  refine lv_i2b hx hb d_Mo_four_18 rfl ?_
  refine lv_topi (fun z6 _ => ?_)
  refine va_bast hx hb hK hP hD hS 1 0 rfl rfl (by unfold vp_in; decide) d_Mo_four_19 (fun H locs hP hD hS => ?_)
  obtain ⟨f7, ef7⟩ : ∃ z : Nat → Int32, z = (upd f3 (9 : Int32).toNatClampNeg (vp_nar .byte z6)) := ⟨_, rfl⟩
  have hP : va_P D cls [(h0, .inr (7, [.int 0, .int 9, .int 0, .int 0, .int 0, .int 0, .int (-1), .int (-1), .int 0, .int 0, .int 0, .int 0, .int 0, .int 0, .int 0, .int 0, .ref (qa 0), .ref (qa 1), .ref (qa 2), .ref (qa 3), .int 0, .ref (qa 4), .ref (qa 5), .ref (qa 6), .ref (qa 7), .ref (qa 8), .ref (qa 9), .ref (qa 10), .ref (qa 11), .ref (qa 12), .ref (qa 13), .ref (qa 14), .ref (qa 15), .ref (qa 16), .ref (qa 17), .ref (qa 18), .ref (qa 19), .ref (qa 20), .int 0, .int 0, .int 0, .int 0, .long 0, .long 0, .long 0, .long 0, .long 0, .ref (qa 21), .int 0, .int 0, .int 0, .int 0])), ((qa 0), .inl ((qk 0), 8192, .inl f7))] H := by rw [ef7]; exact hP
  have hD : va_D A [(h0, .inr (7, [.int 0, .int 9, .int 0, .int 0, .int 0, .int 0, .int (-1), .int (-1), .int 0, .int 0, .int 0, .int 0, .int 0, .int 0, .int 0, .int 0, .ref (qa 0), .ref (qa 1), .ref (qa 2), .ref (qa 3), .int 0, .ref (qa 4), .ref (qa 5), .ref (qa 6), .ref (qa 7), .ref (qa 8), .ref (qa 9), .ref (qa 10), .ref (qa 11), .ref (qa 12), .ref (qa 13), .ref (qa 14), .ref (qa 15), .ref (qa 16), .ref (qa 17), .ref (qa 18), .ref (qa 19), .ref (qa 20), .int 0, .int 0, .int 0, .int 0, .long 0, .long 0, .long 0, .long 0, .long 0, .ref (qa 21), .int 0, .int 0, .int 0, .int 0])), ((qa 0), .inl ((qk 0), 8192, .inl f7))] := by rw [ef7]; exact hD
  refine lv_aload_n hx hb d_Mo_four_20 rfl (lv_at hl 1 rfl) ?_
  refine lv_dup hx hb d_Mo_four_21 rfl ?_
  refine va_get (D := D) (ci := 7) (v := .int 9) (C := R_Mo) (T := F_Mo) (N := 52) hx hb hts i_Mo hown hK hP 0 rfl rfl 1 (by decide) (hts _ w_398) (fun _ h9 => h9) rfl d_Mo_four_22 ?_
  refine lv_iconst (v := 1) hx hb d_Mo_four_25 (by decide) ?_
  refine lv_iadd hx hb d_Mo_four_26 ?_
  refine lv_topi (fun z8 ez8 => ?_)
  obtain rfl : z8 = 10 := ez8.trans (by decide)
  refine va_put (D := D) (ci := 7) (v := .int 10) (ty := .int) (C := R_Mo) (T := F_Mo) (N := 52) hx hb hts i_Mo t_Mo t_Mo_ok n_Mo hown hK hP hD hS 0 rfl rfl 1 (by decide) (hts _ w_398) (fun _ h9 => h9) rfl (by decide +kernel) rfl rfl (Nat.le_of_ble_eq_true rfl) d_Mo_four_27 (fun H locs hP hD hS => ?_)
  have hP : va_P D cls [(h0, .inr (7, [.int 0, .int 10, .int 0, .int 0, .int 0, .int 0, .int (-1), .int (-1), .int 0, .int 0, .int 0, .int 0, .int 0, .int 0, .int 0, .int 0, .ref (qa 0), .ref (qa 1), .ref (qa 2), .ref (qa 3), .int 0, .ref (qa 4), .ref (qa 5), .ref (qa 6), .ref (qa 7), .ref (qa 8), .ref (qa 9), .ref (qa 10), .ref (qa 11), .ref (qa 12), .ref (qa 13), .ref (qa 14), .ref (qa 15), .ref (qa 16), .ref (qa 17), .ref (qa 18), .ref (qa 19), .ref (qa 20), .int 0, .int 0, .int 0, .int 0, .long 0, .long 0, .long 0, .long 0, .long 0, .ref (qa 21), .int 0, .int 0, .int 0, .int 0])), ((qa 0), .inl ((qk 0), 8192, .inl f7))] H := hP
  have hD : va_D A [(h0, .inr (7, [.int 0, .int 10, .int 0, .int 0, .int 0, .int 0, .int (-1), .int (-1), .int 0, .int 0, .int 0, .int 0, .int 0, .int 0, .int 0, .int 0, .ref (qa 0), .ref (qa 1), .ref (qa 2), .ref (qa 3), .int 0, .ref (qa 4), .ref (qa 5), .ref (qa 6), .ref (qa 7), .ref (qa 8), .ref (qa 9), .ref (qa 10), .ref (qa 11), .ref (qa 12), .ref (qa 13), .ref (qa 14), .ref (qa 15), .ref (qa 16), .ref (qa 17), .ref (qa 18), .ref (qa 19), .ref (qa 20), .int 0, .int 0, .int 0, .int 0, .long 0, .long 0, .long 0, .long 0, .long 0, .ref (qa 21), .int 0, .int 0, .int 0, .int 0])), ((qa 0), .inl ((qk 0), 8192, .inl f7))] := hD
  refine lv_iinc (v := 8) (lv' := [(2, .int 8), (0, .ref h0), (1, .int v)]) hx hb d_Mo_four_30 hl (k := 0) rfl (by decide) (by decide) rfl (fun ls hl => ?_)
  refine lv_goto (tgt := 3) hx hb d_Mo_four_33 (by decide) ?_
  refine lv_iload_n hx hb d_Mo_four_3 rfl (lv_at hl 0 rfl) ?_
  refine lv_if_lt (tgt := 36) hx hb d_Mo_four_4 (by decide) (fun q9 => absurd q9 (by decide : ¬ ((8 : Int32) < 0))) (fun _ => ?_)
  refine lv_aload_n hx hb d_Mo_four_7 rfl (lv_at hl 1 rfl) ?_
  refine va_get (D := D) (ci := 7) (v := .ref (qa 0)) (C := R_Mo) (T := F_Mo) (N := 52) hx hb hts i_Mo hown hK hP 0 rfl rfl 16 (by decide) (hts _ w_399) (fun _ h9 => h9) rfl d_Mo_four_8 ?_
  refine lv_aload_n hx hb d_Mo_four_11 rfl (lv_at hl 1 rfl) ?_
  refine va_get (D := D) (ci := 7) (v := .int 10) (C := R_Mo) (T := F_Mo) (N := 52) hx hb hts i_Mo hown hK hP 0 rfl rfl 1 (by decide) (hts _ w_398) (fun _ h9 => h9) rfl d_Mo_four_12 ?_
  refine lv_iload_n hx hb d_Mo_four_15 rfl (lv_at hl 2 rfl) ?_
  refine lv_iload_n hx hb d_Mo_four_16 rfl (lv_at hl 0 rfl) ?_
  refine lv_ishr hx hb d_Mo_four_17 ?_
  refine lv_topi (fun z9 _ => ?_)
  refine lv_i2b hx hb d_Mo_four_18 rfl ?_
  refine lv_topi (fun z10 _ => ?_)
  refine va_bast hx hb hK hP hD hS 1 0 rfl rfl (by unfold vp_in; decide) d_Mo_four_19 (fun H locs hP hD hS => ?_)
  obtain ⟨f11, ef11⟩ : ∃ z : Nat → Int32, z = (upd f7 (10 : Int32).toNatClampNeg (vp_nar .byte z10)) := ⟨_, rfl⟩
  have hP : va_P D cls [(h0, .inr (7, [.int 0, .int 10, .int 0, .int 0, .int 0, .int 0, .int (-1), .int (-1), .int 0, .int 0, .int 0, .int 0, .int 0, .int 0, .int 0, .int 0, .ref (qa 0), .ref (qa 1), .ref (qa 2), .ref (qa 3), .int 0, .ref (qa 4), .ref (qa 5), .ref (qa 6), .ref (qa 7), .ref (qa 8), .ref (qa 9), .ref (qa 10), .ref (qa 11), .ref (qa 12), .ref (qa 13), .ref (qa 14), .ref (qa 15), .ref (qa 16), .ref (qa 17), .ref (qa 18), .ref (qa 19), .ref (qa 20), .int 0, .int 0, .int 0, .int 0, .long 0, .long 0, .long 0, .long 0, .long 0, .ref (qa 21), .int 0, .int 0, .int 0, .int 0])), ((qa 0), .inl ((qk 0), 8192, .inl f11))] H := by rw [ef11]; exact hP
  have hD : va_D A [(h0, .inr (7, [.int 0, .int 10, .int 0, .int 0, .int 0, .int 0, .int (-1), .int (-1), .int 0, .int 0, .int 0, .int 0, .int 0, .int 0, .int 0, .int 0, .ref (qa 0), .ref (qa 1), .ref (qa 2), .ref (qa 3), .int 0, .ref (qa 4), .ref (qa 5), .ref (qa 6), .ref (qa 7), .ref (qa 8), .ref (qa 9), .ref (qa 10), .ref (qa 11), .ref (qa 12), .ref (qa 13), .ref (qa 14), .ref (qa 15), .ref (qa 16), .ref (qa 17), .ref (qa 18), .ref (qa 19), .ref (qa 20), .int 0, .int 0, .int 0, .int 0, .long 0, .long 0, .long 0, .long 0, .long 0, .ref (qa 21), .int 0, .int 0, .int 0, .int 0])), ((qa 0), .inl ((qk 0), 8192, .inl f11))] := by rw [ef11]; exact hD
  refine lv_aload_n hx hb d_Mo_four_20 rfl (lv_at hl 1 rfl) ?_
  refine lv_dup hx hb d_Mo_four_21 rfl ?_
  refine va_get (D := D) (ci := 7) (v := .int 10) (C := R_Mo) (T := F_Mo) (N := 52) hx hb hts i_Mo hown hK hP 0 rfl rfl 1 (by decide) (hts _ w_398) (fun _ h9 => h9) rfl d_Mo_four_22 ?_
  refine lv_iconst (v := 1) hx hb d_Mo_four_25 (by decide) ?_
  refine lv_iadd hx hb d_Mo_four_26 ?_
  refine lv_topi (fun z12 ez12 => ?_)
  obtain rfl : z12 = 11 := ez12.trans (by decide)
  refine va_put (D := D) (ci := 7) (v := .int 11) (ty := .int) (C := R_Mo) (T := F_Mo) (N := 52) hx hb hts i_Mo t_Mo t_Mo_ok n_Mo hown hK hP hD hS 0 rfl rfl 1 (by decide) (hts _ w_398) (fun _ h9 => h9) rfl (by decide +kernel) rfl rfl (Nat.le_of_ble_eq_true rfl) d_Mo_four_27 (fun H locs hP hD hS => ?_)
  have hP : va_P D cls [(h0, .inr (7, [.int 0, .int 11, .int 0, .int 0, .int 0, .int 0, .int (-1), .int (-1), .int 0, .int 0, .int 0, .int 0, .int 0, .int 0, .int 0, .int 0, .ref (qa 0), .ref (qa 1), .ref (qa 2), .ref (qa 3), .int 0, .ref (qa 4), .ref (qa 5), .ref (qa 6), .ref (qa 7), .ref (qa 8), .ref (qa 9), .ref (qa 10), .ref (qa 11), .ref (qa 12), .ref (qa 13), .ref (qa 14), .ref (qa 15), .ref (qa 16), .ref (qa 17), .ref (qa 18), .ref (qa 19), .ref (qa 20), .int 0, .int 0, .int 0, .int 0, .long 0, .long 0, .long 0, .long 0, .long 0, .ref (qa 21), .int 0, .int 0, .int 0, .int 0])), ((qa 0), .inl ((qk 0), 8192, .inl f11))] H := hP
  have hD : va_D A [(h0, .inr (7, [.int 0, .int 11, .int 0, .int 0, .int 0, .int 0, .int (-1), .int (-1), .int 0, .int 0, .int 0, .int 0, .int 0, .int 0, .int 0, .int 0, .ref (qa 0), .ref (qa 1), .ref (qa 2), .ref (qa 3), .int 0, .ref (qa 4), .ref (qa 5), .ref (qa 6), .ref (qa 7), .ref (qa 8), .ref (qa 9), .ref (qa 10), .ref (qa 11), .ref (qa 12), .ref (qa 13), .ref (qa 14), .ref (qa 15), .ref (qa 16), .ref (qa 17), .ref (qa 18), .ref (qa 19), .ref (qa 20), .int 0, .int 0, .int 0, .int 0, .long 0, .long 0, .long 0, .long 0, .long 0, .ref (qa 21), .int 0, .int 0, .int 0, .int 0])), ((qa 0), .inl ((qk 0), 8192, .inl f11))] := hD
  refine lv_iinc (v := 0) (lv' := [(2, .int 0), (0, .ref h0), (1, .int v)]) hx hb d_Mo_four_30 hl (k := 0) rfl (by decide) (by decide) rfl (fun ls hl => ?_)
  refine lv_goto (tgt := 3) hx hb d_Mo_four_33 (by decide) ?_
  refine lv_iload_n hx hb d_Mo_four_3 rfl (lv_at hl 0 rfl) ?_
  refine lv_if_lt (tgt := 36) hx hb d_Mo_four_4 (by decide) (fun q9 => absurd q9 (by decide : ¬ ((0 : Int32) < 0))) (fun _ => ?_)
  refine lv_aload_n hx hb d_Mo_four_7 rfl (lv_at hl 1 rfl) ?_
  refine va_get (D := D) (ci := 7) (v := .ref (qa 0)) (C := R_Mo) (T := F_Mo) (N := 52) hx hb hts i_Mo hown hK hP 0 rfl rfl 16 (by decide) (hts _ w_399) (fun _ h9 => h9) rfl d_Mo_four_8 ?_
  refine lv_aload_n hx hb d_Mo_four_11 rfl (lv_at hl 1 rfl) ?_
  refine va_get (D := D) (ci := 7) (v := .int 11) (C := R_Mo) (T := F_Mo) (N := 52) hx hb hts i_Mo hown hK hP 0 rfl rfl 1 (by decide) (hts _ w_398) (fun _ h9 => h9) rfl d_Mo_four_12 ?_
  refine lv_iload_n hx hb d_Mo_four_15 rfl (lv_at hl 2 rfl) ?_
  refine lv_iload_n hx hb d_Mo_four_16 rfl (lv_at hl 0 rfl) ?_
  refine lv_ishr hx hb d_Mo_four_17 ?_
  refine lv_topi (fun z13 _ => ?_)
  refine lv_i2b hx hb d_Mo_four_18 rfl ?_
  refine lv_topi (fun z14 _ => ?_)
  refine va_bast hx hb hK hP hD hS 1 0 rfl rfl (by unfold vp_in; decide) d_Mo_four_19 (fun H locs hP hD hS => ?_)
  obtain ⟨f15, ef15⟩ : ∃ z : Nat → Int32, z = (upd f11 (11 : Int32).toNatClampNeg (vp_nar .byte z14)) := ⟨_, rfl⟩
  have hP : va_P D cls [(h0, .inr (7, [.int 0, .int 11, .int 0, .int 0, .int 0, .int 0, .int (-1), .int (-1), .int 0, .int 0, .int 0, .int 0, .int 0, .int 0, .int 0, .int 0, .ref (qa 0), .ref (qa 1), .ref (qa 2), .ref (qa 3), .int 0, .ref (qa 4), .ref (qa 5), .ref (qa 6), .ref (qa 7), .ref (qa 8), .ref (qa 9), .ref (qa 10), .ref (qa 11), .ref (qa 12), .ref (qa 13), .ref (qa 14), .ref (qa 15), .ref (qa 16), .ref (qa 17), .ref (qa 18), .ref (qa 19), .ref (qa 20), .int 0, .int 0, .int 0, .int 0, .long 0, .long 0, .long 0, .long 0, .long 0, .ref (qa 21), .int 0, .int 0, .int 0, .int 0])), ((qa 0), .inl ((qk 0), 8192, .inl f15))] H := by rw [ef15]; exact hP
  have hD : va_D A [(h0, .inr (7, [.int 0, .int 11, .int 0, .int 0, .int 0, .int 0, .int (-1), .int (-1), .int 0, .int 0, .int 0, .int 0, .int 0, .int 0, .int 0, .int 0, .ref (qa 0), .ref (qa 1), .ref (qa 2), .ref (qa 3), .int 0, .ref (qa 4), .ref (qa 5), .ref (qa 6), .ref (qa 7), .ref (qa 8), .ref (qa 9), .ref (qa 10), .ref (qa 11), .ref (qa 12), .ref (qa 13), .ref (qa 14), .ref (qa 15), .ref (qa 16), .ref (qa 17), .ref (qa 18), .ref (qa 19), .ref (qa 20), .int 0, .int 0, .int 0, .int 0, .long 0, .long 0, .long 0, .long 0, .long 0, .ref (qa 21), .int 0, .int 0, .int 0, .int 0])), ((qa 0), .inl ((qk 0), 8192, .inl f15))] := by rw [ef15]; exact hD
  refine lv_aload_n hx hb d_Mo_four_20 rfl (lv_at hl 1 rfl) ?_
  refine lv_dup hx hb d_Mo_four_21 rfl ?_
  refine va_get (D := D) (ci := 7) (v := .int 11) (C := R_Mo) (T := F_Mo) (N := 52) hx hb hts i_Mo hown hK hP 0 rfl rfl 1 (by decide) (hts _ w_398) (fun _ h9 => h9) rfl d_Mo_four_22 ?_
  refine lv_iconst (v := 1) hx hb d_Mo_four_25 (by decide) ?_
  refine lv_iadd hx hb d_Mo_four_26 ?_
  refine lv_topi (fun z16 ez16 => ?_)
  obtain rfl : z16 = 12 := ez16.trans (by decide)
  refine va_put (D := D) (ci := 7) (v := .int 12) (ty := .int) (C := R_Mo) (T := F_Mo) (N := 52) hx hb hts i_Mo t_Mo t_Mo_ok n_Mo hown hK hP hD hS 0 rfl rfl 1 (by decide) (hts _ w_398) (fun _ h9 => h9) rfl (by decide +kernel) rfl rfl (Nat.le_of_ble_eq_true rfl) d_Mo_four_27 (fun H locs hP hD hS => ?_)
  have hP : va_P D cls [(h0, .inr (7, [.int 0, .int 12, .int 0, .int 0, .int 0, .int 0, .int (-1), .int (-1), .int 0, .int 0, .int 0, .int 0, .int 0, .int 0, .int 0, .int 0, .ref (qa 0), .ref (qa 1), .ref (qa 2), .ref (qa 3), .int 0, .ref (qa 4), .ref (qa 5), .ref (qa 6), .ref (qa 7), .ref (qa 8), .ref (qa 9), .ref (qa 10), .ref (qa 11), .ref (qa 12), .ref (qa 13), .ref (qa 14), .ref (qa 15), .ref (qa 16), .ref (qa 17), .ref (qa 18), .ref (qa 19), .ref (qa 20), .int 0, .int 0, .int 0, .int 0, .long 0, .long 0, .long 0, .long 0, .long 0, .ref (qa 21), .int 0, .int 0, .int 0, .int 0])), ((qa 0), .inl ((qk 0), 8192, .inl f15))] H := hP
  have hD : va_D A [(h0, .inr (7, [.int 0, .int 12, .int 0, .int 0, .int 0, .int 0, .int (-1), .int (-1), .int 0, .int 0, .int 0, .int 0, .int 0, .int 0, .int 0, .int 0, .ref (qa 0), .ref (qa 1), .ref (qa 2), .ref (qa 3), .int 0, .ref (qa 4), .ref (qa 5), .ref (qa 6), .ref (qa 7), .ref (qa 8), .ref (qa 9), .ref (qa 10), .ref (qa 11), .ref (qa 12), .ref (qa 13), .ref (qa 14), .ref (qa 15), .ref (qa 16), .ref (qa 17), .ref (qa 18), .ref (qa 19), .ref (qa 20), .int 0, .int 0, .int 0, .int 0, .long 0, .long 0, .long 0, .long 0, .long 0, .ref (qa 21), .int 0, .int 0, .int 0, .int 0])), ((qa 0), .inl ((qk 0), 8192, .inl f15))] := hD
  refine lv_iinc (v := (-8)) (lv' := [(2, .int (-8)), (0, .ref h0), (1, .int v)]) hx hb d_Mo_four_30 hl (k := 0) rfl (by decide) (by decide) rfl (fun ls hl => ?_)
  refine lv_goto (tgt := 3) hx hb d_Mo_four_33 (by decide) ?_
  refine lv_iload_n hx hb d_Mo_four_3 rfl (lv_at hl 0 rfl) ?_
  refine lv_if_lt (tgt := 36) hx hb d_Mo_four_4 (by decide) (fun _ => ?_) (fun q9 => absurd (by decide : (((-8) : Int32) < 0)) q9)
  exact xr_v hx hb hr hlocks hP hD hK hS (f15) [0, 1] rfl rfl (by decide) [0] rfl rfl d_Mo_four_36

set_option maxHeartbeats 4000000 in
set_option maxRecDepth 100000 in
theorem c_Mo_four_12 (l : Launch) (D : va_G) (h0 : Nat) (qa : Nat → Nat) (qk : Nat → ClassId) (f : Nat → Int32) (v : Int32) (sz : Nat) : Met l y_Mo_four (Cond.code y_Mo_four b_Mo_four 3 none :: bw) (xR 1 0 0) (va_Pc [.ref h0, .int v] (xP D [((qk 0), .byte)] sz [(h0, .inr (7, [.int 0, .int 12, .int 0, .int 0, .int 0, .int 0, .int (-1), .int (-1), .int 0, .int 0, .int 0, .int 0, .int 0, .int 0, .int 0, .int 0, .ref (qa 0), .ref (qa 1), .ref (qa 2), .ref (qa 3), .int 0, .ref (qa 4), .ref (qa 5), .ref (qa 6), .ref (qa 7), .ref (qa 8), .ref (qa 9), .ref (qa 10), .ref (qa 11), .ref (qa 12), .ref (qa 13), .ref (qa 14), .ref (qa 15), .ref (qa 16), .ref (qa 17), .ref (qa 18), .ref (qa 19), .ref (qa 20), .int 0, .int 0, .int 0, .int 0, .long 0, .long 0, .long 0, .long 0, .long 0, .ref (qa 21), .int 0, .int 0, .int 0, .int 0])), ((qa 0), .inl ((qk 0), 8192, .inl f))])) (xQ (S := (Nat → Int32)) (fun u => none) (fun u => [(h0, .inr (7, [.int 0, .int 16, .int 0, .int 0, .int 0, .int 0, .int (-1), .int (-1), .int 0, .int 0, .int 0, .int 0, .int 0, .int 0, .int 0, .int 0, .ref (qa 0), .ref (qa 1), .ref (qa 2), .ref (qa 3), .int 0, .ref (qa 4), .ref (qa 5), .ref (qa 6), .ref (qa 7), .ref (qa 8), .ref (qa 9), .ref (qa 10), .ref (qa 11), .ref (qa 12), .ref (qa 13), .ref (qa 14), .ref (qa 15), .ref (qa 16), .ref (qa 17), .ref (qa 18), .ref (qa 19), .ref (qa 20), .int 0, .int 0, .int 0, .int 0, .long 0, .long 0, .long 0, .long 0, .long 0, .ref (qa 21), .int 0, .int 0, .int 0, .int 0])), ((qa 0), .inl ((qk 0), 8192, .inl u))]) (fun u => [((qk 0), .byte)]) D (va_A [(h0, .inr (7, [.int 0, .int 12, .int 0, .int 0, .int 0, .int 0, .int (-1), .int (-1), .int 0, .int 0, .int 0, .int 0, .int 0, .int 0, .int 0, .int 0, .ref (qa 0), .ref (qa 1), .ref (qa 2), .ref (qa 3), .int 0, .ref (qa 4), .ref (qa 5), .ref (qa 6), .ref (qa 7), .ref (qa 8), .ref (qa 9), .ref (qa 10), .ref (qa 11), .ref (qa 12), .ref (qa 13), .ref (qa 14), .ref (qa 15), .ref (qa 16), .ref (qa 17), .ref (qa 18), .ref (qa 19), .ref (qa 20), .int 0, .int 0, .int 0, .int 0, .long 0, .long 0, .long 0, .long 0, .long 0, .ref (qa 21), .int 0, .int 0, .int 0, .int 0])), ((qa 0), .inl ((qk 0), 8192, .inl f))] sz)) 0 0 (va_A [(h0, .inr (7, [.int 0, .int 12, .int 0, .int 0, .int 0, .int 0, .int (-1), .int (-1), .int 0, .int 0, .int 0, .int 0, .int 0, .int 0, .int 0, .int 0, .ref (qa 0), .ref (qa 1), .ref (qa 2), .ref (qa 3), .int 0, .ref (qa 4), .ref (qa 5), .ref (qa 6), .ref (qa 7), .ref (qa 8), .ref (qa 9), .ref (qa 10), .ref (qa 11), .ref (qa 12), .ref (qa 13), .ref (qa 14), .ref (qa 15), .ref (qa 16), .ref (qa 17), .ref (qa 18), .ref (qa 19), .ref (qa 20), .int 0, .int 0, .int 0, .int 0, .long 0, .long 0, .long 0, .long 0, .long 0, .ref (qa 21), .int 0, .int 0, .int 0, .int 0])), ((qa 0), .inl ((qk 0), 8192, .inl f))] sz) := by
  refine Met.ofW (cc := b_Mo_four) (maxL := 3) (ret := none) (by decide) rfl ?_
  intro p e s m args below meth c s₁ B hml hv
  obtain ⟨rfl, hsz, hP, hK, hD0, hN, hZ⟩ := hv
  have hx := B.exec
  have hb := B.bytes
  have hr := B.returns
  have hlocks := B.notSynchronized
  have hts : ∀ w ∈ bw, w.before _ s = true := fun w h => atoms_spec (ws := Cond.code y_Mo_four b_Mo_four 3 none :: bw) B.pre w (List.mem_cons_of_mem _ h)
  have hown : s.vm.findClass "ObjectForgeModel" = some m.cls := findClass_of_methodNamed B.named
  subst hsz
  have hP0 := hP
  have hD := hD0.self (sz := s.heap.size)
  generalize hAe : va_A [(h0, .inr (7, [.int 0, .int 12, .int 0, .int 0, .int 0, .int 0, .int (-1), .int (-1), .int 0, .int 0, .int 0, .int 0, .int 0, .int 0, .int 0, .int 0, .ref (qa 0), .ref (qa 1), .ref (qa 2), .ref (qa 3), .int 0, .ref (qa 4), .ref (qa 5), .ref (qa 6), .ref (qa 7), .ref (qa 8), .ref (qa 9), .ref (qa 10), .ref (qa 11), .ref (qa 12), .ref (qa 13), .ref (qa 14), .ref (qa 15), .ref (qa 16), .ref (qa 17), .ref (qa 18), .ref (qa 19), .ref (qa 20), .int 0, .int 0, .int 0, .int 0, .long 0, .long 0, .long 0, .long 0, .long 0, .ref (qa 21), .int 0, .int 0, .int 0, .int 0])), ((qa 0), .inl ((qk 0), 8192, .inl f))] s.heap.size = A at hD hZ ⊢
  have hA : ∀ q : Nat, s.heap.size ≤ q → A q := fun q h => by rw [← hAe]; exact Or.inr h
  have hS : va_S A s.heap s.heap [] := va_S.rf
  have hl := lv_entry ([.ref h0, .int v]) (n := 3) (Nat.le_of_ble_eq_true rfl)
  rw [lg_entry_eq]
  generalize (lg_sl ([.ref h0, .int v]) ++ List.replicate (3 - (lg_sl ([.ref h0, .int v])).length) Slot.unset).toArray = ls at hl ⊢
  have hl : lv_has ls 3 [(0, .ref h0), (1, .int v)] := hl
  refine lv_bipush (v := 24) hx hb d_Mo_four_0 (by decide) ?_
  refine lv_istore_n (lv' := [(2, .int 24), (0, .ref h0), (1, .int v)]) hx hb d_Mo_four_2 rfl hl (by decide) rfl (fun ls hl => ?_)
  refine lv_iload_n hx hb d_Mo_four_3 rfl (lv_at hl 0 rfl) ?_
  refine lv_if_lt (tgt := 36) hx hb d_Mo_four_4 (by decide) (fun q9 => absurd q9 (by decide : ¬ ((24 : Int32) < 0))) (fun _ => ?_)
  refine lv_aload_n hx hb d_Mo_four_7 rfl (lv_at hl 1 rfl) ?_
  refine va_get (D := D) (ci := 7) (v := .ref (qa 0)) (C := R_Mo) (T := F_Mo) (N := 52) hx hb hts i_Mo hown hK hP 0 rfl rfl 16 (by decide) (hts _ w_399) (fun _ h9 => h9) rfl d_Mo_four_8 ?_
  refine lv_aload_n hx hb d_Mo_four_11 rfl (lv_at hl 1 rfl) ?_
  refine va_get (D := D) (ci := 7) (v := .int 12) (C := R_Mo) (T := F_Mo) (N := 52) hx hb hts i_Mo hown hK hP 0 rfl rfl 1 (by decide) (hts _ w_398) (fun _ h9 => h9) rfl d_Mo_four_12 ?_
  refine lv_iload_n hx hb d_Mo_four_15 rfl (lv_at hl 2 rfl) ?_
  refine lv_iload_n hx hb d_Mo_four_16 rfl (lv_at hl 0 rfl) ?_
  refine lv_ishr hx hb d_Mo_four_17 ?_
  refine lv_topi (fun z1 _ => ?_)
  refine lv_i2b hx hb d_Mo_four_18 rfl ?_
  refine lv_topi (fun z2 _ => ?_)
  refine va_bast hx hb hK hP hD hS 1 0 rfl rfl (by unfold vp_in; decide) d_Mo_four_19 (fun H locs hP hD hS => ?_)
  obtain ⟨f3, ef3⟩ : ∃ z : Nat → Int32, z = (upd f (12 : Int32).toNatClampNeg (vp_nar .byte z2)) := ⟨_, rfl⟩
  have hP : va_P D cls [(h0, .inr (7, [.int 0, .int 12, .int 0, .int 0, .int 0, .int 0, .int (-1), .int (-1), .int 0, .int 0, .int 0, .int 0, .int 0, .int 0, .int 0, .int 0, .ref (qa 0), .ref (qa 1), .ref (qa 2), .ref (qa 3), .int 0, .ref (qa 4), .ref (qa 5), .ref (qa 6), .ref (qa 7), .ref (qa 8), .ref (qa 9), .ref (qa 10), .ref (qa 11), .ref (qa 12), .ref (qa 13), .ref (qa 14), .ref (qa 15), .ref (qa 16), .ref (qa 17), .ref (qa 18), .ref (qa 19), .ref (qa 20), .int 0, .int 0, .int 0, .int 0, .long 0, .long 0, .long 0, .long 0, .long 0, .ref (qa 21), .int 0, .int 0, .int 0, .int 0])), ((qa 0), .inl ((qk 0), 8192, .inl f3))] H := by rw [ef3]; exact hP
  have hD : va_D A [(h0, .inr (7, [.int 0, .int 12, .int 0, .int 0, .int 0, .int 0, .int (-1), .int (-1), .int 0, .int 0, .int 0, .int 0, .int 0, .int 0, .int 0, .int 0, .ref (qa 0), .ref (qa 1), .ref (qa 2), .ref (qa 3), .int 0, .ref (qa 4), .ref (qa 5), .ref (qa 6), .ref (qa 7), .ref (qa 8), .ref (qa 9), .ref (qa 10), .ref (qa 11), .ref (qa 12), .ref (qa 13), .ref (qa 14), .ref (qa 15), .ref (qa 16), .ref (qa 17), .ref (qa 18), .ref (qa 19), .ref (qa 20), .int 0, .int 0, .int 0, .int 0, .long 0, .long 0, .long 0, .long 0, .long 0, .ref (qa 21), .int 0, .int 0, .int 0, .int 0])), ((qa 0), .inl ((qk 0), 8192, .inl f3))] := by rw [ef3]; exact hD
  refine lv_aload_n hx hb d_Mo_four_20 rfl (lv_at hl 1 rfl) ?_
  refine lv_dup hx hb d_Mo_four_21 rfl ?_
  refine va_get (D := D) (ci := 7) (v := .int 12) (C := R_Mo) (T := F_Mo) (N := 52) hx hb hts i_Mo hown hK hP 0 rfl rfl 1 (by decide) (hts _ w_398) (fun _ h9 => h9) rfl d_Mo_four_22 ?_
  refine lv_iconst (v := 1) hx hb d_Mo_four_25 (by decide) ?_
  refine lv_iadd hx hb d_Mo_four_26 ?_
  refine lv_topi (fun z4 ez4 => ?_)
  obtain rfl : z4 = 13 := ez4.trans (by decide)
  refine va_put (D := D) (ci := 7) (v := .int 13) (ty := .int) (C := R_Mo) (T := F_Mo) (N := 52) hx hb hts i_Mo t_Mo t_Mo_ok n_Mo hown hK hP hD hS 0 rfl rfl 1 (by decide) (hts _ w_398) (fun _ h9 => h9) rfl (by decide +kernel) rfl rfl (Nat.le_of_ble_eq_true rfl) d_Mo_four_27 (fun H locs hP hD hS => ?_)
  have hP : va_P D cls [(h0, .inr (7, [.int 0, .int 13, .int 0, .int 0, .int 0, .int 0, .int (-1), .int (-1), .int 0, .int 0, .int 0, .int 0, .int 0, .int 0, .int 0, .int 0, .ref (qa 0), .ref (qa 1), .ref (qa 2), .ref (qa 3), .int 0, .ref (qa 4), .ref (qa 5), .ref (qa 6), .ref (qa 7), .ref (qa 8), .ref (qa 9), .ref (qa 10), .ref (qa 11), .ref (qa 12), .ref (qa 13), .ref (qa 14), .ref (qa 15), .ref (qa 16), .ref (qa 17), .ref (qa 18), .ref (qa 19), .ref (qa 20), .int 0, .int 0, .int 0, .int 0, .long 0, .long 0, .long 0, .long 0, .long 0, .ref (qa 21), .int 0, .int 0, .int 0, .int 0])), ((qa 0), .inl ((qk 0), 8192, .inl f3))] H := hP
  have hD : va_D A [(h0, .inr (7, [.int 0, .int 13, .int 0, .int 0, .int 0, .int 0, .int (-1), .int (-1), .int 0, .int 0, .int 0, .int 0, .int 0, .int 0, .int 0, .int 0, .ref (qa 0), .ref (qa 1), .ref (qa 2), .ref (qa 3), .int 0, .ref (qa 4), .ref (qa 5), .ref (qa 6), .ref (qa 7), .ref (qa 8), .ref (qa 9), .ref (qa 10), .ref (qa 11), .ref (qa 12), .ref (qa 13), .ref (qa 14), .ref (qa 15), .ref (qa 16), .ref (qa 17), .ref (qa 18), .ref (qa 19), .ref (qa 20), .int 0, .int 0, .int 0, .int 0, .long 0, .long 0, .long 0, .long 0, .long 0, .ref (qa 21), .int 0, .int 0, .int 0, .int 0])), ((qa 0), .inl ((qk 0), 8192, .inl f3))] := hD
  refine lv_iinc (v := 16) (lv' := [(2, .int 16), (0, .ref h0), (1, .int v)]) hx hb d_Mo_four_30 hl (k := 0) rfl (by decide) (by decide) rfl (fun ls hl => ?_)
  refine lv_goto (tgt := 3) hx hb d_Mo_four_33 (by decide) ?_
  refine lv_iload_n hx hb d_Mo_four_3 rfl (lv_at hl 0 rfl) ?_
  refine lv_if_lt (tgt := 36) hx hb d_Mo_four_4 (by decide) (fun q9 => absurd q9 (by decide : ¬ ((16 : Int32) < 0))) (fun _ => ?_)
  refine lv_aload_n hx hb d_Mo_four_7 rfl (lv_at hl 1 rfl) ?_
  refine va_get (D := D) (ci := 7) (v := .ref (qa 0)) (C := R_Mo) (T := F_Mo) (N := 52) hx hb hts i_Mo hown hK hP 0 rfl rfl 16 (by decide) (hts _ w_399) (fun _ h9 => h9) rfl d_Mo_four_8 ?_
  refine lv_aload_n hx hb d_Mo_four_11 rfl (lv_at hl 1 rfl) ?_
  refine va_get (D := D) (ci := 7) (v := .int 13) (C := R_Mo) (T := F_Mo) (N := 52) hx hb hts i_Mo hown hK hP 0 rfl rfl 1 (by decide) (hts _ w_398) (fun _ h9 => h9) rfl d_Mo_four_12 ?_
  refine lv_iload_n hx hb d_Mo_four_15 rfl (lv_at hl 2 rfl) ?_
  refine lv_iload_n hx hb d_Mo_four_16 rfl (lv_at hl 0 rfl) ?_
  refine lv_ishr hx hb d_Mo_four_17 ?_
  refine lv_topi (fun z5 _ => ?_)
  refine lv_i2b hx hb d_Mo_four_18 rfl ?_
  refine lv_topi (fun z6 _ => ?_)
  refine va_bast hx hb hK hP hD hS 1 0 rfl rfl (by unfold vp_in; decide) d_Mo_four_19 (fun H locs hP hD hS => ?_)
  obtain ⟨f7, ef7⟩ : ∃ z : Nat → Int32, z = (upd f3 (13 : Int32).toNatClampNeg (vp_nar .byte z6)) := ⟨_, rfl⟩
  have hP : va_P D cls [(h0, .inr (7, [.int 0, .int 13, .int 0, .int 0, .int 0, .int 0, .int (-1), .int (-1), .int 0, .int 0, .int 0, .int 0, .int 0, .int 0, .int 0, .int 0, .ref (qa 0), .ref (qa 1), .ref (qa 2), .ref (qa 3), .int 0, .ref (qa 4), .ref (qa 5), .ref (qa 6), .ref (qa 7), .ref (qa 8), .ref (qa 9), .ref (qa 10), .ref (qa 11), .ref (qa 12), .ref (qa 13), .ref (qa 14), .ref (qa 15), .ref (qa 16), .ref (qa 17), .ref (qa 18), .ref (qa 19), .ref (qa 20), .int 0, .int 0, .int 0, .int 0, .long 0, .long 0, .long 0, .long 0, .long 0, .ref (qa 21), .int 0, .int 0, .int 0, .int 0])), ((qa 0), .inl ((qk 0), 8192, .inl f7))] H := by rw [ef7]; exact hP
  have hD : va_D A [(h0, .inr (7, [.int 0, .int 13, .int 0, .int 0, .int 0, .int 0, .int (-1), .int (-1), .int 0, .int 0, .int 0, .int 0, .int 0, .int 0, .int 0, .int 0, .ref (qa 0), .ref (qa 1), .ref (qa 2), .ref (qa 3), .int 0, .ref (qa 4), .ref (qa 5), .ref (qa 6), .ref (qa 7), .ref (qa 8), .ref (qa 9), .ref (qa 10), .ref (qa 11), .ref (qa 12), .ref (qa 13), .ref (qa 14), .ref (qa 15), .ref (qa 16), .ref (qa 17), .ref (qa 18), .ref (qa 19), .ref (qa 20), .int 0, .int 0, .int 0, .int 0, .long 0, .long 0, .long 0, .long 0, .long 0, .ref (qa 21), .int 0, .int 0, .int 0, .int 0])), ((qa 0), .inl ((qk 0), 8192, .inl f7))] := by rw [ef7]; exact hD
  refine lv_aload_n hx hb d_Mo_four_20 rfl (lv_at hl 1 rfl) ?_
  refine lv_dup hx hb d_Mo_four_21 rfl ?_
  refine va_get (D := D) (ci := 7) (v := .int 13) (C := R_Mo) (T := F_Mo) (N := 52) hx hb hts i_Mo hown hK hP 0 rfl rfl 1 (by decide) (hts _ w_398) (fun _ h9 => h9) rfl d_Mo_four_22 ?_
  refine lv_iconst (v := 1) hx hb d_Mo_four_25 (by decide) ?_
  refine lv_iadd hx hb d_Mo_four_26 ?_
  refine lv_topi (fun z8 ez8 => ?_)
  obtain rfl : z8 = 14 := ez8.trans (by decide)
  refine va_put (D := D) (ci := 7) (v := .int 14) (ty := .int) (C := R_Mo) (T := F_Mo) (N := 52) hx hb hts i_Mo t_Mo t_Mo_ok n_Mo hown hK hP hD hS 0 rfl rfl 1 (by decide) (hts _ w_398) (fun _ h9 => h9) rfl (by decide +kernel) rfl rfl (Nat.le_of_ble_eq_true rfl) d_Mo_four_27 (fun H locs hP hD hS => ?_)
  have hP : va_P D cls [(h0, .inr (7, [.int 0, .int 14, .int 0, .int 0, .int 0, .int 0, .int (-1), .int (-1), .int 0, .int 0, .int 0, .int 0, .int 0, .int 0, .int 0, .int 0, .ref (qa 0), .ref (qa 1), .ref (qa 2), .ref (qa 3), .int 0, .ref (qa 4), .ref (qa 5), .ref (qa 6), .ref (qa 7), .ref (qa 8), .ref (qa 9), .ref (qa 10), .ref (qa 11), .ref (qa 12), .ref (qa 13), .ref (qa 14), .ref (qa 15), .ref (qa 16), .ref (qa 17), .ref (qa 18), .ref (qa 19), .ref (qa 20), .int 0, .int 0, .int 0, .int 0, .long 0, .long 0, .long 0, .long 0, .long 0, .ref (qa 21), .int 0, .int 0, .int 0, .int 0])), ((qa 0), .inl ((qk 0), 8192, .inl f7))] H := hP
  have hD : va_D A [(h0, .inr (7, [.int 0, .int 14, .int 0, .int 0, .int 0, .int 0, .int (-1), .int (-1), .int 0, .int 0, .int 0, .int 0, .int 0, .int 0, .int 0, .int 0, .ref (qa 0), .ref (qa 1), .ref (qa 2), .ref (qa 3), .int 0, .ref (qa 4), .ref (qa 5), .ref (qa 6), .ref (qa 7), .ref (qa 8), .ref (qa 9), .ref (qa 10), .ref (qa 11), .ref (qa 12), .ref (qa 13), .ref (qa 14), .ref (qa 15), .ref (qa 16), .ref (qa 17), .ref (qa 18), .ref (qa 19), .ref (qa 20), .int 0, .int 0, .int 0, .int 0, .long 0, .long 0, .long 0, .long 0, .long 0, .ref (qa 21), .int 0, .int 0, .int 0, .int 0])), ((qa 0), .inl ((qk 0), 8192, .inl f7))] := hD
  refine lv_iinc (v := 8) (lv' := [(2, .int 8), (0, .ref h0), (1, .int v)]) hx hb d_Mo_four_30 hl (k := 0) rfl (by decide) (by decide) rfl (fun ls hl => ?_)
  refine lv_goto (tgt := 3) hx hb d_Mo_four_33 (by decide) ?_
  refine lv_iload_n hx hb d_Mo_four_3 rfl (lv_at hl 0 rfl) ?_
  refine lv_if_lt (tgt := 36) hx hb d_Mo_four_4 (by decide) (fun q9 => absurd q9 (by decide : ¬ ((8 : Int32) < 0))) (fun _ => ?_)
  refine lv_aload_n hx hb d_Mo_four_7 rfl (lv_at hl 1 rfl) ?_
  refine va_get (D := D) (ci := 7) (v := .ref (qa 0)) (C := R_Mo) (T := F_Mo) (N := 52) hx hb hts i_Mo hown hK hP 0 rfl rfl 16 (by decide) (hts _ w_399) (fun _ h9 => h9) rfl d_Mo_four_8 ?_
  refine lv_aload_n hx hb d_Mo_four_11 rfl (lv_at hl 1 rfl) ?_
  refine va_get (D := D) (ci := 7) (v := .int 14) (C := R_Mo) (T := F_Mo) (N := 52) hx hb hts i_Mo hown hK hP 0 rfl rfl 1 (by decide) (hts _ w_398) (fun _ h9 => h9) rfl d_Mo_four_12 ?_
  refine lv_iload_n hx hb d_Mo_four_15 rfl (lv_at hl 2 rfl) ?_
  refine lv_iload_n hx hb d_Mo_four_16 rfl (lv_at hl 0 rfl) ?_
  refine lv_ishr hx hb d_Mo_four_17 ?_
  refine lv_topi (fun z9 _ => ?_)
  refine lv_i2b hx hb d_Mo_four_18 rfl ?_
  refine lv_topi (fun z10 _ => ?_)
  refine va_bast hx hb hK hP hD hS 1 0 rfl rfl (by unfold vp_in; decide) d_Mo_four_19 (fun H locs hP hD hS => ?_)
  obtain ⟨f11, ef11⟩ : ∃ z : Nat → Int32, z = (upd f7 (14 : Int32).toNatClampNeg (vp_nar .byte z10)) := ⟨_, rfl⟩
  have hP : va_P D cls [(h0, .inr (7, [.int 0, .int 14, .int 0, .int 0, .int 0, .int 0, .int (-1), .int (-1), .int 0, .int 0, .int 0, .int 0, .int 0, .int 0, .int 0, .int 0, .ref (qa 0), .ref (qa 1), .ref (qa 2), .ref (qa 3), .int 0, .ref (qa 4), .ref (qa 5), .ref (qa 6), .ref (qa 7), .ref (qa 8), .ref (qa 9), .ref (qa 10), .ref (qa 11), .ref (qa 12), .ref (qa 13), .ref (qa 14), .ref (qa 15), .ref (qa 16), .ref (qa 17), .ref (qa 18), .ref (qa 19), .ref (qa 20), .int 0, .int 0, .int 0, .int 0, .long 0, .long 0, .long 0, .long 0, .long 0, .ref (qa 21), .int 0, .int 0, .int 0, .int 0])), ((qa 0), .inl ((qk 0), 8192, .inl f11))] H := by rw [ef11]; exact hP
  have hD : va_D A [(h0, .inr (7, [.int 0, .int 14, .int 0, .int 0, .int 0, .int 0, .int (-1), .int (-1), .int 0, .int 0, .int 0, .int 0, .int 0, .int 0, .int 0, .int 0, .ref (qa 0), .ref (qa 1), .ref (qa 2), .ref (qa 3), .int 0, .ref (qa 4), .ref (qa 5), .ref (qa 6), .ref (qa 7), .ref (qa 8), .ref (qa 9), .ref (qa 10), .ref (qa 11), .ref (qa 12), .ref (qa 13), .ref (qa 14), .ref (qa 15), .ref (qa 16), .ref (qa 17), .ref (qa 18), .ref (qa 19), .ref (qa 20), .int 0, .int 0, .int 0, .int 0, .long 0, .long 0, .long 0, .long 0, .long 0, .ref (qa 21), .int 0, .int 0, .int 0, .int 0])), ((qa 0), .inl ((qk 0), 8192, .inl f11))] := by rw [ef11]; exact hD
  refine lv_aload_n hx hb d_Mo_four_20 rfl (lv_at hl 1 rfl) ?_
  refine lv_dup hx hb d_Mo_four_21 rfl ?_
  refine va_get (D := D) (ci := 7) (v := .int 14) (C := R_Mo) (T := F_Mo) (N := 52) hx hb hts i_Mo hown hK hP 0 rfl rfl 1 (by decide) (hts _ w_398) (fun _ h9 => h9) rfl d_Mo_four_22 ?_
  refine lv_iconst (v := 1) hx hb d_Mo_four_25 (by decide) ?_
  refine lv_iadd hx hb d_Mo_four_26 ?_
  refine lv_topi (fun z12 ez12 => ?_)
  obtain rfl : z12 = 15 := ez12.trans (by decide)
  refine va_put (D := D) (ci := 7) (v := .int 15) (ty := .int) (C := R_Mo) (T := F_Mo) (N := 52) hx hb hts i_Mo t_Mo t_Mo_ok n_Mo hown hK hP hD hS 0 rfl rfl 1 (by decide) (hts _ w_398) (fun _ h9 => h9) rfl (by decide +kernel) rfl rfl (Nat.le_of_ble_eq_true rfl) d_Mo_four_27 (fun H locs hP hD hS => ?_)
  have hP : va_P D cls [(h0, .inr (7, [.int 0, .int 15, .int 0, .int 0, .int 0, .int 0, .int (-1), .int (-1), .int 0, .int 0, .int 0, .int 0, .int 0, .int 0, .int 0, .int 0, .ref (qa 0), .ref (qa 1), .ref (qa 2), .ref (qa 3), .int 0, .ref (qa 4), .ref (qa 5), .ref (qa 6), .ref (qa 7), .ref (qa 8), .ref (qa 9), .ref (qa 10), .ref (qa 11), .ref (qa 12), .ref (qa 13), .ref (qa 14), .ref (qa 15), .ref (qa 16), .ref (qa 17), .ref (qa 18), .ref (qa 19), .ref (qa 20), .int 0, .int 0, .int 0, .int 0, .long 0, .long 0, .long 0, .long 0, .long 0, .ref (qa 21), .int 0, .int 0, .int 0, .int 0])), ((qa 0), .inl ((qk 0), 8192, .inl f11))] H := hP
  have hD : va_D A [(h0, .inr (7, [.int 0, .int 15, .int 0, .int 0, .int 0, .int 0, .int (-1), .int (-1), .int 0, .int 0, .int 0, .int 0, .int 0, .int 0, .int 0, .int 0, .ref (qa 0), .ref (qa 1), .ref (qa 2), .ref (qa 3), .int 0, .ref (qa 4), .ref (qa 5), .ref (qa 6), .ref (qa 7), .ref (qa 8), .ref (qa 9), .ref (qa 10), .ref (qa 11), .ref (qa 12), .ref (qa 13), .ref (qa 14), .ref (qa 15), .ref (qa 16), .ref (qa 17), .ref (qa 18), .ref (qa 19), .ref (qa 20), .int 0, .int 0, .int 0, .int 0, .long 0, .long 0, .long 0, .long 0, .long 0, .ref (qa 21), .int 0, .int 0, .int 0, .int 0])), ((qa 0), .inl ((qk 0), 8192, .inl f11))] := hD
  refine lv_iinc (v := 0) (lv' := [(2, .int 0), (0, .ref h0), (1, .int v)]) hx hb d_Mo_four_30 hl (k := 0) rfl (by decide) (by decide) rfl (fun ls hl => ?_)
  refine lv_goto (tgt := 3) hx hb d_Mo_four_33 (by decide) ?_
  refine lv_iload_n hx hb d_Mo_four_3 rfl (lv_at hl 0 rfl) ?_
  refine lv_if_lt (tgt := 36) hx hb d_Mo_four_4 (by decide) (fun q9 => absurd q9 (by decide : ¬ ((0 : Int32) < 0))) (fun _ => ?_)
  refine lv_aload_n hx hb d_Mo_four_7 rfl (lv_at hl 1 rfl) ?_
  refine va_get (D := D) (ci := 7) (v := .ref (qa 0)) (C := R_Mo) (T := F_Mo) (N := 52) hx hb hts i_Mo hown hK hP 0 rfl rfl 16 (by decide) (hts _ w_399) (fun _ h9 => h9) rfl d_Mo_four_8 ?_
  refine lv_aload_n hx hb d_Mo_four_11 rfl (lv_at hl 1 rfl) ?_
  refine va_get (D := D) (ci := 7) (v := .int 15) (C := R_Mo) (T := F_Mo) (N := 52) hx hb hts i_Mo hown hK hP 0 rfl rfl 1 (by decide) (hts _ w_398) (fun _ h9 => h9) rfl d_Mo_four_12 ?_
  refine lv_iload_n hx hb d_Mo_four_15 rfl (lv_at hl 2 rfl) ?_
  refine lv_iload_n hx hb d_Mo_four_16 rfl (lv_at hl 0 rfl) ?_
  refine lv_ishr hx hb d_Mo_four_17 ?_
  refine lv_topi (fun z13 _ => ?_)
  refine lv_i2b hx hb d_Mo_four_18 rfl ?_
  refine lv_topi (fun z14 _ => ?_)
  refine va_bast hx hb hK hP hD hS 1 0 rfl rfl (by unfold vp_in; decide) d_Mo_four_19 (fun H locs hP hD hS => ?_)
  obtain ⟨f15, ef15⟩ : ∃ z : Nat → Int32, z = (upd f11 (15 : Int32).toNatClampNeg (vp_nar .byte z14)) := ⟨_, rfl⟩
  have hP : va_P D cls [(h0, .inr (7, [.int 0, .int 15, .int 0, .int 0, .int 0, .int 0, .int (-1), .int (-1), .int 0, .int 0, .int 0, .int 0, .int 0, .int 0, .int 0, .int 0, .ref (qa 0), .ref (qa 1), .ref (qa 2), .ref (qa 3), .int 0, .ref (qa 4), .ref (qa 5), .ref (qa 6), .ref (qa 7), .ref (qa 8), .ref (qa 9), .ref (qa 10), .ref (qa 11), .ref (qa 12), .ref (qa 13), .ref (qa 14), .ref (qa 15), .ref (qa 16), .ref (qa 17), .ref (qa 18), .ref (qa 19), .ref (qa 20), .int 0, .int 0, .int 0, .int 0, .long 0, .long 0, .long 0, .long 0, .long 0, .ref (qa 21), .int 0, .int 0, .int 0, .int 0])), ((qa 0), .inl ((qk 0), 8192, .inl f15))] H := by rw [ef15]; exact hP
  have hD : va_D A [(h0, .inr (7, [.int 0, .int 15, .int 0, .int 0, .int 0, .int 0, .int (-1), .int (-1), .int 0, .int 0, .int 0, .int 0, .int 0, .int 0, .int 0, .int 0, .ref (qa 0), .ref (qa 1), .ref (qa 2), .ref (qa 3), .int 0, .ref (qa 4), .ref (qa 5), .ref (qa 6), .ref (qa 7), .ref (qa 8), .ref (qa 9), .ref (qa 10), .ref (qa 11), .ref (qa 12), .ref (qa 13), .ref (qa 14), .ref (qa 15), .ref (qa 16), .ref (qa 17), .ref (qa 18), .ref (qa 19), .ref (qa 20), .int 0, .int 0, .int 0, .int 0, .long 0, .long 0, .long 0, .long 0, .long 0, .ref (qa 21), .int 0, .int 0, .int 0, .int 0])), ((qa 0), .inl ((qk 0), 8192, .inl f15))] := by rw [ef15]; exact hD
  refine lv_aload_n hx hb d_Mo_four_20 rfl (lv_at hl 1 rfl) ?_
  refine lv_dup hx hb d_Mo_four_21 rfl ?_
  refine va_get (D := D) (ci := 7) (v := .int 15) (C := R_Mo) (T := F_Mo) (N := 52) hx hb hts i_Mo hown hK hP 0 rfl rfl 1 (by decide) (hts _ w_398) (fun _ h9 => h9) rfl d_Mo_four_22 ?_
  refine lv_iconst (v := 1) hx hb d_Mo_four_25 (by decide) ?_
  refine lv_iadd hx hb d_Mo_four_26 ?_
  refine lv_topi (fun z16 ez16 => ?_)
  obtain rfl : z16 = 16 := ez16.trans (by decide)
  refine va_put (D := D) (ci := 7) (v := .int 16) (ty := .int) (C := R_Mo) (T := F_Mo) (N := 52) hx hb hts i_Mo t_Mo t_Mo_ok n_Mo hown hK hP hD hS 0 rfl rfl 1 (by decide) (hts _ w_398) (fun _ h9 => h9) rfl (by decide +kernel) rfl rfl (Nat.le_of_ble_eq_true rfl) d_Mo_four_27 (fun H locs hP hD hS => ?_)
  have hP : va_P D cls [(h0, .inr (7, [.int 0, .int 16, .int 0, .int 0, .int 0, .int 0, .int (-1), .int (-1), .int 0, .int 0, .int 0, .int 0, .int 0, .int 0, .int 0, .int 0, .ref (qa 0), .ref (qa 1), .ref (qa 2), .ref (qa 3), .int 0, .ref (qa 4), .ref (qa 5), .ref (qa 6), .ref (qa 7), .ref (qa 8), .ref (qa 9), .ref (qa 10), .ref (qa 11), .ref (qa 12), .ref (qa 13), .ref (qa 14), .ref (qa 15), .ref (qa 16), .ref (qa 17), .ref (qa 18), .ref (qa 19), .ref (qa 20), .int 0, .int 0, .int 0, .int 0, .long 0, .long 0, .long 0, .long 0, .long 0, .ref (qa 21), .int 0, .int 0, .int 0, .int 0])), ((qa 0), .inl ((qk 0), 8192, .inl f15))] H := hP
  have hD : va_D A [(h0, .inr (7, [.int 0, .int 16, .int 0, .int 0, .int 0, .int 0, .int (-1), .int (-1), .int 0, .int 0, .int 0, .int 0, .int 0, .int 0, .int 0, .int 0, .ref (qa 0), .ref (qa 1), .ref (qa 2), .ref (qa 3), .int 0, .ref (qa 4), .ref (qa 5), .ref (qa 6), .ref (qa 7), .ref (qa 8), .ref (qa 9), .ref (qa 10), .ref (qa 11), .ref (qa 12), .ref (qa 13), .ref (qa 14), .ref (qa 15), .ref (qa 16), .ref (qa 17), .ref (qa 18), .ref (qa 19), .ref (qa 20), .int 0, .int 0, .int 0, .int 0, .long 0, .long 0, .long 0, .long 0, .long 0, .ref (qa 21), .int 0, .int 0, .int 0, .int 0])), ((qa 0), .inl ((qk 0), 8192, .inl f15))] := hD
  refine lv_iinc (v := (-8)) (lv' := [(2, .int (-8)), (0, .ref h0), (1, .int v)]) hx hb d_Mo_four_30 hl (k := 0) rfl (by decide) (by decide) rfl (fun ls hl => ?_)
  refine lv_goto (tgt := 3) hx hb d_Mo_four_33 (by decide) ?_
  refine lv_iload_n hx hb d_Mo_four_3 rfl (lv_at hl 0 rfl) ?_
  refine lv_if_lt (tgt := 36) hx hb d_Mo_four_4 (by decide) (fun _ => ?_) (fun q9 => absurd (by decide : (((-8) : Int32) < 0)) q9)
  exact xr_v hx hb hr hlocks hP hD hK hS (f15) [0, 1] rfl rfl (by decide) [0] rfl rfl d_Mo_four_36

theorem d_Mo_feed_0 : decode b_Mo_feed 0 = .ok (.aload_n 0, 1) := by decide +kernel
theorem d_Mo_feed_1 : decode b_Mo_feed 1 = .ok (.iconst 0, 1) := by decide +kernel
theorem d_Mo_feed_2 : decode b_Mo_feed 2 = .ok (.putfield 88, 3) := by decide +kernel
theorem d_Mo_feed_5 : decode b_Mo_feed 5 = .ok (.aload_n 0, 1) := by decide +kernel
theorem d_Mo_feed_6 : decode b_Mo_feed 6 = .ok (.getfield 91, 3) := by decide +kernel
theorem d_Mo_feed_9 : decode b_Mo_feed 9 = .ok (.bipush 16, 2) := by decide +kernel
theorem d_Mo_feed_11 : decode b_Mo_feed 11 = .ok (.iadd, 1) := by decide +kernel
theorem d_Mo_feed_12 : decode b_Mo_feed 12 = .ok (.sipush 8192, 3) := by decide +kernel
theorem d_Mo_feed_15 : decode b_Mo_feed 15 = .ok (.if_icmp .le 9, 3) := by decide +kernel
theorem d_Mo_feed_24 : decode b_Mo_feed 24 = .ok (.aload_n 0, 1) := by decide +kernel
theorem d_Mo_feed_25 : decode b_Mo_feed 25 = .ok (.iload_n 1, 1) := by decide +kernel
theorem d_Mo_feed_26 : decode b_Mo_feed 26 = .ok (.invokevirtual 98, 3) := by decide +kernel
theorem d_Mo_feed_29 : decode b_Mo_feed 29 = .ok (.aload_n 0, 1) := by decide +kernel
theorem d_Mo_feed_30 : decode b_Mo_feed 30 = .ok (.iload_n 2, 1) := by decide +kernel
theorem d_Mo_feed_31 : decode b_Mo_feed 31 = .ok (.invokevirtual 98, 3) := by decide +kernel
theorem d_Mo_feed_34 : decode b_Mo_feed 34 = .ok (.aload_n 0, 1) := by decide +kernel
theorem d_Mo_feed_35 : decode b_Mo_feed 35 = .ok (.iload_n 3, 1) := by decide +kernel
theorem d_Mo_feed_36 : decode b_Mo_feed 36 = .ok (.invokevirtual 98, 3) := by decide +kernel
theorem d_Mo_feed_39 : decode b_Mo_feed 39 = .ok (.aload_n 0, 1) := by decide +kernel
theorem d_Mo_feed_40 : decode b_Mo_feed 40 = .ok (.iload 4, 2) := by decide +kernel
theorem d_Mo_feed_42 : decode b_Mo_feed 42 = .ok (.invokevirtual 98, 3) := by decide +kernel
theorem d_Mo_feed_45 : decode b_Mo_feed 45 = .ok (.aload_n 0, 1) := by decide +kernel
theorem d_Mo_feed_46 : decode b_Mo_feed 46 = .ok (.getfield 91, 3) := by decide +kernel
theorem d_Mo_feed_49 : decode b_Mo_feed 49 = .ok (.ireturn, 1) := by decide +kernel
set_option maxHeartbeats 4000000 in
set_option maxRecDepth 100000 in
theorem c_Mo_feed (l : Launch) (D : va_G) (h0 : Nat) (qa : Nat → Nat) (qk : Nat → ClassId) (a0 a1 a2 a3 : Int32) (sz : Nat) : Met l y_Mo_feed (Cond.code y_Mo_feed b_Mo_feed 5 (some .int) :: bw) (xR 2 0 0) (va_Pc [.ref h0, .int a0, .int a1, .int a2, .int a3] (xP D [((qk 0), .byte)] sz [(h0, .inr (7, [.int 0, .int 0, .int 0, .int 0, .int 0, .int 0, .int (-1), .int (-1), .int 0, .int 0, .int 0, .int 0, .int 0, .int 0, .int 0, .int 0, .ref (qa 0), .ref (qa 1), .ref (qa 2), .ref (qa 3), .int 0, .ref (qa 4), .ref (qa 5), .ref (qa 6), .ref (qa 7), .ref (qa 8), .ref (qa 9), .ref (qa 10), .ref (qa 11), .ref (qa 12), .ref (qa 13), .ref (qa 14), .ref (qa 15), .ref (qa 16), .ref (qa 17), .ref (qa 18), .ref (qa 19), .ref (qa 20), .int 0, .int 0, .int 0, .int 0, .long 0, .long 0, .long 0, .long 0, .long 0, .ref (qa 21), .int 0, .int 0, .int 0, .int 0])), ((qa 0), .inl ((qk 0), 8192, .inl (fun _ => 0)))])) (xQ (S := Unit) (fun _ => some (.int 16)) (fun _ => [(h0, .inr (7, [.int 0, .int 16, .int 0, .int 0, .int 0, .int 0, .int (-1), .int (-1), .int 0, .int 0, .int 0, .int 0, .int 0, .int 0, .int 0, .int 0, .ref (qa 0), .ref (qa 1), .ref (qa 2), .ref (qa 3), .int 0, .ref (qa 4), .ref (qa 5), .ref (qa 6), .ref (qa 7), .ref (qa 8), .ref (qa 9), .ref (qa 10), .ref (qa 11), .ref (qa 12), .ref (qa 13), .ref (qa 14), .ref (qa 15), .ref (qa 16), .ref (qa 17), .ref (qa 18), .ref (qa 19), .ref (qa 20), .int 0, .int 0, .int 0, .int 0, .long 0, .long 0, .long 0, .long 0, .long 0, .ref (qa 21), .int 0, .int 0, .int 0, .int 0]))]) (fun _ => []) D (va_A [(h0, .inr (7, [.int 0, .int 0, .int 0, .int 0, .int 0, .int 0, .int (-1), .int (-1), .int 0, .int 0, .int 0, .int 0, .int 0, .int 0, .int 0, .int 0, .ref (qa 0), .ref (qa 1), .ref (qa 2), .ref (qa 3), .int 0, .ref (qa 4), .ref (qa 5), .ref (qa 6), .ref (qa 7), .ref (qa 8), .ref (qa 9), .ref (qa 10), .ref (qa 11), .ref (qa 12), .ref (qa 13), .ref (qa 14), .ref (qa 15), .ref (qa 16), .ref (qa 17), .ref (qa 18), .ref (qa 19), .ref (qa 20), .int 0, .int 0, .int 0, .int 0, .long 0, .long 0, .long 0, .long 0, .long 0, .ref (qa 21), .int 0, .int 0, .int 0, .int 0])), ((qa 0), .inl ((qk 0), 8192, .inl (fun _ => 0)))] sz)) 0 0 (va_A [(h0, .inr (7, [.int 0, .int 0, .int 0, .int 0, .int 0, .int 0, .int (-1), .int (-1), .int 0, .int 0, .int 0, .int 0, .int 0, .int 0, .int 0, .int 0, .ref (qa 0), .ref (qa 1), .ref (qa 2), .ref (qa 3), .int 0, .ref (qa 4), .ref (qa 5), .ref (qa 6), .ref (qa 7), .ref (qa 8), .ref (qa 9), .ref (qa 10), .ref (qa 11), .ref (qa 12), .ref (qa 13), .ref (qa 14), .ref (qa 15), .ref (qa 16), .ref (qa 17), .ref (qa 18), .ref (qa 19), .ref (qa 20), .int 0, .int 0, .int 0, .int 0, .long 0, .long 0, .long 0, .long 0, .long 0, .ref (qa 21), .int 0, .int 0, .int 0, .int 0])), ((qa 0), .inl ((qk 0), 8192, .inl (fun _ => 0)))] sz) := by
  refine Met.ofW (cc := b_Mo_feed) (maxL := 5) (ret := (some .int)) (by decide) rfl ?_
  intro p e s m args below meth c s₁ B hml hv
  obtain ⟨rfl, hsz, hP, hK, hD0, hN, hZ⟩ := hv
  have hx := B.exec
  have hb := B.bytes
  have hr := B.returns
  have hlocks := B.notSynchronized
  have hts : ∀ w ∈ bw, w.before _ s = true := fun w h => atoms_spec (ws := Cond.code y_Mo_feed b_Mo_feed 5 (some .int) :: bw) B.pre w (List.mem_cons_of_mem _ h)
  have hown : s.vm.findClass "ObjectForgeModel" = some m.cls := findClass_of_methodNamed B.named
  subst hsz
  have hP0 := hP
  have hD := hD0.self (sz := s.heap.size)
  generalize hAe : va_A [(h0, .inr (7, [.int 0, .int 0, .int 0, .int 0, .int 0, .int 0, .int (-1), .int (-1), .int 0, .int 0, .int 0, .int 0, .int 0, .int 0, .int 0, .int 0, .ref (qa 0), .ref (qa 1), .ref (qa 2), .ref (qa 3), .int 0, .ref (qa 4), .ref (qa 5), .ref (qa 6), .ref (qa 7), .ref (qa 8), .ref (qa 9), .ref (qa 10), .ref (qa 11), .ref (qa 12), .ref (qa 13), .ref (qa 14), .ref (qa 15), .ref (qa 16), .ref (qa 17), .ref (qa 18), .ref (qa 19), .ref (qa 20), .int 0, .int 0, .int 0, .int 0, .long 0, .long 0, .long 0, .long 0, .long 0, .ref (qa 21), .int 0, .int 0, .int 0, .int 0])), ((qa 0), .inl ((qk 0), 8192, .inl (fun _ => 0)))] s.heap.size = A at hD hZ ⊢
  have hA : ∀ q : Nat, s.heap.size ≤ q → A q := fun q h => by rw [← hAe]; exact Or.inr h
  have hS : va_S A s.heap s.heap [] := va_S.rf
  have hl := lv_entry ([.ref h0, .int a0, .int a1, .int a2, .int a3]) (n := 5) (Nat.le_of_ble_eq_true rfl)
  rw [lg_entry_eq]
  generalize (lg_sl ([.ref h0, .int a0, .int a1, .int a2, .int a3]) ++ List.replicate (5 - (lg_sl ([.ref h0, .int a0, .int a1, .int a2, .int a3])).length) Slot.unset).toArray = ls at hl ⊢
  have hl : lv_has ls 5 [(0, .ref h0), (1, .int a0), (2, .int a1), (3, .int a2), (4, .int a3)] := hl
  refine lv_aload_n hx hb d_Mo_feed_0 rfl (lv_at hl 0 rfl) ?_
  refine lv_iconst (v := 0) hx hb d_Mo_feed_1 (by decide) ?_
  refine va_put (D := D) (ci := 7) (v := .int 0) (ty := .int) (C := R_Mo) (T := F_Mo) (N := 52) hx hb hts i_Mo t_Mo t_Mo_ok n_Mo hown hK hP hD hS 0 rfl rfl 0 (by decide) (hts _ w_397) (fun _ h9 => h9) rfl (by decide +kernel) rfl rfl (Nat.le_of_ble_eq_true rfl) d_Mo_feed_2 (fun H locs hP hD hS => ?_)
  have hP : va_P D cls [(h0, .inr (7, [.int 0, .int 0, .int 0, .int 0, .int 0, .int 0, .int (-1), .int (-1), .int 0, .int 0, .int 0, .int 0, .int 0, .int 0, .int 0, .int 0, .ref (qa 0), .ref (qa 1), .ref (qa 2), .ref (qa 3), .int 0, .ref (qa 4), .ref (qa 5), .ref (qa 6), .ref (qa 7), .ref (qa 8), .ref (qa 9), .ref (qa 10), .ref (qa 11), .ref (qa 12), .ref (qa 13), .ref (qa 14), .ref (qa 15), .ref (qa 16), .ref (qa 17), .ref (qa 18), .ref (qa 19), .ref (qa 20), .int 0, .int 0, .int 0, .int 0, .long 0, .long 0, .long 0, .long 0, .long 0, .ref (qa 21), .int 0, .int 0, .int 0, .int 0])), ((qa 0), .inl ((qk 0), 8192, .inl (fun _ => 0)))] H := hP
  have hD : va_D A [(h0, .inr (7, [.int 0, .int 0, .int 0, .int 0, .int 0, .int 0, .int (-1), .int (-1), .int 0, .int 0, .int 0, .int 0, .int 0, .int 0, .int 0, .int 0, .ref (qa 0), .ref (qa 1), .ref (qa 2), .ref (qa 3), .int 0, .ref (qa 4), .ref (qa 5), .ref (qa 6), .ref (qa 7), .ref (qa 8), .ref (qa 9), .ref (qa 10), .ref (qa 11), .ref (qa 12), .ref (qa 13), .ref (qa 14), .ref (qa 15), .ref (qa 16), .ref (qa 17), .ref (qa 18), .ref (qa 19), .ref (qa 20), .int 0, .int 0, .int 0, .int 0, .long 0, .long 0, .long 0, .long 0, .long 0, .ref (qa 21), .int 0, .int 0, .int 0, .int 0])), ((qa 0), .inl ((qk 0), 8192, .inl (fun _ => 0)))] := hD
  refine lv_aload_n hx hb d_Mo_feed_5 rfl (lv_at hl 0 rfl) ?_
  refine va_get (D := D) (ci := 7) (v := .int 0) (C := R_Mo) (T := F_Mo) (N := 52) hx hb hts i_Mo hown hK hP 0 rfl rfl 1 (by decide) (hts _ w_398) (fun _ h9 => h9) rfl d_Mo_feed_6 ?_
  refine lv_bipush (v := 16) hx hb d_Mo_feed_9 (by decide) ?_
  refine lv_iadd hx hb d_Mo_feed_11 ?_
  refine lv_topi (fun z1 ez1 => ?_)
  obtain rfl : z1 = 16 := ez1.trans (by decide)
  refine lv_sipush (v := 8192) hx hb d_Mo_feed_12 (by decide) ?_
  refine lv_icmp_le (tgt := 24) hx hb d_Mo_feed_15 (by decide) (fun _ => ?_) (fun q9 => absurd (by decide : ((16 : Int32) ≤ 8192)) q9)
  refine lv_aload_n hx hb d_Mo_feed_24 rfl (lv_at hl 0 rfl) ?_
  refine lv_iload_n hx hb d_Mo_feed_25 rfl (lv_at hl 1 rfl) ?_
  refine xc_V (As := [.int a0]) (rest := []) (n := 1) (wc := [(h0, .inr (7, [.int 0, .int 0, .int 0, .int 0, .int 0, .int 0, .int (-1), .int (-1), .int 0, .int 0, .int 0, .int 0, .int 0, .int 0, .int 0, .int 0, .ref (qa 0), .ref (qa 1), .ref (qa 2), .ref (qa 3), .int 0, .ref (qa 4), .ref (qa 5), .ref (qa 6), .ref (qa 7), .ref (qa 8), .ref (qa 9), .ref (qa 10), .ref (qa 11), .ref (qa 12), .ref (qa 13), .ref (qa 14), .ref (qa 15), .ref (qa 16), .ref (qa 17), .ref (qa 18), .ref (qa 19), .ref (qa 20), .int 0, .int 0, .int 0, .int 0, .long 0, .long 0, .long 0, .long 0, .long 0, .ref (qa 21), .int 0, .int 0, .int 0, .int 0])), ((qa 0), .inl ((qk 0), 8192, .inl (fun _ => 0)))]) (wr := []) (tc := [((qk 0), .byte)]) (tr := []) ⟨hx, hb, hml, hown, hts⟩ (c_Mo_four_0 l D h0 qa qk (fun _ => 0) a0 H.size) rfl rfl w_455 w_453 w_454 w_558 w_8 (by decide +kernel) ⟨Nat.le_of_ble_eq_true rfl, Nat.le_of_ble_eq_true rfl⟩ hP hD hK hS hA hN hZ [0, 1] [] rfl rfl (by decide) (by decide) (by decide) [0] [] rfl rfl (ci := 7) (q0 := 0) (q := (R_Mo, F_Mo, 52)) rfl rfl rfl rfl hl.1 rfl (Nat.le_of_ble_eq_true rfl) d_Mo_feed_26 ⟨Nat.le_of_ble_eq_true rfl, Nat.le_of_ble_eq_true rfl⟩ (fun u2 H locs hP hD hK hS => ?_)
  have hP : va_P D cls [(h0, .inr (7, [.int 0, .int 4, .int 0, .int 0, .int 0, .int 0, .int (-1), .int (-1), .int 0, .int 0, .int 0, .int 0, .int 0, .int 0, .int 0, .int 0, .ref (qa 0), .ref (qa 1), .ref (qa 2), .ref (qa 3), .int 0, .ref (qa 4), .ref (qa 5), .ref (qa 6), .ref (qa 7), .ref (qa 8), .ref (qa 9), .ref (qa 10), .ref (qa 11), .ref (qa 12), .ref (qa 13), .ref (qa 14), .ref (qa 15), .ref (qa 16), .ref (qa 17), .ref (qa 18), .ref (qa 19), .ref (qa 20), .int 0, .int 0, .int 0, .int 0, .long 0, .long 0, .long 0, .long 0, .long 0, .ref (qa 21), .int 0, .int 0, .int 0, .int 0])), ((qa 0), .inl ((qk 0), 8192, .inl u2))] H := hP
  have hD : va_D A [(h0, .inr (7, [.int 0, .int 4, .int 0, .int 0, .int 0, .int 0, .int (-1), .int (-1), .int 0, .int 0, .int 0, .int 0, .int 0, .int 0, .int 0, .int 0, .ref (qa 0), .ref (qa 1), .ref (qa 2), .ref (qa 3), .int 0, .ref (qa 4), .ref (qa 5), .ref (qa 6), .ref (qa 7), .ref (qa 8), .ref (qa 9), .ref (qa 10), .ref (qa 11), .ref (qa 12), .ref (qa 13), .ref (qa 14), .ref (qa 15), .ref (qa 16), .ref (qa 17), .ref (qa 18), .ref (qa 19), .ref (qa 20), .int 0, .int 0, .int 0, .int 0, .long 0, .long 0, .long 0, .long 0, .long 0, .ref (qa 21), .int 0, .int 0, .int 0, .int 0])), ((qa 0), .inl ((qk 0), 8192, .inl u2))] := hD
  have hK : va_K D cls [((qk 0), .byte)] s := hK
  refine W.eq (g2 := F0 m 29 ls []) rfl ?_
  refine lv_aload_n hx hb d_Mo_feed_29 rfl (lv_at hl 0 rfl) ?_
  refine lv_iload_n hx hb d_Mo_feed_30 rfl (lv_at hl 2 rfl) ?_
  refine xc_V (As := [.int a1]) (rest := []) (n := 1) (wc := [(h0, .inr (7, [.int 0, .int 4, .int 0, .int 0, .int 0, .int 0, .int (-1), .int (-1), .int 0, .int 0, .int 0, .int 0, .int 0, .int 0, .int 0, .int 0, .ref (qa 0), .ref (qa 1), .ref (qa 2), .ref (qa 3), .int 0, .ref (qa 4), .ref (qa 5), .ref (qa 6), .ref (qa 7), .ref (qa 8), .ref (qa 9), .ref (qa 10), .ref (qa 11), .ref (qa 12), .ref (qa 13), .ref (qa 14), .ref (qa 15), .ref (qa 16), .ref (qa 17), .ref (qa 18), .ref (qa 19), .ref (qa 20), .int 0, .int 0, .int 0, .int 0, .long 0, .long 0, .long 0, .long 0, .long 0, .ref (qa 21), .int 0, .int 0, .int 0, .int 0])), ((qa 0), .inl ((qk 0), 8192, .inl u2))]) (wr := []) (tc := [((qk 0), .byte)]) (tr := []) ⟨hx, hb, hml, hown, hts⟩ (c_Mo_four_4 l D h0 qa qk u2 a1 H.size) rfl rfl w_455 w_453 w_454 w_558 w_8 (by decide +kernel) ⟨Nat.le_of_ble_eq_true rfl, Nat.le_of_ble_eq_true rfl⟩ hP hD hK hS hA hN hZ [0, 1] [] rfl rfl (by decide) (by decide) (by decide) [0] [] rfl rfl (ci := 7) (q0 := 0) (q := (R_Mo, F_Mo, 52)) rfl rfl rfl rfl hl.1 rfl (Nat.le_of_ble_eq_true rfl) d_Mo_feed_31 ⟨Nat.le_of_ble_eq_true rfl, Nat.le_of_ble_eq_true rfl⟩ (fun u3 H locs hP hD hK hS => ?_)
  have hP : va_P D cls [(h0, .inr (7, [.int 0, .int 8, .int 0, .int 0, .int 0, .int 0, .int (-1), .int (-1), .int 0, .int 0, .int 0, .int 0, .int 0, .int 0, .int 0, .int 0, .ref (qa 0), .ref (qa 1), .ref (qa 2), .ref (qa 3), .int 0, .ref (qa 4), .ref (qa 5), .ref (qa 6), .ref (qa 7), .ref (qa 8), .ref (qa 9), .ref (qa 10), .ref (qa 11), .ref (qa 12), .ref (qa 13), .ref (qa 14), .ref (qa 15), .ref (qa 16), .ref (qa 17), .ref (qa 18), .ref (qa 19), .ref (qa 20), .int 0, .int 0, .int 0, .int 0, .long 0, .long 0, .long 0, .long 0, .long 0, .ref (qa 21), .int 0, .int 0, .int 0, .int 0])), ((qa 0), .inl ((qk 0), 8192, .inl u3))] H := hP
  have hD : va_D A [(h0, .inr (7, [.int 0, .int 8, .int 0, .int 0, .int 0, .int 0, .int (-1), .int (-1), .int 0, .int 0, .int 0, .int 0, .int 0, .int 0, .int 0, .int 0, .ref (qa 0), .ref (qa 1), .ref (qa 2), .ref (qa 3), .int 0, .ref (qa 4), .ref (qa 5), .ref (qa 6), .ref (qa 7), .ref (qa 8), .ref (qa 9), .ref (qa 10), .ref (qa 11), .ref (qa 12), .ref (qa 13), .ref (qa 14), .ref (qa 15), .ref (qa 16), .ref (qa 17), .ref (qa 18), .ref (qa 19), .ref (qa 20), .int 0, .int 0, .int 0, .int 0, .long 0, .long 0, .long 0, .long 0, .long 0, .ref (qa 21), .int 0, .int 0, .int 0, .int 0])), ((qa 0), .inl ((qk 0), 8192, .inl u3))] := hD
  have hK : va_K D cls [((qk 0), .byte)] s := hK
  refine W.eq (g2 := F0 m 34 ls []) rfl ?_
  refine lv_aload_n hx hb d_Mo_feed_34 rfl (lv_at hl 0 rfl) ?_
  refine lv_iload_n hx hb d_Mo_feed_35 rfl (lv_at hl 3 rfl) ?_
  refine xc_V (As := [.int a2]) (rest := []) (n := 1) (wc := [(h0, .inr (7, [.int 0, .int 8, .int 0, .int 0, .int 0, .int 0, .int (-1), .int (-1), .int 0, .int 0, .int 0, .int 0, .int 0, .int 0, .int 0, .int 0, .ref (qa 0), .ref (qa 1), .ref (qa 2), .ref (qa 3), .int 0, .ref (qa 4), .ref (qa 5), .ref (qa 6), .ref (qa 7), .ref (qa 8), .ref (qa 9), .ref (qa 10), .ref (qa 11), .ref (qa 12), .ref (qa 13), .ref (qa 14), .ref (qa 15), .ref (qa 16), .ref (qa 17), .ref (qa 18), .ref (qa 19), .ref (qa 20), .int 0, .int 0, .int 0, .int 0, .long 0, .long 0, .long 0, .long 0, .long 0, .ref (qa 21), .int 0, .int 0, .int 0, .int 0])), ((qa 0), .inl ((qk 0), 8192, .inl u3))]) (wr := []) (tc := [((qk 0), .byte)]) (tr := []) ⟨hx, hb, hml, hown, hts⟩ (c_Mo_four_8 l D h0 qa qk u3 a2 H.size) rfl rfl w_455 w_453 w_454 w_558 w_8 (by decide +kernel) ⟨Nat.le_of_ble_eq_true rfl, Nat.le_of_ble_eq_true rfl⟩ hP hD hK hS hA hN hZ [0, 1] [] rfl rfl (by decide) (by decide) (by decide) [0] [] rfl rfl (ci := 7) (q0 := 0) (q := (R_Mo, F_Mo, 52)) rfl rfl rfl rfl hl.1 rfl (Nat.le_of_ble_eq_true rfl) d_Mo_feed_36 ⟨Nat.le_of_ble_eq_true rfl, Nat.le_of_ble_eq_true rfl⟩ (fun u4 H locs hP hD hK hS => ?_)
  have hP : va_P D cls [(h0, .inr (7, [.int 0, .int 12, .int 0, .int 0, .int 0, .int 0, .int (-1), .int (-1), .int 0, .int 0, .int 0, .int 0, .int 0, .int 0, .int 0, .int 0, .ref (qa 0), .ref (qa 1), .ref (qa 2), .ref (qa 3), .int 0, .ref (qa 4), .ref (qa 5), .ref (qa 6), .ref (qa 7), .ref (qa 8), .ref (qa 9), .ref (qa 10), .ref (qa 11), .ref (qa 12), .ref (qa 13), .ref (qa 14), .ref (qa 15), .ref (qa 16), .ref (qa 17), .ref (qa 18), .ref (qa 19), .ref (qa 20), .int 0, .int 0, .int 0, .int 0, .long 0, .long 0, .long 0, .long 0, .long 0, .ref (qa 21), .int 0, .int 0, .int 0, .int 0])), ((qa 0), .inl ((qk 0), 8192, .inl u4))] H := hP
  have hD : va_D A [(h0, .inr (7, [.int 0, .int 12, .int 0, .int 0, .int 0, .int 0, .int (-1), .int (-1), .int 0, .int 0, .int 0, .int 0, .int 0, .int 0, .int 0, .int 0, .ref (qa 0), .ref (qa 1), .ref (qa 2), .ref (qa 3), .int 0, .ref (qa 4), .ref (qa 5), .ref (qa 6), .ref (qa 7), .ref (qa 8), .ref (qa 9), .ref (qa 10), .ref (qa 11), .ref (qa 12), .ref (qa 13), .ref (qa 14), .ref (qa 15), .ref (qa 16), .ref (qa 17), .ref (qa 18), .ref (qa 19), .ref (qa 20), .int 0, .int 0, .int 0, .int 0, .long 0, .long 0, .long 0, .long 0, .long 0, .ref (qa 21), .int 0, .int 0, .int 0, .int 0])), ((qa 0), .inl ((qk 0), 8192, .inl u4))] := hD
  have hK : va_K D cls [((qk 0), .byte)] s := hK
  refine W.eq (g2 := F0 m 39 ls []) rfl ?_
  refine lv_aload_n hx hb d_Mo_feed_39 rfl (lv_at hl 0 rfl) ?_
  refine lv_iload hx hb d_Mo_feed_40 (lv_at hl 4 rfl) ?_
  refine xc_V (As := [.int a3]) (rest := []) (n := 1) (wc := [(h0, .inr (7, [.int 0, .int 12, .int 0, .int 0, .int 0, .int 0, .int (-1), .int (-1), .int 0, .int 0, .int 0, .int 0, .int 0, .int 0, .int 0, .int 0, .ref (qa 0), .ref (qa 1), .ref (qa 2), .ref (qa 3), .int 0, .ref (qa 4), .ref (qa 5), .ref (qa 6), .ref (qa 7), .ref (qa 8), .ref (qa 9), .ref (qa 10), .ref (qa 11), .ref (qa 12), .ref (qa 13), .ref (qa 14), .ref (qa 15), .ref (qa 16), .ref (qa 17), .ref (qa 18), .ref (qa 19), .ref (qa 20), .int 0, .int 0, .int 0, .int 0, .long 0, .long 0, .long 0, .long 0, .long 0, .ref (qa 21), .int 0, .int 0, .int 0, .int 0])), ((qa 0), .inl ((qk 0), 8192, .inl u4))]) (wr := []) (tc := [((qk 0), .byte)]) (tr := []) ⟨hx, hb, hml, hown, hts⟩ (c_Mo_four_12 l D h0 qa qk u4 a3 H.size) rfl rfl w_455 w_453 w_454 w_558 w_8 (by decide +kernel) ⟨Nat.le_of_ble_eq_true rfl, Nat.le_of_ble_eq_true rfl⟩ hP hD hK hS hA hN hZ [0, 1] [] rfl rfl (by decide) (by decide) (by decide) [0] [] rfl rfl (ci := 7) (q0 := 0) (q := (R_Mo, F_Mo, 52)) rfl rfl rfl rfl hl.1 rfl (Nat.le_of_ble_eq_true rfl) d_Mo_feed_42 ⟨Nat.le_of_ble_eq_true rfl, Nat.le_of_ble_eq_true rfl⟩ (fun u5 H locs hP hD hK hS => ?_)
  have hP : va_P D cls [(h0, .inr (7, [.int 0, .int 16, .int 0, .int 0, .int 0, .int 0, .int (-1), .int (-1), .int 0, .int 0, .int 0, .int 0, .int 0, .int 0, .int 0, .int 0, .ref (qa 0), .ref (qa 1), .ref (qa 2), .ref (qa 3), .int 0, .ref (qa 4), .ref (qa 5), .ref (qa 6), .ref (qa 7), .ref (qa 8), .ref (qa 9), .ref (qa 10), .ref (qa 11), .ref (qa 12), .ref (qa 13), .ref (qa 14), .ref (qa 15), .ref (qa 16), .ref (qa 17), .ref (qa 18), .ref (qa 19), .ref (qa 20), .int 0, .int 0, .int 0, .int 0, .long 0, .long 0, .long 0, .long 0, .long 0, .ref (qa 21), .int 0, .int 0, .int 0, .int 0])), ((qa 0), .inl ((qk 0), 8192, .inl u5))] H := hP
  have hD : va_D A [(h0, .inr (7, [.int 0, .int 16, .int 0, .int 0, .int 0, .int 0, .int (-1), .int (-1), .int 0, .int 0, .int 0, .int 0, .int 0, .int 0, .int 0, .int 0, .ref (qa 0), .ref (qa 1), .ref (qa 2), .ref (qa 3), .int 0, .ref (qa 4), .ref (qa 5), .ref (qa 6), .ref (qa 7), .ref (qa 8), .ref (qa 9), .ref (qa 10), .ref (qa 11), .ref (qa 12), .ref (qa 13), .ref (qa 14), .ref (qa 15), .ref (qa 16), .ref (qa 17), .ref (qa 18), .ref (qa 19), .ref (qa 20), .int 0, .int 0, .int 0, .int 0, .long 0, .long 0, .long 0, .long 0, .long 0, .ref (qa 21), .int 0, .int 0, .int 0, .int 0])), ((qa 0), .inl ((qk 0), 8192, .inl u5))] := hD
  have hK : va_K D cls [((qk 0), .byte)] s := hK
  refine W.eq (g2 := F0 m 45 ls []) rfl ?_
  refine lv_aload_n hx hb d_Mo_feed_45 rfl (lv_at hl 0 rfl) ?_
  refine va_get (D := D) (ci := 7) (v := .int 16) (C := R_Mo) (T := F_Mo) (N := 52) hx hb hts i_Mo hown hK hP 0 rfl rfl 1 (by decide) (hts _ w_398) (fun _ h9 => h9) rfl d_Mo_feed_46 ?_
  exact xr_i hx hb hr hlocks hP hD hK hS (()) [0] rfl rfl (by decide) [] rfl rfl d_Mo_feed_49

theorem d_Mo_here_0 : decode b_Mo_here 0 = .ok (.aload_n 0, 1) := by decide +kernel
theorem d_Mo_here_1 : decode b_Mo_here 1 = .ok (.getfield 102, 3) := by decide +kernel
theorem d_Mo_here_4 : decode b_Mo_here 4 = .ok (.aload_n 0, 1) := by decide +kernel
theorem d_Mo_here_5 : decode b_Mo_here 5 = .ok (.getfield 105, 3) := by decide +kernel
theorem d_Mo_here_8 : decode b_Mo_here 8 = .ok (.if_icmp .ge 19, 3) := by decide +kernel
theorem d_Mo_here_27 : decode b_Mo_here 27 = .ok (.iconst (-1), 1) := by decide +kernel
theorem d_Mo_here_28 : decode b_Mo_here 28 = .ok (.ireturn, 1) := by decide +kernel
set_option maxHeartbeats 4000000 in
set_option maxRecDepth 100000 in
theorem c_Mo_here (l : Launch) (D : va_G) (h0 : Nat) (qa : Nat → Nat) (li : Int32) (sz : Nat) : Met l y_Mo_here (Cond.code y_Mo_here b_Mo_here 1 (some .int) :: bw) (xR 1 0 0) (va_Pc [.ref h0] (xP D [] sz [(h0, .inr (7, [.int 0, .int 0, .int 0, .int 0, .int 0, .int 0, .int (-1), .int (-1), .int 0, .int 0, .int 0, .int 0, .int 0, .int 0, .int li, .int 0, .ref (qa 0), .ref (qa 1), .ref (qa 2), .ref (qa 3), .int 0, .ref (qa 4), .ref (qa 5), .ref (qa 6), .ref (qa 7), .ref (qa 8), .ref (qa 9), .ref (qa 10), .ref (qa 11), .ref (qa 12), .ref (qa 13), .ref (qa 14), .ref (qa 15), .ref (qa 16), .ref (qa 17), .ref (qa 18), .ref (qa 19), .ref (qa 20), .int 0, .int 0, .int 0, .int 0, .long 0, .long 0, .long 0, .long 0, .long 0, .ref (qa 21), .int 0, .int 0, .int 0, .int 0]))])) (xQ (S := Unit) (fun _ => some (.int (-1))) (fun _ => [(h0, .inr (7, [.int 0, .int 0, .int 0, .int 0, .int 0, .int 0, .int (-1), .int (-1), .int 0, .int 0, .int 0, .int 0, .int 0, .int 0, .int li, .int 0, .ref (qa 0), .ref (qa 1), .ref (qa 2), .ref (qa 3), .int 0, .ref (qa 4), .ref (qa 5), .ref (qa 6), .ref (qa 7), .ref (qa 8), .ref (qa 9), .ref (qa 10), .ref (qa 11), .ref (qa 12), .ref (qa 13), .ref (qa 14), .ref (qa 15), .ref (qa 16), .ref (qa 17), .ref (qa 18), .ref (qa 19), .ref (qa 20), .int 0, .int 0, .int 0, .int 0, .long 0, .long 0, .long 0, .long 0, .long 0, .ref (qa 21), .int 0, .int 0, .int 0, .int 0]))]) (fun _ => []) D (va_A [(h0, .inr (7, [.int 0, .int 0, .int 0, .int 0, .int 0, .int 0, .int (-1), .int (-1), .int 0, .int 0, .int 0, .int 0, .int 0, .int 0, .int li, .int 0, .ref (qa 0), .ref (qa 1), .ref (qa 2), .ref (qa 3), .int 0, .ref (qa 4), .ref (qa 5), .ref (qa 6), .ref (qa 7), .ref (qa 8), .ref (qa 9), .ref (qa 10), .ref (qa 11), .ref (qa 12), .ref (qa 13), .ref (qa 14), .ref (qa 15), .ref (qa 16), .ref (qa 17), .ref (qa 18), .ref (qa 19), .ref (qa 20), .int 0, .int 0, .int 0, .int 0, .long 0, .long 0, .long 0, .long 0, .long 0, .ref (qa 21), .int 0, .int 0, .int 0, .int 0]))] sz)) 0 0 (va_A [(h0, .inr (7, [.int 0, .int 0, .int 0, .int 0, .int 0, .int 0, .int (-1), .int (-1), .int 0, .int 0, .int 0, .int 0, .int 0, .int 0, .int li, .int 0, .ref (qa 0), .ref (qa 1), .ref (qa 2), .ref (qa 3), .int 0, .ref (qa 4), .ref (qa 5), .ref (qa 6), .ref (qa 7), .ref (qa 8), .ref (qa 9), .ref (qa 10), .ref (qa 11), .ref (qa 12), .ref (qa 13), .ref (qa 14), .ref (qa 15), .ref (qa 16), .ref (qa 17), .ref (qa 18), .ref (qa 19), .ref (qa 20), .int 0, .int 0, .int 0, .int 0, .long 0, .long 0, .long 0, .long 0, .long 0, .ref (qa 21), .int 0, .int 0, .int 0, .int 0]))] sz) := by
  refine Met.ofW (cc := b_Mo_here) (maxL := 1) (ret := (some .int)) (by decide) rfl ?_
  intro p e s m args below meth c s₁ B hml hv
  obtain ⟨rfl, hsz, hP, hK, hD0, hN, hZ⟩ := hv
  have hx := B.exec
  have hb := B.bytes
  have hr := B.returns
  have hlocks := B.notSynchronized
  have hts : ∀ w ∈ bw, w.before _ s = true := fun w h => atoms_spec (ws := Cond.code y_Mo_here b_Mo_here 1 (some .int) :: bw) B.pre w (List.mem_cons_of_mem _ h)
  have hown : s.vm.findClass "ObjectForgeModel" = some m.cls := findClass_of_methodNamed B.named
  subst hsz
  have hP0 := hP
  have hD := hD0.self (sz := s.heap.size)
  generalize hAe : va_A [(h0, .inr (7, [.int 0, .int 0, .int 0, .int 0, .int 0, .int 0, .int (-1), .int (-1), .int 0, .int 0, .int 0, .int 0, .int 0, .int 0, .int li, .int 0, .ref (qa 0), .ref (qa 1), .ref (qa 2), .ref (qa 3), .int 0, .ref (qa 4), .ref (qa 5), .ref (qa 6), .ref (qa 7), .ref (qa 8), .ref (qa 9), .ref (qa 10), .ref (qa 11), .ref (qa 12), .ref (qa 13), .ref (qa 14), .ref (qa 15), .ref (qa 16), .ref (qa 17), .ref (qa 18), .ref (qa 19), .ref (qa 20), .int 0, .int 0, .int 0, .int 0, .long 0, .long 0, .long 0, .long 0, .long 0, .ref (qa 21), .int 0, .int 0, .int 0, .int 0]))] s.heap.size = A at hD hZ ⊢
  have hA : ∀ q : Nat, s.heap.size ≤ q → A q := fun q h => by rw [← hAe]; exact Or.inr h
  have hS : va_S A s.heap s.heap [] := va_S.rf
  have hl := lv_entry ([.ref h0]) (n := 1) (Nat.le_of_ble_eq_true rfl)
  rw [lg_entry_eq]
  generalize (lg_sl ([.ref h0]) ++ List.replicate (1 - (lg_sl ([.ref h0])).length) Slot.unset).toArray = ls at hl ⊢
  have hl : lv_has ls 1 [(0, .ref h0)] := hl
  refine lv_aload_n hx hb d_Mo_here_0 rfl (lv_at hl 0 rfl) ?_
  refine va_get (D := D) (ci := 7) (v := .int 0) (C := R_Mo) (T := F_Mo) (N := 52) hx hb hts i_Mo hown hK hP 0 rfl rfl 11 (by decide) (hts _ w_430) (fun _ h9 => h9) rfl d_Mo_here_1 ?_
  refine lv_aload_n hx hb d_Mo_here_4 rfl (lv_at hl 0 rfl) ?_
  refine va_get (D := D) (ci := 7) (v := .int 0) (C := R_Mo) (T := F_Mo) (N := 52) hx hb hts i_Mo hown hK hP 0 rfl rfl 12 (by decide) (hts _ w_431) (fun _ h9 => h9) rfl d_Mo_here_5 ?_
  refine lv_icmp_ge (tgt := 27) hx hb d_Mo_here_8 (by decide) (fun _ => ?_) (fun q9 => absurd (by decide : ((0 : Int32) ≤ 0)) q9)
  refine lv_iconst (v := (-1)) hx hb d_Mo_here_27 (by decide) ?_
  exact xr_i hx hb hr hlocks hP hD hK hS (()) [0] rfl rfl (by decide) [] rfl rfl d_Mo_here_28

theorem d_Mo_fine_0 : decode b_Mo_fine 0 = .ok (.aload_n 0, 1) := by decide +kernel
theorem d_Mo_fine_1 : decode b_Mo_fine 1 = .ok (.getfield 982, 3) := by decide +kernel
theorem d_Mo_fine_4 : decode b_Mo_fine 4 = .ok (.ifCond .ne 7, 3) := by decide +kernel
theorem d_Mo_fine_7 : decode b_Mo_fine 7 = .ok (.iconst 1, 1) := by decide +kernel
theorem d_Mo_fine_8 : decode b_Mo_fine 8 = .ok (.goto 4, 3) := by decide +kernel
theorem d_Mo_fine_12 : decode b_Mo_fine 12 = .ok (.ireturn, 1) := by decide +kernel
set_option maxHeartbeats 4000000 in
set_option maxRecDepth 100000 in
theorem c_Mo_fine (l : Launch) (D : va_G) (h0 : Nat) (qa : Nat → Nat) (li : Int32) (sz : Nat) : Met l y_Mo_fine (Cond.code y_Mo_fine b_Mo_fine 1 (some .boolean) :: bw) (xR 1 0 0) (va_Pc [.ref h0] (xP D [] sz [(h0, .inr (7, [.int 0, .int 0, .int 0, .int 0, .int 0, .int 0, .int (-1), .int (-1), .int 0, .int 0, .int 0, .int 0, .int 0, .int 0, .int li, .int 0, .ref (qa 0), .ref (qa 1), .ref (qa 2), .ref (qa 3), .int 0, .ref (qa 4), .ref (qa 5), .ref (qa 6), .ref (qa 7), .ref (qa 8), .ref (qa 9), .ref (qa 10), .ref (qa 11), .ref (qa 12), .ref (qa 13), .ref (qa 14), .ref (qa 15), .ref (qa 16), .ref (qa 17), .ref (qa 18), .ref (qa 19), .ref (qa 20), .int 0, .int 0, .int 0, .int 0, .long 0, .long 0, .long 0, .long 0, .long 0, .ref (qa 21), .int 0, .int 0, .int 0, .int 0]))])) (xQ (S := Unit) (fun _ => some (.int 1)) (fun _ => [(h0, .inr (7, [.int 0, .int 0, .int 0, .int 0, .int 0, .int 0, .int (-1), .int (-1), .int 0, .int 0, .int 0, .int 0, .int 0, .int 0, .int li, .int 0, .ref (qa 0), .ref (qa 1), .ref (qa 2), .ref (qa 3), .int 0, .ref (qa 4), .ref (qa 5), .ref (qa 6), .ref (qa 7), .ref (qa 8), .ref (qa 9), .ref (qa 10), .ref (qa 11), .ref (qa 12), .ref (qa 13), .ref (qa 14), .ref (qa 15), .ref (qa 16), .ref (qa 17), .ref (qa 18), .ref (qa 19), .ref (qa 20), .int 0, .int 0, .int 0, .int 0, .long 0, .long 0, .long 0, .long 0, .long 0, .ref (qa 21), .int 0, .int 0, .int 0, .int 0]))]) (fun _ => []) D (va_A [(h0, .inr (7, [.int 0, .int 0, .int 0, .int 0, .int 0, .int 0, .int (-1), .int (-1), .int 0, .int 0, .int 0, .int 0, .int 0, .int 0, .int li, .int 0, .ref (qa 0), .ref (qa 1), .ref (qa 2), .ref (qa 3), .int 0, .ref (qa 4), .ref (qa 5), .ref (qa 6), .ref (qa 7), .ref (qa 8), .ref (qa 9), .ref (qa 10), .ref (qa 11), .ref (qa 12), .ref (qa 13), .ref (qa 14), .ref (qa 15), .ref (qa 16), .ref (qa 17), .ref (qa 18), .ref (qa 19), .ref (qa 20), .int 0, .int 0, .int 0, .int 0, .long 0, .long 0, .long 0, .long 0, .long 0, .ref (qa 21), .int 0, .int 0, .int 0, .int 0]))] sz)) 0 0 (va_A [(h0, .inr (7, [.int 0, .int 0, .int 0, .int 0, .int 0, .int 0, .int (-1), .int (-1), .int 0, .int 0, .int 0, .int 0, .int 0, .int 0, .int li, .int 0, .ref (qa 0), .ref (qa 1), .ref (qa 2), .ref (qa 3), .int 0, .ref (qa 4), .ref (qa 5), .ref (qa 6), .ref (qa 7), .ref (qa 8), .ref (qa 9), .ref (qa 10), .ref (qa 11), .ref (qa 12), .ref (qa 13), .ref (qa 14), .ref (qa 15), .ref (qa 16), .ref (qa 17), .ref (qa 18), .ref (qa 19), .ref (qa 20), .int 0, .int 0, .int 0, .int 0, .long 0, .long 0, .long 0, .long 0, .long 0, .ref (qa 21), .int 0, .int 0, .int 0, .int 0]))] sz) := by
  refine Met.ofW (cc := b_Mo_fine) (maxL := 1) (ret := (some .boolean)) (by decide) rfl ?_
  intro p e s m args below meth c s₁ B hml hv
  obtain ⟨rfl, hsz, hP, hK, hD0, hN, hZ⟩ := hv
  have hx := B.exec
  have hb := B.bytes
  have hr := B.returns
  have hlocks := B.notSynchronized
  have hts : ∀ w ∈ bw, w.before _ s = true := fun w h => atoms_spec (ws := Cond.code y_Mo_fine b_Mo_fine 1 (some .boolean) :: bw) B.pre w (List.mem_cons_of_mem _ h)
  have hown : s.vm.findClass "ObjectForgeModel" = some m.cls := findClass_of_methodNamed B.named
  subst hsz
  have hP0 := hP
  have hD := hD0.self (sz := s.heap.size)
  generalize hAe : va_A [(h0, .inr (7, [.int 0, .int 0, .int 0, .int 0, .int 0, .int 0, .int (-1), .int (-1), .int 0, .int 0, .int 0, .int 0, .int 0, .int 0, .int li, .int 0, .ref (qa 0), .ref (qa 1), .ref (qa 2), .ref (qa 3), .int 0, .ref (qa 4), .ref (qa 5), .ref (qa 6), .ref (qa 7), .ref (qa 8), .ref (qa 9), .ref (qa 10), .ref (qa 11), .ref (qa 12), .ref (qa 13), .ref (qa 14), .ref (qa 15), .ref (qa 16), .ref (qa 17), .ref (qa 18), .ref (qa 19), .ref (qa 20), .int 0, .int 0, .int 0, .int 0, .long 0, .long 0, .long 0, .long 0, .long 0, .ref (qa 21), .int 0, .int 0, .int 0, .int 0]))] s.heap.size = A at hD hZ ⊢
  have hA : ∀ q : Nat, s.heap.size ≤ q → A q := fun q h => by rw [← hAe]; exact Or.inr h
  have hS : va_S A s.heap s.heap [] := va_S.rf
  have hl := lv_entry ([.ref h0]) (n := 1) (Nat.le_of_ble_eq_true rfl)
  rw [lg_entry_eq]
  generalize (lg_sl ([.ref h0]) ++ List.replicate (1 - (lg_sl ([.ref h0])).length) Slot.unset).toArray = ls at hl ⊢
  have hl : lv_has ls 1 [(0, .ref h0)] := hl
  refine lv_aload_n hx hb d_Mo_fine_0 rfl (lv_at hl 0 rfl) ?_
  refine va_get (D := D) (ci := 7) (v := .int 0) (C := R_Mo) (T := F_Mo) (N := 52) hx hb hts i_Mo hown hK hP 0 rfl rfl 3 (by decide) (hts _ w_419) (fun _ h9 => h9) rfl d_Mo_fine_1 ?_
  refine lv_if_ne (tgt := 11) hx hb d_Mo_fine_4 (by decide) (fun q9 => absurd (by decide : ((0 : Int32) = 0)) q9) (fun _ => ?_)
  refine lv_iconst (v := 1) hx hb d_Mo_fine_7 (by decide) ?_
  refine lv_goto (tgt := 12) hx hb d_Mo_fine_8 (by decide) ?_
  exact xr_z hx hb hr rfl hlocks hP hD hK hS (()) [0] rfl rfl (by decide) [] rfl rfl d_Mo_fine_12

theorem d_Mo_next_0 : decode b_Mo_next 0 = .ok (.aload_n 0, 1) := by decide +kernel
theorem d_Mo_next_1 : decode b_Mo_next 1 = .ok (.invokevirtual 108, 3) := by decide +kernel
theorem d_Mo_next_4 : decode b_Mo_next 4 = .ok (.bipush 32, 2) := by decide +kernel
theorem d_Mo_next_6 : decode b_Mo_next 6 = .ok (.if_icmp .eq 12, 3) := by decide +kernel
theorem d_Mo_next_9 : decode b_Mo_next 9 = .ok (.aload_n 0, 1) := by decide +kernel
theorem d_Mo_next_10 : decode b_Mo_next 10 = .ok (.invokevirtual 108, 3) := by decide +kernel
theorem d_Mo_next_13 : decode b_Mo_next 13 = .ok (.bipush 9, 2) := by decide +kernel
theorem d_Mo_next_15 : decode b_Mo_next 15 = .ok (.if_icmp .ne 16, 3) := by decide +kernel
theorem d_Mo_next_31 : decode b_Mo_next 31 = .ok (.aload_n 0, 1) := by decide +kernel
theorem d_Mo_next_32 : decode b_Mo_next 32 = .ok (.invokevirtual 108, 3) := by decide +kernel
theorem d_Mo_next_35 : decode b_Mo_next 35 = .ok (.istore_n 1, 1) := by decide +kernel
theorem d_Mo_next_36 : decode b_Mo_next 36 = .ok (.iload_n 1, 1) := by decide +kernel
theorem d_Mo_next_37 : decode b_Mo_next 37 = .ok (.iconst (-1), 1) := by decide +kernel
theorem d_Mo_next_38 : decode b_Mo_next 38 = .ok (.if_icmp .eq 9, 3) := by decide +kernel
theorem d_Mo_next_47 : decode b_Mo_next 47 = .ok (.aload_n 0, 1) := by decide +kernel
theorem d_Mo_next_48 : decode b_Mo_next 48 = .ok (.iconst 0, 1) := by decide +kernel
theorem d_Mo_next_49 : decode b_Mo_next 49 = .ok (.putfield 119, 3) := by decide +kernel
theorem d_Mo_next_52 : decode b_Mo_next 52 = .ok (.return_, 1) := by decide +kernel
set_option maxHeartbeats 4000000 in
set_option maxRecDepth 100000 in
theorem c_Mo_next (l : Launch) (D : va_G) (h0 : Nat) (qa : Nat → Nat) (li : Int32) (sz : Nat) : Met l y_Mo_next (Cond.code y_Mo_next b_Mo_next 2 none :: bw) (xR 2 0 0) (va_Pc [.ref h0] (xP D [] sz [(h0, .inr (7, [.int 0, .int 0, .int 0, .int 0, .int 0, .int 0, .int (-1), .int (-1), .int 0, .int 0, .int 0, .int 0, .int 0, .int 0, .int li, .int 0, .ref (qa 0), .ref (qa 1), .ref (qa 2), .ref (qa 3), .int 0, .ref (qa 4), .ref (qa 5), .ref (qa 6), .ref (qa 7), .ref (qa 8), .ref (qa 9), .ref (qa 10), .ref (qa 11), .ref (qa 12), .ref (qa 13), .ref (qa 14), .ref (qa 15), .ref (qa 16), .ref (qa 17), .ref (qa 18), .ref (qa 19), .ref (qa 20), .int 0, .int 0, .int 0, .int 0, .long 0, .long 0, .long 0, .long 0, .long 0, .ref (qa 21), .int 0, .int 0, .int 0, .int 0]))])) (xQ (S := Unit) (fun _ => none) (fun _ => [(h0, .inr (7, [.int 0, .int 0, .int 0, .int 0, .int 0, .int 0, .int (-1), .int (-1), .int 0, .int 0, .int 0, .int 0, .int 0, .int 0, .int li, .int 0, .ref (qa 0), .ref (qa 1), .ref (qa 2), .ref (qa 3), .int 0, .ref (qa 4), .ref (qa 5), .ref (qa 6), .ref (qa 7), .ref (qa 8), .ref (qa 9), .ref (qa 10), .ref (qa 11), .ref (qa 12), .ref (qa 13), .ref (qa 14), .ref (qa 15), .ref (qa 16), .ref (qa 17), .ref (qa 18), .ref (qa 19), .ref (qa 20), .int 0, .int 0, .int 0, .int 0, .long 0, .long 0, .long 0, .long 0, .long 0, .ref (qa 21), .int 0, .int 0, .int 0, .int 0]))]) (fun _ => []) D (va_A [(h0, .inr (7, [.int 0, .int 0, .int 0, .int 0, .int 0, .int 0, .int (-1), .int (-1), .int 0, .int 0, .int 0, .int 0, .int 0, .int 0, .int li, .int 0, .ref (qa 0), .ref (qa 1), .ref (qa 2), .ref (qa 3), .int 0, .ref (qa 4), .ref (qa 5), .ref (qa 6), .ref (qa 7), .ref (qa 8), .ref (qa 9), .ref (qa 10), .ref (qa 11), .ref (qa 12), .ref (qa 13), .ref (qa 14), .ref (qa 15), .ref (qa 16), .ref (qa 17), .ref (qa 18), .ref (qa 19), .ref (qa 20), .int 0, .int 0, .int 0, .int 0, .long 0, .long 0, .long 0, .long 0, .long 0, .ref (qa 21), .int 0, .int 0, .int 0, .int 0]))] sz)) 0 0 (va_A [(h0, .inr (7, [.int 0, .int 0, .int 0, .int 0, .int 0, .int 0, .int (-1), .int (-1), .int 0, .int 0, .int 0, .int 0, .int 0, .int 0, .int li, .int 0, .ref (qa 0), .ref (qa 1), .ref (qa 2), .ref (qa 3), .int 0, .ref (qa 4), .ref (qa 5), .ref (qa 6), .ref (qa 7), .ref (qa 8), .ref (qa 9), .ref (qa 10), .ref (qa 11), .ref (qa 12), .ref (qa 13), .ref (qa 14), .ref (qa 15), .ref (qa 16), .ref (qa 17), .ref (qa 18), .ref (qa 19), .ref (qa 20), .int 0, .int 0, .int 0, .int 0, .long 0, .long 0, .long 0, .long 0, .long 0, .ref (qa 21), .int 0, .int 0, .int 0, .int 0]))] sz) := by
  refine Met.ofW (cc := b_Mo_next) (maxL := 2) (ret := none) (by decide) rfl ?_
  intro p e s m args below meth c s₁ B hml hv
  obtain ⟨rfl, hsz, hP, hK, hD0, hN, hZ⟩ := hv
  have hx := B.exec
  have hb := B.bytes
  have hr := B.returns
  have hlocks := B.notSynchronized
  have hts : ∀ w ∈ bw, w.before _ s = true := fun w h => atoms_spec (ws := Cond.code y_Mo_next b_Mo_next 2 none :: bw) B.pre w (List.mem_cons_of_mem _ h)
  have hown : s.vm.findClass "ObjectForgeModel" = some m.cls := findClass_of_methodNamed B.named
  subst hsz
  have hP0 := hP
  have hD := hD0.self (sz := s.heap.size)
  generalize hAe : va_A [(h0, .inr (7, [.int 0, .int 0, .int 0, .int 0, .int 0, .int 0, .int (-1), .int (-1), .int 0, .int 0, .int 0, .int 0, .int 0, .int 0, .int li, .int 0, .ref (qa 0), .ref (qa 1), .ref (qa 2), .ref (qa 3), .int 0, .ref (qa 4), .ref (qa 5), .ref (qa 6), .ref (qa 7), .ref (qa 8), .ref (qa 9), .ref (qa 10), .ref (qa 11), .ref (qa 12), .ref (qa 13), .ref (qa 14), .ref (qa 15), .ref (qa 16), .ref (qa 17), .ref (qa 18), .ref (qa 19), .ref (qa 20), .int 0, .int 0, .int 0, .int 0, .long 0, .long 0, .long 0, .long 0, .long 0, .ref (qa 21), .int 0, .int 0, .int 0, .int 0]))] s.heap.size = A at hD hZ ⊢
  have hA : ∀ q : Nat, s.heap.size ≤ q → A q := fun q h => by rw [← hAe]; exact Or.inr h
  have hS : va_S A s.heap s.heap [] := va_S.rf
  have hl := lv_entry ([.ref h0]) (n := 2) (Nat.le_of_ble_eq_true rfl)
  rw [lg_entry_eq]
  generalize (lg_sl ([.ref h0]) ++ List.replicate (2 - (lg_sl ([.ref h0])).length) Slot.unset).toArray = ls at hl ⊢
  have hl : lv_has ls 2 [(0, .ref h0)] := hl
  refine lv_aload_n hx hb d_Mo_next_0 rfl (lv_at hl 0 rfl) ?_
  refine xc_V (As := []) (rest := []) (n := 0) (wc := [(h0, .inr (7, [.int 0, .int 0, .int 0, .int 0, .int 0, .int 0, .int (-1), .int (-1), .int 0, .int 0, .int 0, .int 0, .int 0, .int 0, .int li, .int 0, .ref (qa 0), .ref (qa 1), .ref (qa 2), .ref (qa 3), .int 0, .ref (qa 4), .ref (qa 5), .ref (qa 6), .ref (qa 7), .ref (qa 8), .ref (qa 9), .ref (qa 10), .ref (qa 11), .ref (qa 12), .ref (qa 13), .ref (qa 14), .ref (qa 15), .ref (qa 16), .ref (qa 17), .ref (qa 18), .ref (qa 19), .ref (qa 20), .int 0, .int 0, .int 0, .int 0, .long 0, .long 0, .long 0, .long 0, .long 0, .ref (qa 21), .int 0, .int 0, .int 0, .int 0]))]) (wr := []) (tc := []) (tr := []) ⟨hx, hb, hml, hown, hts⟩ (c_Mo_here l D h0 qa li s.heap.size) rfl rfl w_475 w_473 w_474 w_562 w_8 (by decide +kernel) ⟨Nat.le_of_ble_eq_true rfl, Nat.le_of_ble_eq_true rfl⟩ hP hD hK hS hA hN hZ [0] [] rfl rfl (by decide) (by decide) (by decide) [] [] rfl rfl (ci := 7) (q0 := 0) (q := (R_Mo, F_Mo, 52)) rfl rfl rfl rfl hl.1 rfl (Nat.le_of_ble_eq_true rfl) d_Mo_next_1 ⟨Nat.le_of_ble_eq_true rfl, Nat.le_of_ble_eq_true rfl⟩ (fun u1 H locs hP hD hK hS => ?_)
  have hP : va_P D cls [(h0, .inr (7, [.int 0, .int 0, .int 0, .int 0, .int 0, .int 0, .int (-1), .int (-1), .int 0, .int 0, .int 0, .int 0, .int 0, .int 0, .int li, .int 0, .ref (qa 0), .ref (qa 1), .ref (qa 2), .ref (qa 3), .int 0, .ref (qa 4), .ref (qa 5), .ref (qa 6), .ref (qa 7), .ref (qa 8), .ref (qa 9), .ref (qa 10), .ref (qa 11), .ref (qa 12), .ref (qa 13), .ref (qa 14), .ref (qa 15), .ref (qa 16), .ref (qa 17), .ref (qa 18), .ref (qa 19), .ref (qa 20), .int 0, .int 0, .int 0, .int 0, .long 0, .long 0, .long 0, .long 0, .long 0, .ref (qa 21), .int 0, .int 0, .int 0, .int 0]))] H := hP
  have hD : va_D A [(h0, .inr (7, [.int 0, .int 0, .int 0, .int 0, .int 0, .int 0, .int (-1), .int (-1), .int 0, .int 0, .int 0, .int 0, .int 0, .int 0, .int li, .int 0, .ref (qa 0), .ref (qa 1), .ref (qa 2), .ref (qa 3), .int 0, .ref (qa 4), .ref (qa 5), .ref (qa 6), .ref (qa 7), .ref (qa 8), .ref (qa 9), .ref (qa 10), .ref (qa 11), .ref (qa 12), .ref (qa 13), .ref (qa 14), .ref (qa 15), .ref (qa 16), .ref (qa 17), .ref (qa 18), .ref (qa 19), .ref (qa 20), .int 0, .int 0, .int 0, .int 0, .long 0, .long 0, .long 0, .long 0, .long 0, .ref (qa 21), .int 0, .int 0, .int 0, .int 0]))] := hD
  have hK : va_K D cls [] s := hK
  refine W.eq (g2 := F0 m 4 ls [.int (-1)]) rfl ?_
  refine lv_bipush (v := 32) hx hb d_Mo_next_4 (by decide) ?_
  refine lv_icmp_eq (tgt := 18) hx hb d_Mo_next_6 (by decide) (fun q9 => absurd q9 (by decide : ¬ (((-1) : Int32) = 32))) (fun _ => ?_)
  refine lv_aload_n hx hb d_Mo_next_9 rfl (lv_at hl 0 rfl) ?_
  refine xc_V (As := []) (rest := []) (n := 0) (wc := [(h0, .inr (7, [.int 0, .int 0, .int 0, .int 0, .int 0, .int 0, .int (-1), .int (-1), .int 0, .int 0, .int 0, .int 0, .int 0, .int 0, .int li, .int 0, .ref (qa 0), .ref (qa 1), .ref (qa 2), .ref (qa 3), .int 0, .ref (qa 4), .ref (qa 5), .ref (qa 6), .ref (qa 7), .ref (qa 8), .ref (qa 9), .ref (qa 10), .ref (qa 11), .ref (qa 12), .ref (qa 13), .ref (qa 14), .ref (qa 15), .ref (qa 16), .ref (qa 17), .ref (qa 18), .ref (qa 19), .ref (qa 20), .int 0, .int 0, .int 0, .int 0, .long 0, .long 0, .long 0, .long 0, .long 0, .ref (qa 21), .int 0, .int 0, .int 0, .int 0]))]) (wr := []) (tc := []) (tr := []) ⟨hx, hb, hml, hown, hts⟩ (c_Mo_here l D h0 qa li H.size) rfl rfl w_475 w_473 w_474 w_562 w_8 (by decide +kernel) ⟨Nat.le_of_ble_eq_true rfl, Nat.le_of_ble_eq_true rfl⟩ hP hD hK hS hA hN hZ [0] [] rfl rfl (by decide) (by decide) (by decide) [] [] rfl rfl (ci := 7) (q0 := 0) (q := (R_Mo, F_Mo, 52)) rfl rfl rfl rfl hl.1 rfl (Nat.le_of_ble_eq_true rfl) d_Mo_next_10 ⟨Nat.le_of_ble_eq_true rfl, Nat.le_of_ble_eq_true rfl⟩ (fun u2 H locs hP hD hK hS => ?_)
  have hP : va_P D cls [(h0, .inr (7, [.int 0, .int 0, .int 0, .int 0, .int 0, .int 0, .int (-1), .int (-1), .int 0, .int 0, .int 0, .int 0, .int 0, .int 0, .int li, .int 0, .ref (qa 0), .ref (qa 1), .ref (qa 2), .ref (qa 3), .int 0, .ref (qa 4), .ref (qa 5), .ref (qa 6), .ref (qa 7), .ref (qa 8), .ref (qa 9), .ref (qa 10), .ref (qa 11), .ref (qa 12), .ref (qa 13), .ref (qa 14), .ref (qa 15), .ref (qa 16), .ref (qa 17), .ref (qa 18), .ref (qa 19), .ref (qa 20), .int 0, .int 0, .int 0, .int 0, .long 0, .long 0, .long 0, .long 0, .long 0, .ref (qa 21), .int 0, .int 0, .int 0, .int 0]))] H := hP
  have hD : va_D A [(h0, .inr (7, [.int 0, .int 0, .int 0, .int 0, .int 0, .int 0, .int (-1), .int (-1), .int 0, .int 0, .int 0, .int 0, .int 0, .int 0, .int li, .int 0, .ref (qa 0), .ref (qa 1), .ref (qa 2), .ref (qa 3), .int 0, .ref (qa 4), .ref (qa 5), .ref (qa 6), .ref (qa 7), .ref (qa 8), .ref (qa 9), .ref (qa 10), .ref (qa 11), .ref (qa 12), .ref (qa 13), .ref (qa 14), .ref (qa 15), .ref (qa 16), .ref (qa 17), .ref (qa 18), .ref (qa 19), .ref (qa 20), .int 0, .int 0, .int 0, .int 0, .long 0, .long 0, .long 0, .long 0, .long 0, .ref (qa 21), .int 0, .int 0, .int 0, .int 0]))] := hD
  have hK : va_K D cls [] s := hK
  refine W.eq (g2 := F0 m 13 ls [.int (-1)]) rfl ?_
  refine lv_bipush (v := 9) hx hb d_Mo_next_13 (by decide) ?_
  refine lv_icmp_ne (tgt := 31) hx hb d_Mo_next_15 (by decide) (fun _ => ?_) (fun q9 => absurd q9 (by decide : ¬ (((-1) : Int32) = 9)))
  refine lv_aload_n hx hb d_Mo_next_31 rfl (lv_at hl 0 rfl) ?_
  refine xc_V (As := []) (rest := []) (n := 0) (wc := [(h0, .inr (7, [.int 0, .int 0, .int 0, .int 0, .int 0, .int 0, .int (-1), .int (-1), .int 0, .int 0, .int 0, .int 0, .int 0, .int 0, .int li, .int 0, .ref (qa 0), .ref (qa 1), .ref (qa 2), .ref (qa 3), .int 0, .ref (qa 4), .ref (qa 5), .ref (qa 6), .ref (qa 7), .ref (qa 8), .ref (qa 9), .ref (qa 10), .ref (qa 11), .ref (qa 12), .ref (qa 13), .ref (qa 14), .ref (qa 15), .ref (qa 16), .ref (qa 17), .ref (qa 18), .ref (qa 19), .ref (qa 20), .int 0, .int 0, .int 0, .int 0, .long 0, .long 0, .long 0, .long 0, .long 0, .ref (qa 21), .int 0, .int 0, .int 0, .int 0]))]) (wr := []) (tc := []) (tr := []) ⟨hx, hb, hml, hown, hts⟩ (c_Mo_here l D h0 qa li H.size) rfl rfl w_475 w_473 w_474 w_562 w_8 (by decide +kernel) ⟨Nat.le_of_ble_eq_true rfl, Nat.le_of_ble_eq_true rfl⟩ hP hD hK hS hA hN hZ [0] [] rfl rfl (by decide) (by decide) (by decide) [] [] rfl rfl (ci := 7) (q0 := 0) (q := (R_Mo, F_Mo, 52)) rfl rfl rfl rfl hl.1 rfl (Nat.le_of_ble_eq_true rfl) d_Mo_next_32 ⟨Nat.le_of_ble_eq_true rfl, Nat.le_of_ble_eq_true rfl⟩ (fun u3 H locs hP hD hK hS => ?_)
  have hP : va_P D cls [(h0, .inr (7, [.int 0, .int 0, .int 0, .int 0, .int 0, .int 0, .int (-1), .int (-1), .int 0, .int 0, .int 0, .int 0, .int 0, .int 0, .int li, .int 0, .ref (qa 0), .ref (qa 1), .ref (qa 2), .ref (qa 3), .int 0, .ref (qa 4), .ref (qa 5), .ref (qa 6), .ref (qa 7), .ref (qa 8), .ref (qa 9), .ref (qa 10), .ref (qa 11), .ref (qa 12), .ref (qa 13), .ref (qa 14), .ref (qa 15), .ref (qa 16), .ref (qa 17), .ref (qa 18), .ref (qa 19), .ref (qa 20), .int 0, .int 0, .int 0, .int 0, .long 0, .long 0, .long 0, .long 0, .long 0, .ref (qa 21), .int 0, .int 0, .int 0, .int 0]))] H := hP
  have hD : va_D A [(h0, .inr (7, [.int 0, .int 0, .int 0, .int 0, .int 0, .int 0, .int (-1), .int (-1), .int 0, .int 0, .int 0, .int 0, .int 0, .int 0, .int li, .int 0, .ref (qa 0), .ref (qa 1), .ref (qa 2), .ref (qa 3), .int 0, .ref (qa 4), .ref (qa 5), .ref (qa 6), .ref (qa 7), .ref (qa 8), .ref (qa 9), .ref (qa 10), .ref (qa 11), .ref (qa 12), .ref (qa 13), .ref (qa 14), .ref (qa 15), .ref (qa 16), .ref (qa 17), .ref (qa 18), .ref (qa 19), .ref (qa 20), .int 0, .int 0, .int 0, .int 0, .long 0, .long 0, .long 0, .long 0, .long 0, .ref (qa 21), .int 0, .int 0, .int 0, .int 0]))] := hD
  have hK : va_K D cls [] s := hK
  refine W.eq (g2 := F0 m 35 ls [.int (-1)]) rfl ?_
  refine lv_istore_n (lv' := [(1, .int (-1)), (0, .ref h0)]) hx hb d_Mo_next_35 rfl hl (by decide) rfl (fun ls hl => ?_)
  refine lv_iload_n hx hb d_Mo_next_36 rfl (lv_at hl 0 rfl) ?_
  refine lv_iconst (v := (-1)) hx hb d_Mo_next_37 (by decide) ?_
  refine lv_icmp_eq (tgt := 47) hx hb d_Mo_next_38 (by decide) (fun _ => ?_) (fun q9 => absurd (by decide : (((-1) : Int32) = (-1))) q9)
  refine lv_aload_n hx hb d_Mo_next_47 rfl (lv_at hl 1 rfl) ?_
  refine lv_iconst (v := 0) hx hb d_Mo_next_48 (by decide) ?_
  refine va_put (D := D) (ci := 7) (v := .int 0) (ty := .int) (C := R_Mo) (T := F_Mo) (N := 52) hx hb hts i_Mo t_Mo t_Mo_ok n_Mo hown hK hP hD hS 0 rfl rfl 13 (by decide) (hts _ w_432) (fun _ h9 => h9) rfl (by decide +kernel) rfl rfl (Nat.le_of_ble_eq_true rfl) d_Mo_next_49 (fun H locs hP hD hS => ?_)
  have hP : va_P D cls [(h0, .inr (7, [.int 0, .int 0, .int 0, .int 0, .int 0, .int 0, .int (-1), .int (-1), .int 0, .int 0, .int 0, .int 0, .int 0, .int 0, .int li, .int 0, .ref (qa 0), .ref (qa 1), .ref (qa 2), .ref (qa 3), .int 0, .ref (qa 4), .ref (qa 5), .ref (qa 6), .ref (qa 7), .ref (qa 8), .ref (qa 9), .ref (qa 10), .ref (qa 11), .ref (qa 12), .ref (qa 13), .ref (qa 14), .ref (qa 15), .ref (qa 16), .ref (qa 17), .ref (qa 18), .ref (qa 19), .ref (qa 20), .int 0, .int 0, .int 0, .int 0, .long 0, .long 0, .long 0, .long 0, .long 0, .ref (qa 21), .int 0, .int 0, .int 0, .int 0]))] H := hP
  have hD : va_D A [(h0, .inr (7, [.int 0, .int 0, .int 0, .int 0, .int 0, .int 0, .int (-1), .int (-1), .int 0, .int 0, .int 0, .int 0, .int 0, .int 0, .int li, .int 0, .ref (qa 0), .ref (qa 1), .ref (qa 2), .ref (qa 3), .int 0, .ref (qa 4), .ref (qa 5), .ref (qa 6), .ref (qa 7), .ref (qa 8), .ref (qa 9), .ref (qa 10), .ref (qa 11), .ref (qa 12), .ref (qa 13), .ref (qa 14), .ref (qa 15), .ref (qa 16), .ref (qa 17), .ref (qa 18), .ref (qa 19), .ref (qa 20), .int 0, .int 0, .int 0, .int 0, .long 0, .long 0, .long 0, .long 0, .long 0, .ref (qa 21), .int 0, .int 0, .int 0, .int 0]))] := hD
  exact xr_v hx hb hr hlocks hP hD hK hS (()) [0] rfl rfl (by decide) [] rfl rfl d_Mo_next_52

theorem d_Mo_read_0 : decode b_Mo_read 0 = .ok (.aload_n 0, 1) := by decide +kernel
theorem d_Mo_read_1 : decode b_Mo_read 1 = .ok (.iload_n 1, 1) := by decide +kernel
theorem d_Mo_read_2 : decode b_Mo_read 2 = .ok (.putfield 102, 3) := by decide +kernel
theorem d_Mo_read_5 : decode b_Mo_read 5 = .ok (.aload_n 0, 1) := by decide +kernel
theorem d_Mo_read_6 : decode b_Mo_read 6 = .ok (.iload_n 2, 1) := by decide +kernel
theorem d_Mo_read_7 : decode b_Mo_read 7 = .ok (.putfield 105, 3) := by decide +kernel
theorem d_Mo_read_10 : decode b_Mo_read 10 = .ok (.aload_n 0, 1) := by decide +kernel
theorem d_Mo_read_11 : decode b_Mo_read 11 = .ok (.invokevirtual 998, 3) := by decide +kernel
theorem d_Mo_read_14 : decode b_Mo_read 14 = .ok (.iconst 1, 1) := by decide +kernel
theorem d_Mo_read_15 : decode b_Mo_read 15 = .ok (.istore_n 3, 1) := by decide +kernel
theorem d_Mo_read_16 : decode b_Mo_read 16 = .ok (.iload_n 3, 1) := by decide +kernel
theorem d_Mo_read_17 : decode b_Mo_read 17 = .ok (.ifCond .eq 229, 3) := by decide +kernel
theorem d_Mo_read_20 : decode b_Mo_read 20 = .ok (.aload_n 0, 1) := by decide +kernel
theorem d_Mo_read_21 : decode b_Mo_read 21 = .ok (.invokevirtual 985, 3) := by decide +kernel
theorem d_Mo_read_24 : decode b_Mo_read 24 = .ok (.ifCond .eq 222, 3) := by decide +kernel
theorem d_Mo_read_27 : decode b_Mo_read 27 = .ok (.aload_n 0, 1) := by decide +kernel
theorem d_Mo_read_28 : decode b_Mo_read 28 = .ok (.getfield 119, 3) := by decide +kernel
theorem d_Mo_read_31 : decode b_Mo_read 31 = .ok (.ifCond .eq 215, 3) := by decide +kernel
theorem d_Mo_read_246 : decode b_Mo_read 246 = .ok (.return_, 1) := by decide +kernel
set_option maxHeartbeats 4000000 in
set_option maxRecDepth 100000 in
theorem c_Mo_read (l : Launch) (D : va_G) (h0 : Nat) (qa : Nat → Nat) (li : Int32) (sz : Nat) : Met l y_Mo_read (Cond.code y_Mo_read b_Mo_read 15 none :: bw) (xR 3 0 0) (va_Pc [.ref h0, .int 0, .int 0] (xP D [] sz [(h0, .inr (7, [.int 0, .int 0, .int 0, .int 0, .int 0, .int 0, .int (-1), .int (-1), .int 0, .int 0, .int 0, .int 0, .int 0, .int 0, .int li, .int 0, .ref (qa 0), .ref (qa 1), .ref (qa 2), .ref (qa 3), .int 0, .ref (qa 4), .ref (qa 5), .ref (qa 6), .ref (qa 7), .ref (qa 8), .ref (qa 9), .ref (qa 10), .ref (qa 11), .ref (qa 12), .ref (qa 13), .ref (qa 14), .ref (qa 15), .ref (qa 16), .ref (qa 17), .ref (qa 18), .ref (qa 19), .ref (qa 20), .int 0, .int 0, .int 0, .int 0, .long 0, .long 0, .long 0, .long 0, .long 0, .ref (qa 21), .int 0, .int 0, .int 0, .int 0]))])) (xQ (S := Unit) (fun _ => none) (fun _ => [(h0, .inr (7, [.int 0, .int 0, .int 0, .int 0, .int 0, .int 0, .int (-1), .int (-1), .int 0, .int 0, .int 0, .int 0, .int 0, .int 0, .int li, .int 0, .ref (qa 0), .ref (qa 1), .ref (qa 2), .ref (qa 3), .int 0, .ref (qa 4), .ref (qa 5), .ref (qa 6), .ref (qa 7), .ref (qa 8), .ref (qa 9), .ref (qa 10), .ref (qa 11), .ref (qa 12), .ref (qa 13), .ref (qa 14), .ref (qa 15), .ref (qa 16), .ref (qa 17), .ref (qa 18), .ref (qa 19), .ref (qa 20), .int 0, .int 0, .int 0, .int 0, .long 0, .long 0, .long 0, .long 0, .long 0, .ref (qa 21), .int 0, .int 0, .int 0, .int 0]))]) (fun _ => []) D (va_A [(h0, .inr (7, [.int 0, .int 0, .int 0, .int 0, .int 0, .int 0, .int (-1), .int (-1), .int 0, .int 0, .int 0, .int 0, .int 0, .int 0, .int li, .int 0, .ref (qa 0), .ref (qa 1), .ref (qa 2), .ref (qa 3), .int 0, .ref (qa 4), .ref (qa 5), .ref (qa 6), .ref (qa 7), .ref (qa 8), .ref (qa 9), .ref (qa 10), .ref (qa 11), .ref (qa 12), .ref (qa 13), .ref (qa 14), .ref (qa 15), .ref (qa 16), .ref (qa 17), .ref (qa 18), .ref (qa 19), .ref (qa 20), .int 0, .int 0, .int 0, .int 0, .long 0, .long 0, .long 0, .long 0, .long 0, .ref (qa 21), .int 0, .int 0, .int 0, .int 0]))] sz)) 0 0 (va_A [(h0, .inr (7, [.int 0, .int 0, .int 0, .int 0, .int 0, .int 0, .int (-1), .int (-1), .int 0, .int 0, .int 0, .int 0, .int 0, .int 0, .int li, .int 0, .ref (qa 0), .ref (qa 1), .ref (qa 2), .ref (qa 3), .int 0, .ref (qa 4), .ref (qa 5), .ref (qa 6), .ref (qa 7), .ref (qa 8), .ref (qa 9), .ref (qa 10), .ref (qa 11), .ref (qa 12), .ref (qa 13), .ref (qa 14), .ref (qa 15), .ref (qa 16), .ref (qa 17), .ref (qa 18), .ref (qa 19), .ref (qa 20), .int 0, .int 0, .int 0, .int 0, .long 0, .long 0, .long 0, .long 0, .long 0, .ref (qa 21), .int 0, .int 0, .int 0, .int 0]))] sz) := by
  refine Met.ofW (cc := b_Mo_read) (maxL := 15) (ret := none) (by decide) rfl ?_
  intro p e s m args below meth c s₁ B hml hv
  obtain ⟨rfl, hsz, hP, hK, hD0, hN, hZ⟩ := hv
  have hx := B.exec
  have hb := B.bytes
  have hr := B.returns
  have hlocks := B.notSynchronized
  have hts : ∀ w ∈ bw, w.before _ s = true := fun w h => atoms_spec (ws := Cond.code y_Mo_read b_Mo_read 15 none :: bw) B.pre w (List.mem_cons_of_mem _ h)
  have hown : s.vm.findClass "ObjectForgeModel" = some m.cls := findClass_of_methodNamed B.named
  subst hsz
  have hP0 := hP
  have hD := hD0.self (sz := s.heap.size)
  generalize hAe : va_A [(h0, .inr (7, [.int 0, .int 0, .int 0, .int 0, .int 0, .int 0, .int (-1), .int (-1), .int 0, .int 0, .int 0, .int 0, .int 0, .int 0, .int li, .int 0, .ref (qa 0), .ref (qa 1), .ref (qa 2), .ref (qa 3), .int 0, .ref (qa 4), .ref (qa 5), .ref (qa 6), .ref (qa 7), .ref (qa 8), .ref (qa 9), .ref (qa 10), .ref (qa 11), .ref (qa 12), .ref (qa 13), .ref (qa 14), .ref (qa 15), .ref (qa 16), .ref (qa 17), .ref (qa 18), .ref (qa 19), .ref (qa 20), .int 0, .int 0, .int 0, .int 0, .long 0, .long 0, .long 0, .long 0, .long 0, .ref (qa 21), .int 0, .int 0, .int 0, .int 0]))] s.heap.size = A at hD hZ ⊢
  have hA : ∀ q : Nat, s.heap.size ≤ q → A q := fun q h => by rw [← hAe]; exact Or.inr h
  have hS : va_S A s.heap s.heap [] := va_S.rf
  have hl := lv_entry ([.ref h0, .int 0, .int 0]) (n := 15) (Nat.le_of_ble_eq_true rfl)
  rw [lg_entry_eq]
  generalize (lg_sl ([.ref h0, .int 0, .int 0]) ++ List.replicate (15 - (lg_sl ([.ref h0, .int 0, .int 0])).length) Slot.unset).toArray = ls at hl ⊢
  have hl : lv_has ls 15 [(0, .ref h0), (1, .int 0), (2, .int 0)] := hl
  refine lv_aload_n hx hb d_Mo_read_0 rfl (lv_at hl 0 rfl) ?_
  refine lv_iload_n hx hb d_Mo_read_1 rfl (lv_at hl 1 rfl) ?_
  refine va_put (D := D) (ci := 7) (v := .int 0) (ty := .int) (C := R_Mo) (T := F_Mo) (N := 52) hx hb hts i_Mo t_Mo t_Mo_ok n_Mo hown hK hP hD hS 0 rfl rfl 11 (by decide) (hts _ w_430) (fun _ h9 => h9) rfl (by decide +kernel) rfl rfl (Nat.le_of_ble_eq_true rfl) d_Mo_read_2 (fun H locs hP hD hS => ?_)
  have hP : va_P D cls [(h0, .inr (7, [.int 0, .int 0, .int 0, .int 0, .int 0, .int 0, .int (-1), .int (-1), .int 0, .int 0, .int 0, .int 0, .int 0, .int 0, .int li, .int 0, .ref (qa 0), .ref (qa 1), .ref (qa 2), .ref (qa 3), .int 0, .ref (qa 4), .ref (qa 5), .ref (qa 6), .ref (qa 7), .ref (qa 8), .ref (qa 9), .ref (qa 10), .ref (qa 11), .ref (qa 12), .ref (qa 13), .ref (qa 14), .ref (qa 15), .ref (qa 16), .ref (qa 17), .ref (qa 18), .ref (qa 19), .ref (qa 20), .int 0, .int 0, .int 0, .int 0, .long 0, .long 0, .long 0, .long 0, .long 0, .ref (qa 21), .int 0, .int 0, .int 0, .int 0]))] H := hP
  have hD : va_D A [(h0, .inr (7, [.int 0, .int 0, .int 0, .int 0, .int 0, .int 0, .int (-1), .int (-1), .int 0, .int 0, .int 0, .int 0, .int 0, .int 0, .int li, .int 0, .ref (qa 0), .ref (qa 1), .ref (qa 2), .ref (qa 3), .int 0, .ref (qa 4), .ref (qa 5), .ref (qa 6), .ref (qa 7), .ref (qa 8), .ref (qa 9), .ref (qa 10), .ref (qa 11), .ref (qa 12), .ref (qa 13), .ref (qa 14), .ref (qa 15), .ref (qa 16), .ref (qa 17), .ref (qa 18), .ref (qa 19), .ref (qa 20), .int 0, .int 0, .int 0, .int 0, .long 0, .long 0, .long 0, .long 0, .long 0, .ref (qa 21), .int 0, .int 0, .int 0, .int 0]))] := hD
  refine lv_aload_n hx hb d_Mo_read_5 rfl (lv_at hl 0 rfl) ?_
  refine lv_iload_n hx hb d_Mo_read_6 rfl (lv_at hl 2 rfl) ?_
  refine va_put (D := D) (ci := 7) (v := .int 0) (ty := .int) (C := R_Mo) (T := F_Mo) (N := 52) hx hb hts i_Mo t_Mo t_Mo_ok n_Mo hown hK hP hD hS 0 rfl rfl 12 (by decide) (hts _ w_431) (fun _ h9 => h9) rfl (by decide +kernel) rfl rfl (Nat.le_of_ble_eq_true rfl) d_Mo_read_7 (fun H locs hP hD hS => ?_)
  have hP : va_P D cls [(h0, .inr (7, [.int 0, .int 0, .int 0, .int 0, .int 0, .int 0, .int (-1), .int (-1), .int 0, .int 0, .int 0, .int 0, .int 0, .int 0, .int li, .int 0, .ref (qa 0), .ref (qa 1), .ref (qa 2), .ref (qa 3), .int 0, .ref (qa 4), .ref (qa 5), .ref (qa 6), .ref (qa 7), .ref (qa 8), .ref (qa 9), .ref (qa 10), .ref (qa 11), .ref (qa 12), .ref (qa 13), .ref (qa 14), .ref (qa 15), .ref (qa 16), .ref (qa 17), .ref (qa 18), .ref (qa 19), .ref (qa 20), .int 0, .int 0, .int 0, .int 0, .long 0, .long 0, .long 0, .long 0, .long 0, .ref (qa 21), .int 0, .int 0, .int 0, .int 0]))] H := hP
  have hD : va_D A [(h0, .inr (7, [.int 0, .int 0, .int 0, .int 0, .int 0, .int 0, .int (-1), .int (-1), .int 0, .int 0, .int 0, .int 0, .int 0, .int 0, .int li, .int 0, .ref (qa 0), .ref (qa 1), .ref (qa 2), .ref (qa 3), .int 0, .ref (qa 4), .ref (qa 5), .ref (qa 6), .ref (qa 7), .ref (qa 8), .ref (qa 9), .ref (qa 10), .ref (qa 11), .ref (qa 12), .ref (qa 13), .ref (qa 14), .ref (qa 15), .ref (qa 16), .ref (qa 17), .ref (qa 18), .ref (qa 19), .ref (qa 20), .int 0, .int 0, .int 0, .int 0, .long 0, .long 0, .long 0, .long 0, .long 0, .ref (qa 21), .int 0, .int 0, .int 0, .int 0]))] := hD
  refine lv_aload_n hx hb d_Mo_read_10 rfl (lv_at hl 0 rfl) ?_
  refine xc_V (As := []) (rest := []) (n := 0) (wc := [(h0, .inr (7, [.int 0, .int 0, .int 0, .int 0, .int 0, .int 0, .int (-1), .int (-1), .int 0, .int 0, .int 0, .int 0, .int 0, .int 0, .int li, .int 0, .ref (qa 0), .ref (qa 1), .ref (qa 2), .ref (qa 3), .int 0, .ref (qa 4), .ref (qa 5), .ref (qa 6), .ref (qa 7), .ref (qa 8), .ref (qa 9), .ref (qa 10), .ref (qa 11), .ref (qa 12), .ref (qa 13), .ref (qa 14), .ref (qa 15), .ref (qa 16), .ref (qa 17), .ref (qa 18), .ref (qa 19), .ref (qa 20), .int 0, .int 0, .int 0, .int 0, .long 0, .long 0, .long 0, .long 0, .long 0, .ref (qa 21), .int 0, .int 0, .int 0, .int 0]))]) (wr := []) (tc := []) (tr := []) ⟨hx, hb, hml, hown, hts⟩ (c_Mo_next l D h0 qa li H.size) rfl rfl w_472 w_470 w_471 w_561 w_8 (by decide +kernel) ⟨Nat.le_of_ble_eq_true rfl, Nat.le_of_ble_eq_true rfl⟩ hP hD hK hS hA hN hZ [0] [] rfl rfl (by decide) (by decide) (by decide) [] [] rfl rfl (ci := 7) (q0 := 0) (q := (R_Mo, F_Mo, 52)) rfl rfl rfl rfl hl.1 rfl (Nat.le_of_ble_eq_true rfl) d_Mo_read_11 ⟨Nat.le_of_ble_eq_true rfl, Nat.le_of_ble_eq_true rfl⟩ (fun u1 H locs hP hD hK hS => ?_)
  have hP : va_P D cls [(h0, .inr (7, [.int 0, .int 0, .int 0, .int 0, .int 0, .int 0, .int (-1), .int (-1), .int 0, .int 0, .int 0, .int 0, .int 0, .int 0, .int li, .int 0, .ref (qa 0), .ref (qa 1), .ref (qa 2), .ref (qa 3), .int 0, .ref (qa 4), .ref (qa 5), .ref (qa 6), .ref (qa 7), .ref (qa 8), .ref (qa 9), .ref (qa 10), .ref (qa 11), .ref (qa 12), .ref (qa 13), .ref (qa 14), .ref (qa 15), .ref (qa 16), .ref (qa 17), .ref (qa 18), .ref (qa 19), .ref (qa 20), .int 0, .int 0, .int 0, .int 0, .long 0, .long 0, .long 0, .long 0, .long 0, .ref (qa 21), .int 0, .int 0, .int 0, .int 0]))] H := hP
  have hD : va_D A [(h0, .inr (7, [.int 0, .int 0, .int 0, .int 0, .int 0, .int 0, .int (-1), .int (-1), .int 0, .int 0, .int 0, .int 0, .int 0, .int 0, .int li, .int 0, .ref (qa 0), .ref (qa 1), .ref (qa 2), .ref (qa 3), .int 0, .ref (qa 4), .ref (qa 5), .ref (qa 6), .ref (qa 7), .ref (qa 8), .ref (qa 9), .ref (qa 10), .ref (qa 11), .ref (qa 12), .ref (qa 13), .ref (qa 14), .ref (qa 15), .ref (qa 16), .ref (qa 17), .ref (qa 18), .ref (qa 19), .ref (qa 20), .int 0, .int 0, .int 0, .int 0, .long 0, .long 0, .long 0, .long 0, .long 0, .ref (qa 21), .int 0, .int 0, .int 0, .int 0]))] := hD
  have hK : va_K D cls [] s := hK
  refine W.eq (g2 := F0 m 14 ls []) rfl ?_
  refine lv_iconst (v := 1) hx hb d_Mo_read_14 (by decide) ?_
  refine lv_istore_n (lv' := [(3, .int 1), (0, .ref h0), (1, .int 0), (2, .int 0)]) hx hb d_Mo_read_15 rfl hl (by decide) rfl (fun ls hl => ?_)
  refine lv_iload_n hx hb d_Mo_read_16 rfl (lv_at hl 0 rfl) ?_
  refine lv_if_eq (tgt := 246) hx hb d_Mo_read_17 (by decide) (fun q9 => absurd q9 (by decide : ¬ ((1 : Int32) = 0))) (fun _ => ?_)
  refine lv_aload_n hx hb d_Mo_read_20 rfl (lv_at hl 1 rfl) ?_
  refine xc_V (As := []) (rest := []) (n := 0) (wc := [(h0, .inr (7, [.int 0, .int 0, .int 0, .int 0, .int 0, .int 0, .int (-1), .int (-1), .int 0, .int 0, .int 0, .int 0, .int 0, .int 0, .int li, .int 0, .ref (qa 0), .ref (qa 1), .ref (qa 2), .ref (qa 3), .int 0, .ref (qa 4), .ref (qa 5), .ref (qa 6), .ref (qa 7), .ref (qa 8), .ref (qa 9), .ref (qa 10), .ref (qa 11), .ref (qa 12), .ref (qa 13), .ref (qa 14), .ref (qa 15), .ref (qa 16), .ref (qa 17), .ref (qa 18), .ref (qa 19), .ref (qa 20), .int 0, .int 0, .int 0, .int 0, .long 0, .long 0, .long 0, .long 0, .long 0, .ref (qa 21), .int 0, .int 0, .int 0, .int 0]))]) (wr := []) (tc := []) (tr := []) ⟨hx, hb, hml, hown, hts⟩ (c_Mo_fine l D h0 qa li H.size) rfl rfl w_466 w_464 w_465 w_559 w_8 (by decide +kernel) ⟨Nat.le_of_ble_eq_true rfl, Nat.le_of_ble_eq_true rfl⟩ hP hD hK hS hA hN hZ [0] [] rfl rfl (by decide) (by decide) (by decide) [] [] rfl rfl (ci := 7) (q0 := 0) (q := (R_Mo, F_Mo, 52)) rfl rfl rfl rfl hl.1 rfl (Nat.le_of_ble_eq_true rfl) d_Mo_read_21 ⟨Nat.le_of_ble_eq_true rfl, Nat.le_of_ble_eq_true rfl⟩ (fun u2 H locs hP hD hK hS => ?_)
  have hP : va_P D cls [(h0, .inr (7, [.int 0, .int 0, .int 0, .int 0, .int 0, .int 0, .int (-1), .int (-1), .int 0, .int 0, .int 0, .int 0, .int 0, .int 0, .int li, .int 0, .ref (qa 0), .ref (qa 1), .ref (qa 2), .ref (qa 3), .int 0, .ref (qa 4), .ref (qa 5), .ref (qa 6), .ref (qa 7), .ref (qa 8), .ref (qa 9), .ref (qa 10), .ref (qa 11), .ref (qa 12), .ref (qa 13), .ref (qa 14), .ref (qa 15), .ref (qa 16), .ref (qa 17), .ref (qa 18), .ref (qa 19), .ref (qa 20), .int 0, .int 0, .int 0, .int 0, .long 0, .long 0, .long 0, .long 0, .long 0, .ref (qa 21), .int 0, .int 0, .int 0, .int 0]))] H := hP
  have hD : va_D A [(h0, .inr (7, [.int 0, .int 0, .int 0, .int 0, .int 0, .int 0, .int (-1), .int (-1), .int 0, .int 0, .int 0, .int 0, .int 0, .int 0, .int li, .int 0, .ref (qa 0), .ref (qa 1), .ref (qa 2), .ref (qa 3), .int 0, .ref (qa 4), .ref (qa 5), .ref (qa 6), .ref (qa 7), .ref (qa 8), .ref (qa 9), .ref (qa 10), .ref (qa 11), .ref (qa 12), .ref (qa 13), .ref (qa 14), .ref (qa 15), .ref (qa 16), .ref (qa 17), .ref (qa 18), .ref (qa 19), .ref (qa 20), .int 0, .int 0, .int 0, .int 0, .long 0, .long 0, .long 0, .long 0, .long 0, .ref (qa 21), .int 0, .int 0, .int 0, .int 0]))] := hD
  have hK : va_K D cls [] s := hK
  refine W.eq (g2 := F0 m 24 ls [.int 1]) rfl ?_
  refine lv_if_eq (tgt := 246) hx hb d_Mo_read_24 (by decide) (fun q9 => absurd q9 (by decide : ¬ ((1 : Int32) = 0))) (fun _ => ?_)
  refine lv_aload_n hx hb d_Mo_read_27 rfl (lv_at hl 1 rfl) ?_
  refine va_get (D := D) (ci := 7) (v := .int 0) (C := R_Mo) (T := F_Mo) (N := 52) hx hb hts i_Mo hown hK hP 0 rfl rfl 13 (by decide) (hts _ w_432) (fun _ h9 => h9) rfl d_Mo_read_28 ?_
  refine lv_if_eq (tgt := 246) hx hb d_Mo_read_31 (by decide) (fun _ => ?_) (fun q9 => absurd (by decide : ((0 : Int32) = 0)) q9)
  exact xr_v hx hb hr hlocks hP hD hK hS (()) [0] rfl rfl (by decide) [] rfl rfl d_Mo_read_246

theorem d_Mo_settle_0 : decode b_Mo_settle 0 = .ok (.sipush 256, 3) := by decide +kernel
theorem d_Mo_settle_3 : decode b_Mo_settle 3 = .ok (.aload_n 0, 1) := by decide +kernel
theorem d_Mo_settle_4 : decode b_Mo_settle 4 = .ok (.getfield 1010, 3) := by decide +kernel
theorem d_Mo_settle_7 : decode b_Mo_settle 7 = .ok (.imul, 1) := by decide +kernel
theorem d_Mo_settle_8 : decode b_Mo_settle 8 = .ok (.istore_n 1, 1) := by decide +kernel
theorem d_Mo_settle_9 : decode b_Mo_settle 9 = .ok (.iconst 0, 1) := by decide +kernel
theorem d_Mo_settle_10 : decode b_Mo_settle 10 = .ok (.istore_n 2, 1) := by decide +kernel
theorem d_Mo_settle_11 : decode b_Mo_settle 11 = .ok (.iconst 0, 1) := by decide +kernel
theorem d_Mo_settle_12 : decode b_Mo_settle 12 = .ok (.istore_n 3, 1) := by decide +kernel
theorem d_Mo_settle_13 : decode b_Mo_settle 13 = .ok (.iload_n 3, 1) := by decide +kernel
theorem d_Mo_settle_14 : decode b_Mo_settle 14 = .ok (.aload_n 0, 1) := by decide +kernel
theorem d_Mo_settle_15 : decode b_Mo_settle 15 = .ok (.getfield 24, 3) := by decide +kernel
theorem d_Mo_settle_18 : decode b_Mo_settle 18 = .ok (.aload_n 0, 1) := by decide +kernel
theorem d_Mo_settle_19 : decode b_Mo_settle 19 = .ok (.getfield 1010, 3) := by decide +kernel
theorem d_Mo_settle_22 : decode b_Mo_settle 22 = .ok (.iaload, 1) := by decide +kernel
theorem d_Mo_settle_23 : decode b_Mo_settle 23 = .ok (.if_icmp .ge 274, 3) := by decide +kernel
theorem d_Mo_settle_297 : decode b_Mo_settle 297 = .ok (.aload_n 0, 1) := by decide +kernel
theorem d_Mo_settle_298 : decode b_Mo_settle 298 = .ok (.getfield 24, 3) := by decide +kernel
theorem d_Mo_settle_301 : decode b_Mo_settle 301 = .ok (.aload_n 0, 1) := by decide +kernel
theorem d_Mo_settle_302 : decode b_Mo_settle 302 = .ok (.getfield 1010, 3) := by decide +kernel
theorem d_Mo_settle_305 : decode b_Mo_settle 305 = .ok (.iload_n 2, 1) := by decide +kernel
theorem d_Mo_settle_306 : decode b_Mo_settle 306 = .ok (.iastore, 1) := by decide +kernel
theorem d_Mo_settle_307 : decode b_Mo_settle 307 = .ok (.return_, 1) := by decide +kernel
set_option maxHeartbeats 4000000 in
set_option maxRecDepth 100000 in
theorem c_Mo_settle (l : Launch) (D : va_G) (h0 : Nat) (qa : Nat → Nat) (qk : Nat → ClassId) (li : Int32) (f : Nat → Int32) (hf : f (0 : Int32).toNatClampNeg = 0) (sz : Nat) : Met l y_Mo_settle (Cond.code y_Mo_settle b_Mo_settle 9 none :: bw) (xR 2 0 0) (va_Pc [.ref h0] (xP D [((qk 3), .int)] sz [(h0, .inr (7, [.int 0, .int 0, .int 0, .int 0, .int 0, .int 0, .int (-1), .int (-1), .int 0, .int 0, .int 0, .int 0, .int 0, .int 0, .int li, .int 0, .ref (qa 0), .ref (qa 1), .ref (qa 2), .ref (qa 3), .int 0, .ref (qa 4), .ref (qa 5), .ref (qa 6), .ref (qa 7), .ref (qa 8), .ref (qa 9), .ref (qa 10), .ref (qa 11), .ref (qa 12), .ref (qa 13), .ref (qa 14), .ref (qa 15), .ref (qa 16), .ref (qa 17), .ref (qa 18), .ref (qa 19), .ref (qa 20), .int 0, .int 0, .int 0, .int 0, .long 0, .long 0, .long 0, .long 0, .long 0, .ref (qa 21), .int 0, .int 0, .int 0, .int 0])), ((qa 3), .inl ((qk 3), 8, .inl f))])) (xQ (S := Unit) (fun _ => none) (fun _ => [(h0, .inr (7, [.int 0, .int 0, .int 0, .int 0, .int 0, .int 0, .int (-1), .int (-1), .int 0, .int 0, .int 0, .int 0, .int 0, .int 0, .int li, .int 0, .ref (qa 0), .ref (qa 1), .ref (qa 2), .ref (qa 3), .int 0, .ref (qa 4), .ref (qa 5), .ref (qa 6), .ref (qa 7), .ref (qa 8), .ref (qa 9), .ref (qa 10), .ref (qa 11), .ref (qa 12), .ref (qa 13), .ref (qa 14), .ref (qa 15), .ref (qa 16), .ref (qa 17), .ref (qa 18), .ref (qa 19), .ref (qa 20), .int 0, .int 0, .int 0, .int 0, .long 0, .long 0, .long 0, .long 0, .long 0, .ref (qa 21), .int 0, .int 0, .int 0, .int 0]))]) (fun _ => []) D (va_A [(h0, .inr (7, [.int 0, .int 0, .int 0, .int 0, .int 0, .int 0, .int (-1), .int (-1), .int 0, .int 0, .int 0, .int 0, .int 0, .int 0, .int li, .int 0, .ref (qa 0), .ref (qa 1), .ref (qa 2), .ref (qa 3), .int 0, .ref (qa 4), .ref (qa 5), .ref (qa 6), .ref (qa 7), .ref (qa 8), .ref (qa 9), .ref (qa 10), .ref (qa 11), .ref (qa 12), .ref (qa 13), .ref (qa 14), .ref (qa 15), .ref (qa 16), .ref (qa 17), .ref (qa 18), .ref (qa 19), .ref (qa 20), .int 0, .int 0, .int 0, .int 0, .long 0, .long 0, .long 0, .long 0, .long 0, .ref (qa 21), .int 0, .int 0, .int 0, .int 0])), ((qa 3), .inl ((qk 3), 8, .inl f))] sz)) 0 0 (va_A [(h0, .inr (7, [.int 0, .int 0, .int 0, .int 0, .int 0, .int 0, .int (-1), .int (-1), .int 0, .int 0, .int 0, .int 0, .int 0, .int 0, .int li, .int 0, .ref (qa 0), .ref (qa 1), .ref (qa 2), .ref (qa 3), .int 0, .ref (qa 4), .ref (qa 5), .ref (qa 6), .ref (qa 7), .ref (qa 8), .ref (qa 9), .ref (qa 10), .ref (qa 11), .ref (qa 12), .ref (qa 13), .ref (qa 14), .ref (qa 15), .ref (qa 16), .ref (qa 17), .ref (qa 18), .ref (qa 19), .ref (qa 20), .int 0, .int 0, .int 0, .int 0, .long 0, .long 0, .long 0, .long 0, .long 0, .ref (qa 21), .int 0, .int 0, .int 0, .int 0])), ((qa 3), .inl ((qk 3), 8, .inl f))] sz) := by
  refine Met.ofW (cc := b_Mo_settle) (maxL := 9) (ret := none) (by decide) rfl ?_
  intro p e s m args below meth c s₁ B hml hv
  obtain ⟨rfl, hsz, hP, hK, hD0, hN, hZ⟩ := hv
  have hx := B.exec
  have hb := B.bytes
  have hr := B.returns
  have hlocks := B.notSynchronized
  have hts : ∀ w ∈ bw, w.before _ s = true := fun w h => atoms_spec (ws := Cond.code y_Mo_settle b_Mo_settle 9 none :: bw) B.pre w (List.mem_cons_of_mem _ h)
  have hown : s.vm.findClass "ObjectForgeModel" = some m.cls := findClass_of_methodNamed B.named
  subst hsz
  have hP0 := hP
  have hD := hD0.self (sz := s.heap.size)
  generalize hAe : va_A [(h0, .inr (7, [.int 0, .int 0, .int 0, .int 0, .int 0, .int 0, .int (-1), .int (-1), .int 0, .int 0, .int 0, .int 0, .int 0, .int 0, .int li, .int 0, .ref (qa 0), .ref (qa 1), .ref (qa 2), .ref (qa 3), .int 0, .ref (qa 4), .ref (qa 5), .ref (qa 6), .ref (qa 7), .ref (qa 8), .ref (qa 9), .ref (qa 10), .ref (qa 11), .ref (qa 12), .ref (qa 13), .ref (qa 14), .ref (qa 15), .ref (qa 16), .ref (qa 17), .ref (qa 18), .ref (qa 19), .ref (qa 20), .int 0, .int 0, .int 0, .int 0, .long 0, .long 0, .long 0, .long 0, .long 0, .ref (qa 21), .int 0, .int 0, .int 0, .int 0])), ((qa 3), .inl ((qk 3), 8, .inl f))] s.heap.size = A at hD hZ ⊢
  have hA : ∀ q : Nat, s.heap.size ≤ q → A q := fun q h => by rw [← hAe]; exact Or.inr h
  have hS : va_S A s.heap s.heap [] := va_S.rf
  have hl := lv_entry ([.ref h0]) (n := 9) (Nat.le_of_ble_eq_true rfl)
  rw [lg_entry_eq]
  generalize (lg_sl ([.ref h0]) ++ List.replicate (9 - (lg_sl ([.ref h0])).length) Slot.unset).toArray = ls at hl ⊢
  have hl : lv_has ls 9 [(0, .ref h0)] := hl
  refine lv_sipush (v := 256) hx hb d_Mo_settle_0 (by decide) ?_
  refine lv_aload_n hx hb d_Mo_settle_3 rfl (lv_at hl 0 rfl) ?_
  refine va_get (D := D) (ci := 7) (v := .int 0) (C := R_Mo) (T := F_Mo) (N := 52) hx hb hts i_Mo hown hK hP 0 rfl rfl 2 (by decide) (hts _ w_400) (fun _ h9 => h9) rfl d_Mo_settle_4 ?_
  refine lv_imul hx hb d_Mo_settle_7 ?_
  refine lv_topi (fun z1 ez1 => ?_)
  obtain rfl : z1 = 0 := ez1.trans (by decide)
  refine lv_istore_n (lv' := [(1, .int 0), (0, .ref h0)]) hx hb d_Mo_settle_8 rfl hl (by decide) rfl (fun ls hl => ?_)
  refine lv_iconst (v := 0) hx hb d_Mo_settle_9 (by decide) ?_
  refine lv_istore_n (lv' := [(2, .int 0), (1, .int 0), (0, .ref h0)]) hx hb d_Mo_settle_10 rfl hl (by decide) rfl (fun ls hl => ?_)
  refine lv_iconst (v := 0) hx hb d_Mo_settle_11 (by decide) ?_
  refine lv_istore_n (lv' := [(3, .int 0), (2, .int 0), (1, .int 0), (0, .ref h0)]) hx hb d_Mo_settle_12 rfl hl (by decide) rfl (fun ls hl => ?_)
  refine lv_iload_n hx hb d_Mo_settle_13 rfl (lv_at hl 0 rfl) ?_
  refine lv_aload_n hx hb d_Mo_settle_14 rfl (lv_at hl 3 rfl) ?_
  refine va_get (D := D) (ci := 7) (v := .ref (qa 3)) (C := R_Mo) (T := F_Mo) (N := 52) hx hb hts i_Mo hown hK hP 0 rfl rfl 19 (by decide) (hts _ w_405) (fun _ h9 => h9) rfl d_Mo_settle_15 ?_
  refine lv_aload_n hx hb d_Mo_settle_18 rfl (lv_at hl 3 rfl) ?_
  refine va_get (D := D) (ci := 7) (v := .int 0) (C := R_Mo) (T := F_Mo) (N := 52) hx hb hts i_Mo hown hK hP 0 rfl rfl 2 (by decide) (hts _ w_400) (fun _ h9 => h9) rfl d_Mo_settle_19 ?_
  refine va_iald hx hb hK hP 1 0 rfl rfl (by unfold vp_in; decide) d_Mo_settle_22 ?_
  refine lv_icmp_ge (tgt := 297) hx hb d_Mo_settle_23 (by decide) (fun _ => ?_) (fun q9 => absurd (by rw [hf]; decide) q9)
  refine lv_aload_n hx hb d_Mo_settle_297 rfl (lv_at hl 3 rfl) ?_
  refine va_get (D := D) (ci := 7) (v := .ref (qa 3)) (C := R_Mo) (T := F_Mo) (N := 52) hx hb hts i_Mo hown hK hP 0 rfl rfl 19 (by decide) (hts _ w_405) (fun _ h9 => h9) rfl d_Mo_settle_298 ?_
  refine lv_aload_n hx hb d_Mo_settle_301 rfl (lv_at hl 3 rfl) ?_
  refine va_get (D := D) (ci := 7) (v := .int 0) (C := R_Mo) (T := F_Mo) (N := 52) hx hb hts i_Mo hown hK hP 0 rfl rfl 2 (by decide) (hts _ w_400) (fun _ h9 => h9) rfl d_Mo_settle_302 ?_
  refine lv_iload_n hx hb d_Mo_settle_305 rfl (lv_at hl 1 rfl) ?_
  refine va_iast hx hb hK hP hD hS 1 0 rfl rfl (by unfold vp_in; decide) d_Mo_settle_306 (fun H locs hP hD hS => ?_)
  obtain ⟨f2, ef2⟩ : ∃ z : Nat → Int32, z = (upd f (0 : Int32).toNatClampNeg 0) := ⟨_, rfl⟩
  have hP : va_P D cls [(h0, .inr (7, [.int 0, .int 0, .int 0, .int 0, .int 0, .int 0, .int (-1), .int (-1), .int 0, .int 0, .int 0, .int 0, .int 0, .int 0, .int li, .int 0, .ref (qa 0), .ref (qa 1), .ref (qa 2), .ref (qa 3), .int 0, .ref (qa 4), .ref (qa 5), .ref (qa 6), .ref (qa 7), .ref (qa 8), .ref (qa 9), .ref (qa 10), .ref (qa 11), .ref (qa 12), .ref (qa 13), .ref (qa 14), .ref (qa 15), .ref (qa 16), .ref (qa 17), .ref (qa 18), .ref (qa 19), .ref (qa 20), .int 0, .int 0, .int 0, .int 0, .long 0, .long 0, .long 0, .long 0, .long 0, .ref (qa 21), .int 0, .int 0, .int 0, .int 0])), ((qa 3), .inl ((qk 3), 8, .inl f2))] H := by rw [ef2]; exact hP
  have hD : va_D A [(h0, .inr (7, [.int 0, .int 0, .int 0, .int 0, .int 0, .int 0, .int (-1), .int (-1), .int 0, .int 0, .int 0, .int 0, .int 0, .int 0, .int li, .int 0, .ref (qa 0), .ref (qa 1), .ref (qa 2), .ref (qa 3), .int 0, .ref (qa 4), .ref (qa 5), .ref (qa 6), .ref (qa 7), .ref (qa 8), .ref (qa 9), .ref (qa 10), .ref (qa 11), .ref (qa 12), .ref (qa 13), .ref (qa 14), .ref (qa 15), .ref (qa 16), .ref (qa 17), .ref (qa 18), .ref (qa 19), .ref (qa 20), .int 0, .int 0, .int 0, .int 0, .long 0, .long 0, .long 0, .long 0, .long 0, .ref (qa 21), .int 0, .int 0, .int 0, .int 0])), ((qa 3), .inl ((qk 3), 8, .inl f2))] := by rw [ef2]; exact hD
  exact xr_v hx hb hr hlocks hP hD hK hS (()) [0] rfl rfl (by decide) [] rfl rfl d_Mo_settle_307

theorem d_Mo_assemble_0 : decode b_Mo_assemble 0 = .ok (.aload_n 0, 1) := by decide +kernel
theorem d_Mo_assemble_1 : decode b_Mo_assemble 1 = .ok (.iconst 0, 1) := by decide +kernel
theorem d_Mo_assemble_2 : decode b_Mo_assemble 2 = .ok (.putfield 88, 3) := by decide +kernel
theorem d_Mo_assemble_5 : decode b_Mo_assemble 5 = .ok (.aload_n 0, 1) := by decide +kernel
theorem d_Mo_assemble_6 : decode b_Mo_assemble 6 = .ok (.getfield 91, 3) := by decide +kernel
theorem d_Mo_assemble_9 : decode b_Mo_assemble 9 = .ok (.istore_n 1, 1) := by decide +kernel
theorem d_Mo_assemble_10 : decode b_Mo_assemble 10 = .ok (.aload_n 0, 1) := by decide +kernel
theorem d_Mo_assemble_11 : decode b_Mo_assemble 11 = .ok (.iconst 0, 1) := by decide +kernel
theorem d_Mo_assemble_12 : decode b_Mo_assemble 12 = .ok (.putfield 91, 3) := by decide +kernel
theorem d_Mo_assemble_15 : decode b_Mo_assemble 15 = .ok (.aload_n 0, 1) := by decide +kernel
theorem d_Mo_assemble_16 : decode b_Mo_assemble 16 = .ok (.getfield 1010, 3) := by decide +kernel
theorem d_Mo_assemble_19 : decode b_Mo_assemble 19 = .ok (.bipush 8, 2) := by decide +kernel
theorem d_Mo_assemble_21 : decode b_Mo_assemble 21 = .ok (.if_icmp .ne 9, 3) := by decide +kernel
theorem d_Mo_assemble_30 : decode b_Mo_assemble 30 = .ok (.aload_n 0, 1) := by decide +kernel
theorem d_Mo_assemble_31 : decode b_Mo_assemble 31 = .ok (.iconst 0, 1) := by decide +kernel
theorem d_Mo_assemble_32 : decode b_Mo_assemble 32 = .ok (.putfield 982, 3) := by decide +kernel
theorem d_Mo_assemble_35 : decode b_Mo_assemble 35 = .ok (.aload_n 0, 1) := by decide +kernel
theorem d_Mo_assemble_36 : decode b_Mo_assemble 36 = .ok (.iconst 0, 1) := by decide +kernel
theorem d_Mo_assemble_37 : decode b_Mo_assemble 37 = .ok (.putfield 1055, 3) := by decide +kernel
theorem d_Mo_assemble_40 : decode b_Mo_assemble 40 = .ok (.aload_n 0, 1) := by decide +kernel
theorem d_Mo_assemble_41 : decode b_Mo_assemble 41 = .ok (.iconst 0, 1) := by decide +kernel
theorem d_Mo_assemble_42 : decode b_Mo_assemble 42 = .ok (.putfield 1050, 3) := by decide +kernel
theorem d_Mo_assemble_45 : decode b_Mo_assemble 45 = .ok (.aload_n 0, 1) := by decide +kernel
theorem d_Mo_assemble_46 : decode b_Mo_assemble 46 = .ok (.getfield 21, 3) := by decide +kernel
theorem d_Mo_assemble_49 : decode b_Mo_assemble 49 = .ok (.aload_n 0, 1) := by decide +kernel
theorem d_Mo_assemble_50 : decode b_Mo_assemble 50 = .ok (.getfield 1010, 3) := by decide +kernel
theorem d_Mo_assemble_53 : decode b_Mo_assemble 53 = .ok (.iconst 0, 1) := by decide +kernel
theorem d_Mo_assemble_54 : decode b_Mo_assemble 54 = .ok (.iastore, 1) := by decide +kernel
theorem d_Mo_assemble_55 : decode b_Mo_assemble 55 = .ok (.aload_n 0, 1) := by decide +kernel
theorem d_Mo_assemble_56 : decode b_Mo_assemble 56 = .ok (.getfield 24, 3) := by decide +kernel
theorem d_Mo_assemble_59 : decode b_Mo_assemble 59 = .ok (.aload_n 0, 1) := by decide +kernel
theorem d_Mo_assemble_60 : decode b_Mo_assemble 60 = .ok (.getfield 1010, 3) := by decide +kernel
theorem d_Mo_assemble_63 : decode b_Mo_assemble 63 = .ok (.iconst 0, 1) := by decide +kernel
theorem d_Mo_assemble_64 : decode b_Mo_assemble 64 = .ok (.iastore, 1) := by decide +kernel
theorem d_Mo_assemble_65 : decode b_Mo_assemble 65 = .ok (.iconst 0, 1) := by decide +kernel
theorem d_Mo_assemble_66 : decode b_Mo_assemble 66 = .ok (.istore_n 2, 1) := by decide +kernel
theorem d_Mo_assemble_67 : decode b_Mo_assemble 67 = .ok (.iload_n 2, 1) := by decide +kernel
theorem d_Mo_assemble_68 : decode b_Mo_assemble 68 = .ok (.iconst 3, 1) := by decide +kernel
theorem d_Mo_assemble_69 : decode b_Mo_assemble 69 = .ok (.if_icmp .ge 23, 3) := by decide +kernel
theorem d_Mo_assemble_72 : decode b_Mo_assemble 72 = .ok (.aload_n 0, 1) := by decide +kernel
theorem d_Mo_assemble_73 : decode b_Mo_assemble 73 = .ok (.getfield 17, 3) := by decide +kernel
theorem d_Mo_assemble_76 : decode b_Mo_assemble 76 = .ok (.iconst 3, 1) := by decide +kernel
theorem d_Mo_assemble_77 : decode b_Mo_assemble 77 = .ok (.aload_n 0, 1) := by decide +kernel
theorem d_Mo_assemble_78 : decode b_Mo_assemble 78 = .ok (.getfield 1010, 3) := by decide +kernel
theorem d_Mo_assemble_81 : decode b_Mo_assemble 81 = .ok (.imul, 1) := by decide +kernel
theorem d_Mo_assemble_82 : decode b_Mo_assemble 82 = .ok (.iload_n 2, 1) := by decide +kernel
theorem d_Mo_assemble_83 : decode b_Mo_assemble 83 = .ok (.iadd, 1) := by decide +kernel
theorem d_Mo_assemble_84 : decode b_Mo_assemble 84 = .ok (.iconst 0, 1) := by decide +kernel
theorem d_Mo_assemble_85 : decode b_Mo_assemble 85 = .ok (.iastore, 1) := by decide +kernel
theorem d_Mo_assemble_86 : decode b_Mo_assemble 86 = .ok (.iinc 2 1, 3) := by decide +kernel
theorem d_Mo_assemble_89 : decode b_Mo_assemble 89 = .ok (.goto (-22), 3) := by decide +kernel
theorem d_Mo_assemble_92 : decode b_Mo_assemble 92 = .ok (.iconst 0, 1) := by decide +kernel
theorem d_Mo_assemble_93 : decode b_Mo_assemble 93 = .ok (.istore_n 2, 1) := by decide +kernel
theorem d_Mo_assemble_94 : decode b_Mo_assemble 94 = .ok (.iload_n 2, 1) := by decide +kernel
theorem d_Mo_assemble_95 : decode b_Mo_assemble 95 = .ok (.iload_n 1, 1) := by decide +kernel
theorem d_Mo_assemble_96 : decode b_Mo_assemble 96 = .ok (.if_icmp .gt 57, 3) := by decide +kernel
theorem d_Mo_assemble_99 : decode b_Mo_assemble 99 = .ok (.aload_n 0, 1) := by decide +kernel
theorem d_Mo_assemble_100 : decode b_Mo_assemble 100 = .ok (.invokevirtual 985, 3) := by decide +kernel
theorem d_Mo_assemble_103 : decode b_Mo_assemble 103 = .ok (.ifCond .eq 50, 3) := by decide +kernel
theorem d_Mo_assemble_106 : decode b_Mo_assemble 106 = .ok (.iload_n 2, 1) := by decide +kernel
theorem d_Mo_assemble_107 : decode b_Mo_assemble 107 = .ok (.istore_n 3, 1) := by decide +kernel
theorem d_Mo_assemble_108 : decode b_Mo_assemble 108 = .ok (.iload_n 3, 1) := by decide +kernel
theorem d_Mo_assemble_109 : decode b_Mo_assemble 109 = .ok (.iload_n 1, 1) := by decide +kernel
theorem d_Mo_assemble_110 : decode b_Mo_assemble 110 = .ok (.if_icmp .ge 20, 3) := by decide +kernel
theorem d_Mo_assemble_130 : decode b_Mo_assemble 130 = .ok (.aload_n 0, 1) := by decide +kernel
theorem d_Mo_assemble_131 : decode b_Mo_assemble 131 = .ok (.dup, 1) := by decide +kernel
theorem d_Mo_assemble_132 : decode b_Mo_assemble 132 = .ok (.getfield 1055, 3) := by decide +kernel
theorem d_Mo_assemble_135 : decode b_Mo_assemble 135 = .ok (.iconst 1, 1) := by decide +kernel
theorem d_Mo_assemble_136 : decode b_Mo_assemble 136 = .ok (.iadd, 1) := by decide +kernel
theorem d_Mo_assemble_137 : decode b_Mo_assemble 137 = .ok (.putfield 1055, 3) := by decide +kernel
theorem d_Mo_assemble_140 : decode b_Mo_assemble 140 = .ok (.aload_n 0, 1) := by decide +kernel
theorem d_Mo_assemble_141 : decode b_Mo_assemble 141 = .ok (.iload_n 2, 1) := by decide +kernel
theorem d_Mo_assemble_142 : decode b_Mo_assemble 142 = .ok (.iload_n 3, 1) := by decide +kernel
theorem d_Mo_assemble_143 : decode b_Mo_assemble 143 = .ok (.invokevirtual 1169, 3) := by decide +kernel
theorem d_Mo_assemble_146 : decode b_Mo_assemble 146 = .ok (.iload_n 3, 1) := by decide +kernel
theorem d_Mo_assemble_147 : decode b_Mo_assemble 147 = .ok (.iconst 1, 1) := by decide +kernel
theorem d_Mo_assemble_148 : decode b_Mo_assemble 148 = .ok (.iadd, 1) := by decide +kernel
theorem d_Mo_assemble_149 : decode b_Mo_assemble 149 = .ok (.istore_n 2, 1) := by decide +kernel
theorem d_Mo_assemble_150 : decode b_Mo_assemble 150 = .ok (.goto (-56), 3) := by decide +kernel
theorem d_Mo_assemble_153 : decode b_Mo_assemble 153 = .ok (.aload_n 0, 1) := by decide +kernel
theorem d_Mo_assemble_154 : decode b_Mo_assemble 154 = .ok (.invokevirtual 985, 3) := by decide +kernel
theorem d_Mo_assemble_157 : decode b_Mo_assemble 157 = .ok (.ifCond .eq 7, 3) := by decide +kernel
theorem d_Mo_assemble_160 : decode b_Mo_assemble 160 = .ok (.aload_n 0, 1) := by decide +kernel
theorem d_Mo_assemble_161 : decode b_Mo_assemble 161 = .ok (.invokevirtual 1172, 3) := by decide +kernel
theorem d_Mo_assemble_164 : decode b_Mo_assemble 164 = .ok (.aload_n 0, 1) := by decide +kernel
theorem d_Mo_assemble_165 : decode b_Mo_assemble 165 = .ok (.aload_n 0, 1) := by decide +kernel
theorem d_Mo_assemble_166 : decode b_Mo_assemble 166 = .ok (.invokevirtual 985, 3) := by decide +kernel
theorem d_Mo_assemble_169 : decode b_Mo_assemble 169 = .ok (.ifCond .eq 7, 3) := by decide +kernel
theorem d_Mo_assemble_172 : decode b_Mo_assemble 172 = .ok (.iconst 0, 1) := by decide +kernel
theorem d_Mo_assemble_173 : decode b_Mo_assemble 173 = .ok (.goto 7, 3) := by decide +kernel
theorem d_Mo_assemble_180 : decode b_Mo_assemble 180 = .ok (.putfield 1175, 3) := by decide +kernel
theorem d_Mo_assemble_183 : decode b_Mo_assemble 183 = .ok (.aload_n 0, 1) := by decide +kernel
theorem d_Mo_assemble_184 : decode b_Mo_assemble 184 = .ok (.invokevirtual 985, 3) := by decide +kernel
theorem d_Mo_assemble_187 : decode b_Mo_assemble 187 = .ok (.ifCond .ne 5, 3) := by decide +kernel
theorem d_Mo_assemble_192 : decode b_Mo_assemble 192 = .ok (.aload_n 0, 1) := by decide +kernel
theorem d_Mo_assemble_193 : decode b_Mo_assemble 193 = .ok (.dup, 1) := by decide +kernel
theorem d_Mo_assemble_194 : decode b_Mo_assemble 194 = .ok (.getfield 1010, 3) := by decide +kernel
theorem d_Mo_assemble_197 : decode b_Mo_assemble 197 = .ok (.iconst 1, 1) := by decide +kernel
theorem d_Mo_assemble_198 : decode b_Mo_assemble 198 = .ok (.iadd, 1) := by decide +kernel
theorem d_Mo_assemble_199 : decode b_Mo_assemble 199 = .ok (.putfield 1010, 3) := by decide +kernel
theorem d_Mo_assemble_202 : decode b_Mo_assemble 202 = .ok (.aload_n 0, 1) := by decide +kernel
theorem d_Mo_assemble_203 : decode b_Mo_assemble 203 = .ok (.getfield 1010, 3) := by decide +kernel
theorem d_Mo_assemble_206 : decode b_Mo_assemble 206 = .ok (.iconst 1, 1) := by decide +kernel
theorem d_Mo_assemble_207 : decode b_Mo_assemble 207 = .ok (.isub, 1) := by decide +kernel
theorem d_Mo_assemble_208 : decode b_Mo_assemble 208 = .ok (.ireturn, 1) := by decide +kernel
set_option maxHeartbeats 4000000 in
set_option maxRecDepth 100000 in
theorem c_Mo_assemble (l : Launch) (D : va_G) (h0 : Nat) (qa : Nat → Nat) (qk : Nat → ClassId) (sz : Nat) : Met l y_Mo_assemble (Cond.code y_Mo_assemble b_Mo_assemble 4 (some .int) :: bw) (xR 5 0 0) (va_Pc [.ref h0] (xP D [((qk 1), .int), ((qk 2), .int), ((qk 3), .int)] sz [(h0, .inr (7, [.int 0, .int 0, .int 0, .int 0, .int 0, .int 0, .int (-1), .int (-1), .int 0, .int 0, .int 0, .int 0, .int 0, .int 0, .int 0, .int 0, .ref (qa 0), .ref (qa 1), .ref (qa 2), .ref (qa 3), .int 0, .ref (qa 4), .ref (qa 5), .ref (qa 6), .ref (qa 7), .ref (qa 8), .ref (qa 9), .ref (qa 10), .ref (qa 11), .ref (qa 12), .ref (qa 13), .ref (qa 14), .ref (qa 15), .ref (qa 16), .ref (qa 17), .ref (qa 18), .ref (qa 19), .ref (qa 20), .int 0, .int 0, .int 0, .int 0, .long 0, .long 0, .long 0, .long 0, .long 0, .ref (qa 21), .int 0, .int 0, .int 0, .int 0])), ((qa 1), .inl ((qk 1), 24, .inl (fun _ => 0))), ((qa 2), .inl ((qk 2), 8, .inl (fun _ => 0))), ((qa 3), .inl ((qk 3), 8, .inl (fun _ => 0)))])) (xQ (S := Unit) (fun _ => some (.int 0)) (fun _ => [(h0, .inr (7, [.int 0, .int 0, .int 1, .int 0, .int 0, .int 0, .int (-1), .int (-1), .int 0, .int 0, .int 0, .int 0, .int 0, .int 0, .int 1, .int 0, .ref (qa 0), .ref (qa 1), .ref (qa 2), .ref (qa 3), .int 0, .ref (qa 4), .ref (qa 5), .ref (qa 6), .ref (qa 7), .ref (qa 8), .ref (qa 9), .ref (qa 10), .ref (qa 11), .ref (qa 12), .ref (qa 13), .ref (qa 14), .ref (qa 15), .ref (qa 16), .ref (qa 17), .ref (qa 18), .ref (qa 19), .ref (qa 20), .int 0, .int 0, .int 0, .int 0, .long 0, .long 0, .long 0, .long 0, .long 0, .ref (qa 21), .int 0, .int 0, .int 0, .int 0]))]) (fun _ => []) D (va_A [(h0, .inr (7, [.int 0, .int 0, .int 0, .int 0, .int 0, .int 0, .int (-1), .int (-1), .int 0, .int 0, .int 0, .int 0, .int 0, .int 0, .int 0, .int 0, .ref (qa 0), .ref (qa 1), .ref (qa 2), .ref (qa 3), .int 0, .ref (qa 4), .ref (qa 5), .ref (qa 6), .ref (qa 7), .ref (qa 8), .ref (qa 9), .ref (qa 10), .ref (qa 11), .ref (qa 12), .ref (qa 13), .ref (qa 14), .ref (qa 15), .ref (qa 16), .ref (qa 17), .ref (qa 18), .ref (qa 19), .ref (qa 20), .int 0, .int 0, .int 0, .int 0, .long 0, .long 0, .long 0, .long 0, .long 0, .ref (qa 21), .int 0, .int 0, .int 0, .int 0])), ((qa 1), .inl ((qk 1), 24, .inl (fun _ => 0))), ((qa 2), .inl ((qk 2), 8, .inl (fun _ => 0))), ((qa 3), .inl ((qk 3), 8, .inl (fun _ => 0)))] sz)) 0 0 (va_A [(h0, .inr (7, [.int 0, .int 0, .int 0, .int 0, .int 0, .int 0, .int (-1), .int (-1), .int 0, .int 0, .int 0, .int 0, .int 0, .int 0, .int 0, .int 0, .ref (qa 0), .ref (qa 1), .ref (qa 2), .ref (qa 3), .int 0, .ref (qa 4), .ref (qa 5), .ref (qa 6), .ref (qa 7), .ref (qa 8), .ref (qa 9), .ref (qa 10), .ref (qa 11), .ref (qa 12), .ref (qa 13), .ref (qa 14), .ref (qa 15), .ref (qa 16), .ref (qa 17), .ref (qa 18), .ref (qa 19), .ref (qa 20), .int 0, .int 0, .int 0, .int 0, .long 0, .long 0, .long 0, .long 0, .long 0, .ref (qa 21), .int 0, .int 0, .int 0, .int 0])), ((qa 1), .inl ((qk 1), 24, .inl (fun _ => 0))), ((qa 2), .inl ((qk 2), 8, .inl (fun _ => 0))), ((qa 3), .inl ((qk 3), 8, .inl (fun _ => 0)))] sz) := by
  refine Met.ofW (cc := b_Mo_assemble) (maxL := 4) (ret := (some .int)) (by decide) rfl ?_
  intro p e s m args below meth c s₁ B hml hv
  obtain ⟨rfl, hsz, hP, hK, hD0, hN, hZ⟩ := hv
  have hx := B.exec
  have hb := B.bytes
  have hr := B.returns
  have hlocks := B.notSynchronized
  have hts : ∀ w ∈ bw, w.before _ s = true := fun w h => atoms_spec (ws := Cond.code y_Mo_assemble b_Mo_assemble 4 (some .int) :: bw) B.pre w (List.mem_cons_of_mem _ h)
  have hown : s.vm.findClass "ObjectForgeModel" = some m.cls := findClass_of_methodNamed B.named
  subst hsz
  have hP0 := hP
  have hD := hD0.self (sz := s.heap.size)
  generalize hAe : va_A [(h0, .inr (7, [.int 0, .int 0, .int 0, .int 0, .int 0, .int 0, .int (-1), .int (-1), .int 0, .int 0, .int 0, .int 0, .int 0, .int 0, .int 0, .int 0, .ref (qa 0), .ref (qa 1), .ref (qa 2), .ref (qa 3), .int 0, .ref (qa 4), .ref (qa 5), .ref (qa 6), .ref (qa 7), .ref (qa 8), .ref (qa 9), .ref (qa 10), .ref (qa 11), .ref (qa 12), .ref (qa 13), .ref (qa 14), .ref (qa 15), .ref (qa 16), .ref (qa 17), .ref (qa 18), .ref (qa 19), .ref (qa 20), .int 0, .int 0, .int 0, .int 0, .long 0, .long 0, .long 0, .long 0, .long 0, .ref (qa 21), .int 0, .int 0, .int 0, .int 0])), ((qa 1), .inl ((qk 1), 24, .inl (fun _ => 0))), ((qa 2), .inl ((qk 2), 8, .inl (fun _ => 0))), ((qa 3), .inl ((qk 3), 8, .inl (fun _ => 0)))] s.heap.size = A at hD hZ ⊢
  have hA : ∀ q : Nat, s.heap.size ≤ q → A q := fun q h => by rw [← hAe]; exact Or.inr h
  have hS : va_S A s.heap s.heap [] := va_S.rf
  have hl := lv_entry ([.ref h0]) (n := 4) (Nat.le_of_ble_eq_true rfl)
  rw [lg_entry_eq]
  generalize (lg_sl ([.ref h0]) ++ List.replicate (4 - (lg_sl ([.ref h0])).length) Slot.unset).toArray = ls at hl ⊢
  have hl : lv_has ls 4 [(0, .ref h0)] := hl
  refine lv_aload_n hx hb d_Mo_assemble_0 rfl (lv_at hl 0 rfl) ?_
  refine lv_iconst (v := 0) hx hb d_Mo_assemble_1 (by decide) ?_
  refine va_put (D := D) (ci := 7) (v := .int 0) (ty := .int) (C := R_Mo) (T := F_Mo) (N := 52) hx hb hts i_Mo t_Mo t_Mo_ok n_Mo hown hK hP hD hS 0 rfl rfl 0 (by decide) (hts _ w_397) (fun _ h9 => h9) rfl (by decide +kernel) rfl rfl (Nat.le_of_ble_eq_true rfl) d_Mo_assemble_2 (fun H locs hP hD hS => ?_)
  have hP : va_P D cls [(h0, .inr (7, [.int 0, .int 0, .int 0, .int 0, .int 0, .int 0, .int (-1), .int (-1), .int 0, .int 0, .int 0, .int 0, .int 0, .int 0, .int 0, .int 0, .ref (qa 0), .ref (qa 1), .ref (qa 2), .ref (qa 3), .int 0, .ref (qa 4), .ref (qa 5), .ref (qa 6), .ref (qa 7), .ref (qa 8), .ref (qa 9), .ref (qa 10), .ref (qa 11), .ref (qa 12), .ref (qa 13), .ref (qa 14), .ref (qa 15), .ref (qa 16), .ref (qa 17), .ref (qa 18), .ref (qa 19), .ref (qa 20), .int 0, .int 0, .int 0, .int 0, .long 0, .long 0, .long 0, .long 0, .long 0, .ref (qa 21), .int 0, .int 0, .int 0, .int 0])), ((qa 1), .inl ((qk 1), 24, .inl (fun _ => 0))), ((qa 2), .inl ((qk 2), 8, .inl (fun _ => 0))), ((qa 3), .inl ((qk 3), 8, .inl (fun _ => 0)))] H := hP
  have hD : va_D A [(h0, .inr (7, [.int 0, .int 0, .int 0, .int 0, .int 0, .int 0, .int (-1), .int (-1), .int 0, .int 0, .int 0, .int 0, .int 0, .int 0, .int 0, .int 0, .ref (qa 0), .ref (qa 1), .ref (qa 2), .ref (qa 3), .int 0, .ref (qa 4), .ref (qa 5), .ref (qa 6), .ref (qa 7), .ref (qa 8), .ref (qa 9), .ref (qa 10), .ref (qa 11), .ref (qa 12), .ref (qa 13), .ref (qa 14), .ref (qa 15), .ref (qa 16), .ref (qa 17), .ref (qa 18), .ref (qa 19), .ref (qa 20), .int 0, .int 0, .int 0, .int 0, .long 0, .long 0, .long 0, .long 0, .long 0, .ref (qa 21), .int 0, .int 0, .int 0, .int 0])), ((qa 1), .inl ((qk 1), 24, .inl (fun _ => 0))), ((qa 2), .inl ((qk 2), 8, .inl (fun _ => 0))), ((qa 3), .inl ((qk 3), 8, .inl (fun _ => 0)))] := hD
  refine lv_aload_n hx hb d_Mo_assemble_5 rfl (lv_at hl 0 rfl) ?_
  refine va_get (D := D) (ci := 7) (v := .int 0) (C := R_Mo) (T := F_Mo) (N := 52) hx hb hts i_Mo hown hK hP 0 rfl rfl 1 (by decide) (hts _ w_398) (fun _ h9 => h9) rfl d_Mo_assemble_6 ?_
  refine lv_istore_n (lv' := [(1, .int 0), (0, .ref h0)]) hx hb d_Mo_assemble_9 rfl hl (by decide) rfl (fun ls hl => ?_)
  refine lv_aload_n hx hb d_Mo_assemble_10 rfl (lv_at hl 1 rfl) ?_
  refine lv_iconst (v := 0) hx hb d_Mo_assemble_11 (by decide) ?_
  refine va_put (D := D) (ci := 7) (v := .int 0) (ty := .int) (C := R_Mo) (T := F_Mo) (N := 52) hx hb hts i_Mo t_Mo t_Mo_ok n_Mo hown hK hP hD hS 0 rfl rfl 1 (by decide) (hts _ w_398) (fun _ h9 => h9) rfl (by decide +kernel) rfl rfl (Nat.le_of_ble_eq_true rfl) d_Mo_assemble_12 (fun H locs hP hD hS => ?_)
  have hP : va_P D cls [(h0, .inr (7, [.int 0, .int 0, .int 0, .int 0, .int 0, .int 0, .int (-1), .int (-1), .int 0, .int 0, .int 0, .int 0, .int 0, .int 0, .int 0, .int 0, .ref (qa 0), .ref (qa 1), .ref (qa 2), .ref (qa 3), .int 0, .ref (qa 4), .ref (qa 5), .ref (qa 6), .ref (qa 7), .ref (qa 8), .ref (qa 9), .ref (qa 10), .ref (qa 11), .ref (qa 12), .ref (qa 13), .ref (qa 14), .ref (qa 15), .ref (qa 16), .ref (qa 17), .ref (qa 18), .ref (qa 19), .ref (qa 20), .int 0, .int 0, .int 0, .int 0, .long 0, .long 0, .long 0, .long 0, .long 0, .ref (qa 21), .int 0, .int 0, .int 0, .int 0])), ((qa 1), .inl ((qk 1), 24, .inl (fun _ => 0))), ((qa 2), .inl ((qk 2), 8, .inl (fun _ => 0))), ((qa 3), .inl ((qk 3), 8, .inl (fun _ => 0)))] H := hP
  have hD : va_D A [(h0, .inr (7, [.int 0, .int 0, .int 0, .int 0, .int 0, .int 0, .int (-1), .int (-1), .int 0, .int 0, .int 0, .int 0, .int 0, .int 0, .int 0, .int 0, .ref (qa 0), .ref (qa 1), .ref (qa 2), .ref (qa 3), .int 0, .ref (qa 4), .ref (qa 5), .ref (qa 6), .ref (qa 7), .ref (qa 8), .ref (qa 9), .ref (qa 10), .ref (qa 11), .ref (qa 12), .ref (qa 13), .ref (qa 14), .ref (qa 15), .ref (qa 16), .ref (qa 17), .ref (qa 18), .ref (qa 19), .ref (qa 20), .int 0, .int 0, .int 0, .int 0, .long 0, .long 0, .long 0, .long 0, .long 0, .ref (qa 21), .int 0, .int 0, .int 0, .int 0])), ((qa 1), .inl ((qk 1), 24, .inl (fun _ => 0))), ((qa 2), .inl ((qk 2), 8, .inl (fun _ => 0))), ((qa 3), .inl ((qk 3), 8, .inl (fun _ => 0)))] := hD
  refine lv_aload_n hx hb d_Mo_assemble_15 rfl (lv_at hl 1 rfl) ?_
  refine va_get (D := D) (ci := 7) (v := .int 0) (C := R_Mo) (T := F_Mo) (N := 52) hx hb hts i_Mo hown hK hP 0 rfl rfl 2 (by decide) (hts _ w_400) (fun _ h9 => h9) rfl d_Mo_assemble_16 ?_
  refine lv_bipush (v := 8) hx hb d_Mo_assemble_19 (by decide) ?_
  refine lv_icmp_ne (tgt := 30) hx hb d_Mo_assemble_21 (by decide) (fun _ => ?_) (fun q9 => absurd q9 (by decide : ¬ ((0 : Int32) = 8)))
  refine lv_aload_n hx hb d_Mo_assemble_30 rfl (lv_at hl 1 rfl) ?_
  refine lv_iconst (v := 0) hx hb d_Mo_assemble_31 (by decide) ?_
  refine va_put (D := D) (ci := 7) (v := .int 0) (ty := .int) (C := R_Mo) (T := F_Mo) (N := 52) hx hb hts i_Mo t_Mo t_Mo_ok n_Mo hown hK hP hD hS 0 rfl rfl 3 (by decide) (hts _ w_419) (fun _ h9 => h9) rfl (by decide +kernel) rfl rfl (Nat.le_of_ble_eq_true rfl) d_Mo_assemble_32 (fun H locs hP hD hS => ?_)
  have hP : va_P D cls [(h0, .inr (7, [.int 0, .int 0, .int 0, .int 0, .int 0, .int 0, .int (-1), .int (-1), .int 0, .int 0, .int 0, .int 0, .int 0, .int 0, .int 0, .int 0, .ref (qa 0), .ref (qa 1), .ref (qa 2), .ref (qa 3), .int 0, .ref (qa 4), .ref (qa 5), .ref (qa 6), .ref (qa 7), .ref (qa 8), .ref (qa 9), .ref (qa 10), .ref (qa 11), .ref (qa 12), .ref (qa 13), .ref (qa 14), .ref (qa 15), .ref (qa 16), .ref (qa 17), .ref (qa 18), .ref (qa 19), .ref (qa 20), .int 0, .int 0, .int 0, .int 0, .long 0, .long 0, .long 0, .long 0, .long 0, .ref (qa 21), .int 0, .int 0, .int 0, .int 0])), ((qa 1), .inl ((qk 1), 24, .inl (fun _ => 0))), ((qa 2), .inl ((qk 2), 8, .inl (fun _ => 0))), ((qa 3), .inl ((qk 3), 8, .inl (fun _ => 0)))] H := hP
  have hD : va_D A [(h0, .inr (7, [.int 0, .int 0, .int 0, .int 0, .int 0, .int 0, .int (-1), .int (-1), .int 0, .int 0, .int 0, .int 0, .int 0, .int 0, .int 0, .int 0, .ref (qa 0), .ref (qa 1), .ref (qa 2), .ref (qa 3), .int 0, .ref (qa 4), .ref (qa 5), .ref (qa 6), .ref (qa 7), .ref (qa 8), .ref (qa 9), .ref (qa 10), .ref (qa 11), .ref (qa 12), .ref (qa 13), .ref (qa 14), .ref (qa 15), .ref (qa 16), .ref (qa 17), .ref (qa 18), .ref (qa 19), .ref (qa 20), .int 0, .int 0, .int 0, .int 0, .long 0, .long 0, .long 0, .long 0, .long 0, .ref (qa 21), .int 0, .int 0, .int 0, .int 0])), ((qa 1), .inl ((qk 1), 24, .inl (fun _ => 0))), ((qa 2), .inl ((qk 2), 8, .inl (fun _ => 0))), ((qa 3), .inl ((qk 3), 8, .inl (fun _ => 0)))] := hD
  refine lv_aload_n hx hb d_Mo_assemble_35 rfl (lv_at hl 1 rfl) ?_
  refine lv_iconst (v := 0) hx hb d_Mo_assemble_36 (by decide) ?_
  refine va_put (D := D) (ci := 7) (v := .int 0) (ty := .int) (C := R_Mo) (T := F_Mo) (N := 52) hx hb hts i_Mo t_Mo t_Mo_ok n_Mo hown hK hP hD hS 0 rfl rfl 14 (by decide) (hts _ w_441) (fun _ h9 => h9) rfl (by decide +kernel) rfl rfl (Nat.le_of_ble_eq_true rfl) d_Mo_assemble_37 (fun H locs hP hD hS => ?_)
  have hP : va_P D cls [(h0, .inr (7, [.int 0, .int 0, .int 0, .int 0, .int 0, .int 0, .int (-1), .int (-1), .int 0, .int 0, .int 0, .int 0, .int 0, .int 0, .int 0, .int 0, .ref (qa 0), .ref (qa 1), .ref (qa 2), .ref (qa 3), .int 0, .ref (qa 4), .ref (qa 5), .ref (qa 6), .ref (qa 7), .ref (qa 8), .ref (qa 9), .ref (qa 10), .ref (qa 11), .ref (qa 12), .ref (qa 13), .ref (qa 14), .ref (qa 15), .ref (qa 16), .ref (qa 17), .ref (qa 18), .ref (qa 19), .ref (qa 20), .int 0, .int 0, .int 0, .int 0, .long 0, .long 0, .long 0, .long 0, .long 0, .ref (qa 21), .int 0, .int 0, .int 0, .int 0])), ((qa 1), .inl ((qk 1), 24, .inl (fun _ => 0))), ((qa 2), .inl ((qk 2), 8, .inl (fun _ => 0))), ((qa 3), .inl ((qk 3), 8, .inl (fun _ => 0)))] H := hP
  have hD : va_D A [(h0, .inr (7, [.int 0, .int 0, .int 0, .int 0, .int 0, .int 0, .int (-1), .int (-1), .int 0, .int 0, .int 0, .int 0, .int 0, .int 0, .int 0, .int 0, .ref (qa 0), .ref (qa 1), .ref (qa 2), .ref (qa 3), .int 0, .ref (qa 4), .ref (qa 5), .ref (qa 6), .ref (qa 7), .ref (qa 8), .ref (qa 9), .ref (qa 10), .ref (qa 11), .ref (qa 12), .ref (qa 13), .ref (qa 14), .ref (qa 15), .ref (qa 16), .ref (qa 17), .ref (qa 18), .ref (qa 19), .ref (qa 20), .int 0, .int 0, .int 0, .int 0, .long 0, .long 0, .long 0, .long 0, .long 0, .ref (qa 21), .int 0, .int 0, .int 0, .int 0])), ((qa 1), .inl ((qk 1), 24, .inl (fun _ => 0))), ((qa 2), .inl ((qk 2), 8, .inl (fun _ => 0))), ((qa 3), .inl ((qk 3), 8, .inl (fun _ => 0)))] := hD
  refine lv_aload_n hx hb d_Mo_assemble_40 rfl (lv_at hl 1 rfl) ?_
  refine lv_iconst (v := 0) hx hb d_Mo_assemble_41 (by decide) ?_
  refine va_put (D := D) (ci := 7) (v := .int 0) (ty := .int) (C := R_Mo) (T := F_Mo) (N := 52) hx hb hts i_Mo t_Mo t_Mo_ok n_Mo hown hK hP hD hS 0 rfl rfl 15 (by decide) (hts _ w_440) (fun _ h9 => h9) rfl (by decide +kernel) rfl rfl (Nat.le_of_ble_eq_true rfl) d_Mo_assemble_42 (fun H locs hP hD hS => ?_)
  have hP : va_P D cls [(h0, .inr (7, [.int 0, .int 0, .int 0, .int 0, .int 0, .int 0, .int (-1), .int (-1), .int 0, .int 0, .int 0, .int 0, .int 0, .int 0, .int 0, .int 0, .ref (qa 0), .ref (qa 1), .ref (qa 2), .ref (qa 3), .int 0, .ref (qa 4), .ref (qa 5), .ref (qa 6), .ref (qa 7), .ref (qa 8), .ref (qa 9), .ref (qa 10), .ref (qa 11), .ref (qa 12), .ref (qa 13), .ref (qa 14), .ref (qa 15), .ref (qa 16), .ref (qa 17), .ref (qa 18), .ref (qa 19), .ref (qa 20), .int 0, .int 0, .int 0, .int 0, .long 0, .long 0, .long 0, .long 0, .long 0, .ref (qa 21), .int 0, .int 0, .int 0, .int 0])), ((qa 1), .inl ((qk 1), 24, .inl (fun _ => 0))), ((qa 2), .inl ((qk 2), 8, .inl (fun _ => 0))), ((qa 3), .inl ((qk 3), 8, .inl (fun _ => 0)))] H := hP
  have hD : va_D A [(h0, .inr (7, [.int 0, .int 0, .int 0, .int 0, .int 0, .int 0, .int (-1), .int (-1), .int 0, .int 0, .int 0, .int 0, .int 0, .int 0, .int 0, .int 0, .ref (qa 0), .ref (qa 1), .ref (qa 2), .ref (qa 3), .int 0, .ref (qa 4), .ref (qa 5), .ref (qa 6), .ref (qa 7), .ref (qa 8), .ref (qa 9), .ref (qa 10), .ref (qa 11), .ref (qa 12), .ref (qa 13), .ref (qa 14), .ref (qa 15), .ref (qa 16), .ref (qa 17), .ref (qa 18), .ref (qa 19), .ref (qa 20), .int 0, .int 0, .int 0, .int 0, .long 0, .long 0, .long 0, .long 0, .long 0, .ref (qa 21), .int 0, .int 0, .int 0, .int 0])), ((qa 1), .inl ((qk 1), 24, .inl (fun _ => 0))), ((qa 2), .inl ((qk 2), 8, .inl (fun _ => 0))), ((qa 3), .inl ((qk 3), 8, .inl (fun _ => 0)))] := hD
  refine lv_aload_n hx hb d_Mo_assemble_45 rfl (lv_at hl 1 rfl) ?_
  refine va_get (D := D) (ci := 7) (v := .ref (qa 2)) (C := R_Mo) (T := F_Mo) (N := 52) hx hb hts i_Mo hown hK hP 0 rfl rfl 18 (by decide) (hts _ w_404) (fun _ h9 => h9) rfl d_Mo_assemble_46 ?_
  refine lv_aload_n hx hb d_Mo_assemble_49 rfl (lv_at hl 1 rfl) ?_
  refine va_get (D := D) (ci := 7) (v := .int 0) (C := R_Mo) (T := F_Mo) (N := 52) hx hb hts i_Mo hown hK hP 0 rfl rfl 2 (by decide) (hts _ w_400) (fun _ h9 => h9) rfl d_Mo_assemble_50 ?_
  refine lv_iconst (v := 0) hx hb d_Mo_assemble_53 (by decide) ?_
  refine va_iast hx hb hK hP hD hS 2 1 rfl rfl (by unfold vp_in; decide) d_Mo_assemble_54 (fun H locs hP hD hS => ?_)
  obtain ⟨f1, ef1⟩ : ∃ z : Nat → Int32, z = (upd (fun _ => 0) (0 : Int32).toNatClampNeg 0) := ⟨_, rfl⟩
  have hP : va_P D cls [(h0, .inr (7, [.int 0, .int 0, .int 0, .int 0, .int 0, .int 0, .int (-1), .int (-1), .int 0, .int 0, .int 0, .int 0, .int 0, .int 0, .int 0, .int 0, .ref (qa 0), .ref (qa 1), .ref (qa 2), .ref (qa 3), .int 0, .ref (qa 4), .ref (qa 5), .ref (qa 6), .ref (qa 7), .ref (qa 8), .ref (qa 9), .ref (qa 10), .ref (qa 11), .ref (qa 12), .ref (qa 13), .ref (qa 14), .ref (qa 15), .ref (qa 16), .ref (qa 17), .ref (qa 18), .ref (qa 19), .ref (qa 20), .int 0, .int 0, .int 0, .int 0, .long 0, .long 0, .long 0, .long 0, .long 0, .ref (qa 21), .int 0, .int 0, .int 0, .int 0])), ((qa 1), .inl ((qk 1), 24, .inl (fun _ => 0))), ((qa 2), .inl ((qk 2), 8, .inl f1)), ((qa 3), .inl ((qk 3), 8, .inl (fun _ => 0)))] H := by rw [ef1]; exact hP
  have hD : va_D A [(h0, .inr (7, [.int 0, .int 0, .int 0, .int 0, .int 0, .int 0, .int (-1), .int (-1), .int 0, .int 0, .int 0, .int 0, .int 0, .int 0, .int 0, .int 0, .ref (qa 0), .ref (qa 1), .ref (qa 2), .ref (qa 3), .int 0, .ref (qa 4), .ref (qa 5), .ref (qa 6), .ref (qa 7), .ref (qa 8), .ref (qa 9), .ref (qa 10), .ref (qa 11), .ref (qa 12), .ref (qa 13), .ref (qa 14), .ref (qa 15), .ref (qa 16), .ref (qa 17), .ref (qa 18), .ref (qa 19), .ref (qa 20), .int 0, .int 0, .int 0, .int 0, .long 0, .long 0, .long 0, .long 0, .long 0, .ref (qa 21), .int 0, .int 0, .int 0, .int 0])), ((qa 1), .inl ((qk 1), 24, .inl (fun _ => 0))), ((qa 2), .inl ((qk 2), 8, .inl f1)), ((qa 3), .inl ((qk 3), 8, .inl (fun _ => 0)))] := by rw [ef1]; exact hD
  refine lv_aload_n hx hb d_Mo_assemble_55 rfl (lv_at hl 1 rfl) ?_
  refine va_get (D := D) (ci := 7) (v := .ref (qa 3)) (C := R_Mo) (T := F_Mo) (N := 52) hx hb hts i_Mo hown hK hP 0 rfl rfl 19 (by decide) (hts _ w_405) (fun _ h9 => h9) rfl d_Mo_assemble_56 ?_
  refine lv_aload_n hx hb d_Mo_assemble_59 rfl (lv_at hl 1 rfl) ?_
  refine va_get (D := D) (ci := 7) (v := .int 0) (C := R_Mo) (T := F_Mo) (N := 52) hx hb hts i_Mo hown hK hP 0 rfl rfl 2 (by decide) (hts _ w_400) (fun _ h9 => h9) rfl d_Mo_assemble_60 ?_
  refine lv_iconst (v := 0) hx hb d_Mo_assemble_63 (by decide) ?_
  refine va_iast hx hb hK hP hD hS 3 2 rfl rfl (by unfold vp_in; decide) d_Mo_assemble_64 (fun H locs hP hD hS => ?_)
  have hP : va_P D cls [(h0, .inr (7, [.int 0, .int 0, .int 0, .int 0, .int 0, .int 0, .int (-1), .int (-1), .int 0, .int 0, .int 0, .int 0, .int 0, .int 0, .int 0, .int 0, .ref (qa 0), .ref (qa 1), .ref (qa 2), .ref (qa 3), .int 0, .ref (qa 4), .ref (qa 5), .ref (qa 6), .ref (qa 7), .ref (qa 8), .ref (qa 9), .ref (qa 10), .ref (qa 11), .ref (qa 12), .ref (qa 13), .ref (qa 14), .ref (qa 15), .ref (qa 16), .ref (qa 17), .ref (qa 18), .ref (qa 19), .ref (qa 20), .int 0, .int 0, .int 0, .int 0, .long 0, .long 0, .long 0, .long 0, .long 0, .ref (qa 21), .int 0, .int 0, .int 0, .int 0])), ((qa 1), .inl ((qk 1), 24, .inl (fun _ => 0))), ((qa 2), .inl ((qk 2), 8, .inl f1)), ((qa 3), .inl ((qk 3), 8, .inl (upd (fun _ => 0) (0 : Int32).toNatClampNeg 0)))] H := hP
  have hD : va_D A [(h0, .inr (7, [.int 0, .int 0, .int 0, .int 0, .int 0, .int 0, .int (-1), .int (-1), .int 0, .int 0, .int 0, .int 0, .int 0, .int 0, .int 0, .int 0, .ref (qa 0), .ref (qa 1), .ref (qa 2), .ref (qa 3), .int 0, .ref (qa 4), .ref (qa 5), .ref (qa 6), .ref (qa 7), .ref (qa 8), .ref (qa 9), .ref (qa 10), .ref (qa 11), .ref (qa 12), .ref (qa 13), .ref (qa 14), .ref (qa 15), .ref (qa 16), .ref (qa 17), .ref (qa 18), .ref (qa 19), .ref (qa 20), .int 0, .int 0, .int 0, .int 0, .long 0, .long 0, .long 0, .long 0, .long 0, .ref (qa 21), .int 0, .int 0, .int 0, .int 0])), ((qa 1), .inl ((qk 1), 24, .inl (fun _ => 0))), ((qa 2), .inl ((qk 2), 8, .inl f1)), ((qa 3), .inl ((qk 3), 8, .inl (upd (fun _ => 0) (0 : Int32).toNatClampNeg 0)))] := hD
  refine lv_iconst (v := 0) hx hb d_Mo_assemble_65 (by decide) ?_
  refine lv_istore_n (lv' := [(2, .int 0), (1, .int 0), (0, .ref h0)]) hx hb d_Mo_assemble_66 rfl hl (by decide) rfl (fun ls hl => ?_)
  refine lv_iload_n hx hb d_Mo_assemble_67 rfl (lv_at hl 0 rfl) ?_
  refine lv_iconst (v := 3) hx hb d_Mo_assemble_68 (by decide) ?_
  refine lv_icmp_ge (tgt := 92) hx hb d_Mo_assemble_69 (by decide) (fun q9 => absurd q9 (by decide : ¬ ((3 : Int32) ≤ 0))) (fun _ => ?_)
  refine lv_aload_n hx hb d_Mo_assemble_72 rfl (lv_at hl 2 rfl) ?_
  refine va_get (D := D) (ci := 7) (v := .ref (qa 1)) (C := R_Mo) (T := F_Mo) (N := 52) hx hb hts i_Mo hown hK hP 0 rfl rfl 17 (by decide) (hts _ w_403) (fun _ h9 => h9) rfl d_Mo_assemble_73 ?_
  refine lv_iconst (v := 3) hx hb d_Mo_assemble_76 (by decide) ?_
  refine lv_aload_n hx hb d_Mo_assemble_77 rfl (lv_at hl 2 rfl) ?_
  refine va_get (D := D) (ci := 7) (v := .int 0) (C := R_Mo) (T := F_Mo) (N := 52) hx hb hts i_Mo hown hK hP 0 rfl rfl 2 (by decide) (hts _ w_400) (fun _ h9 => h9) rfl d_Mo_assemble_78 ?_
  refine lv_imul hx hb d_Mo_assemble_81 ?_
  refine lv_topi (fun z3 ez3 => ?_)
  obtain rfl : z3 = 0 := ez3.trans (by decide)
  refine lv_iload_n hx hb d_Mo_assemble_82 rfl (lv_at hl 0 rfl) ?_
  refine lv_iadd hx hb d_Mo_assemble_83 ?_
  refine lv_topi (fun z4 ez4 => ?_)
  obtain rfl : z4 = 0 := ez4.trans (by decide)
  refine lv_iconst (v := 0) hx hb d_Mo_assemble_84 (by decide) ?_
  refine va_iast hx hb hK hP hD hS 1 0 rfl rfl (by unfold vp_in; decide) d_Mo_assemble_85 (fun H locs hP hD hS => ?_)
  obtain ⟨f5, ef5⟩ : ∃ z : Nat → Int32, z = (upd (fun _ => 0) (0 : Int32).toNatClampNeg 0) := ⟨_, rfl⟩
  have hP : va_P D cls [(h0, .inr (7, [.int 0, .int 0, .int 0, .int 0, .int 0, .int 0, .int (-1), .int (-1), .int 0, .int 0, .int 0, .int 0, .int 0, .int 0, .int 0, .int 0, .ref (qa 0), .ref (qa 1), .ref (qa 2), .ref (qa 3), .int 0, .ref (qa 4), .ref (qa 5), .ref (qa 6), .ref (qa 7), .ref (qa 8), .ref (qa 9), .ref (qa 10), .ref (qa 11), .ref (qa 12), .ref (qa 13), .ref (qa 14), .ref (qa 15), .ref (qa 16), .ref (qa 17), .ref (qa 18), .ref (qa 19), .ref (qa 20), .int 0, .int 0, .int 0, .int 0, .long 0, .long 0, .long 0, .long 0, .long 0, .ref (qa 21), .int 0, .int 0, .int 0, .int 0])), ((qa 1), .inl ((qk 1), 24, .inl f5)), ((qa 2), .inl ((qk 2), 8, .inl f1)), ((qa 3), .inl ((qk 3), 8, .inl (upd (fun _ => 0) (0 : Int32).toNatClampNeg 0)))] H := by rw [ef5]; exact hP
  have hD : va_D A [(h0, .inr (7, [.int 0, .int 0, .int 0, .int 0, .int 0, .int 0, .int (-1), .int (-1), .int 0, .int 0, .int 0, .int 0, .int 0, .int 0, .int 0, .int 0, .ref (qa 0), .ref (qa 1), .ref (qa 2), .ref (qa 3), .int 0, .ref (qa 4), .ref (qa 5), .ref (qa 6), .ref (qa 7), .ref (qa 8), .ref (qa 9), .ref (qa 10), .ref (qa 11), .ref (qa 12), .ref (qa 13), .ref (qa 14), .ref (qa 15), .ref (qa 16), .ref (qa 17), .ref (qa 18), .ref (qa 19), .ref (qa 20), .int 0, .int 0, .int 0, .int 0, .long 0, .long 0, .long 0, .long 0, .long 0, .ref (qa 21), .int 0, .int 0, .int 0, .int 0])), ((qa 1), .inl ((qk 1), 24, .inl f5)), ((qa 2), .inl ((qk 2), 8, .inl f1)), ((qa 3), .inl ((qk 3), 8, .inl (upd (fun _ => 0) (0 : Int32).toNatClampNeg 0)))] := by rw [ef5]; exact hD
  refine lv_iinc (v := 1) (lv' := [(2, .int 1), (1, .int 0), (0, .ref h0)]) hx hb d_Mo_assemble_86 hl (k := 0) rfl (by decide) (by decide) rfl (fun ls hl => ?_)
  refine lv_goto (tgt := 67) hx hb d_Mo_assemble_89 (by decide) ?_
  refine lv_iload_n hx hb d_Mo_assemble_67 rfl (lv_at hl 0 rfl) ?_
  refine lv_iconst (v := 3) hx hb d_Mo_assemble_68 (by decide) ?_
  refine lv_icmp_ge (tgt := 92) hx hb d_Mo_assemble_69 (by decide) (fun q9 => absurd q9 (by decide : ¬ ((3 : Int32) ≤ 1))) (fun _ => ?_)
  refine lv_aload_n hx hb d_Mo_assemble_72 rfl (lv_at hl 2 rfl) ?_
  refine va_get (D := D) (ci := 7) (v := .ref (qa 1)) (C := R_Mo) (T := F_Mo) (N := 52) hx hb hts i_Mo hown hK hP 0 rfl rfl 17 (by decide) (hts _ w_403) (fun _ h9 => h9) rfl d_Mo_assemble_73 ?_
  refine lv_iconst (v := 3) hx hb d_Mo_assemble_76 (by decide) ?_
  refine lv_aload_n hx hb d_Mo_assemble_77 rfl (lv_at hl 2 rfl) ?_
  refine va_get (D := D) (ci := 7) (v := .int 0) (C := R_Mo) (T := F_Mo) (N := 52) hx hb hts i_Mo hown hK hP 0 rfl rfl 2 (by decide) (hts _ w_400) (fun _ h9 => h9) rfl d_Mo_assemble_78 ?_
  refine lv_imul hx hb d_Mo_assemble_81 ?_
  refine lv_topi (fun z6 ez6 => ?_)
  obtain rfl : z6 = 0 := ez6.trans (by decide)
  refine lv_iload_n hx hb d_Mo_assemble_82 rfl (lv_at hl 0 rfl) ?_
  refine lv_iadd hx hb d_Mo_assemble_83 ?_
  refine lv_topi (fun z7 ez7 => ?_)
  obtain rfl : z7 = 1 := ez7.trans (by decide)
  refine lv_iconst (v := 0) hx hb d_Mo_assemble_84 (by decide) ?_
  refine va_iast hx hb hK hP hD hS 1 0 rfl rfl (by unfold vp_in; decide) d_Mo_assemble_85 (fun H locs hP hD hS => ?_)
  obtain ⟨f8, ef8⟩ : ∃ z : Nat → Int32, z = (upd f5 (1 : Int32).toNatClampNeg 0) := ⟨_, rfl⟩
  have hP : va_P D cls [(h0, .inr (7, [.int 0, .int 0, .int 0, .int 0, .int 0, .int 0, .int (-1), .int (-1), .int 0, .int 0, .int 0, .int 0, .int 0, .int 0, .int 0, .int 0, .ref (qa 0), .ref (qa 1), .ref (qa 2), .ref (qa 3), .int 0, .ref (qa 4), .ref (qa 5), .ref (qa 6), .ref (qa 7), .ref (qa 8), .ref (qa 9), .ref (qa 10), .ref (qa 11), .ref (qa 12), .ref (qa 13), .ref (qa 14), .ref (qa 15), .ref (qa 16), .ref (qa 17), .ref (qa 18), .ref (qa 19), .ref (qa 20), .int 0, .int 0, .int 0, .int 0, .long 0, .long 0, .long 0, .long 0, .long 0, .ref (qa 21), .int 0, .int 0, .int 0, .int 0])), ((qa 1), .inl ((qk 1), 24, .inl f8)), ((qa 2), .inl ((qk 2), 8, .inl f1)), ((qa 3), .inl ((qk 3), 8, .inl (upd (fun _ => 0) (0 : Int32).toNatClampNeg 0)))] H := by rw [ef8]; exact hP
  have hD : va_D A [(h0, .inr (7, [.int 0, .int 0, .int 0, .int 0, .int 0, .int 0, .int (-1), .int (-1), .int 0, .int 0, .int 0, .int 0, .int 0, .int 0, .int 0, .int 0, .ref (qa 0), .ref (qa 1), .ref (qa 2), .ref (qa 3), .int 0, .ref (qa 4), .ref (qa 5), .ref (qa 6), .ref (qa 7), .ref (qa 8), .ref (qa 9), .ref (qa 10), .ref (qa 11), .ref (qa 12), .ref (qa 13), .ref (qa 14), .ref (qa 15), .ref (qa 16), .ref (qa 17), .ref (qa 18), .ref (qa 19), .ref (qa 20), .int 0, .int 0, .int 0, .int 0, .long 0, .long 0, .long 0, .long 0, .long 0, .ref (qa 21), .int 0, .int 0, .int 0, .int 0])), ((qa 1), .inl ((qk 1), 24, .inl f8)), ((qa 2), .inl ((qk 2), 8, .inl f1)), ((qa 3), .inl ((qk 3), 8, .inl (upd (fun _ => 0) (0 : Int32).toNatClampNeg 0)))] := by rw [ef8]; exact hD
  refine lv_iinc (v := 2) (lv' := [(2, .int 2), (1, .int 0), (0, .ref h0)]) hx hb d_Mo_assemble_86 hl (k := 0) rfl (by decide) (by decide) rfl (fun ls hl => ?_)
  refine lv_goto (tgt := 67) hx hb d_Mo_assemble_89 (by decide) ?_
  refine lv_iload_n hx hb d_Mo_assemble_67 rfl (lv_at hl 0 rfl) ?_
  refine lv_iconst (v := 3) hx hb d_Mo_assemble_68 (by decide) ?_
  refine lv_icmp_ge (tgt := 92) hx hb d_Mo_assemble_69 (by decide) (fun q9 => absurd q9 (by decide : ¬ ((3 : Int32) ≤ 2))) (fun _ => ?_)
  refine lv_aload_n hx hb d_Mo_assemble_72 rfl (lv_at hl 2 rfl) ?_
  refine va_get (D := D) (ci := 7) (v := .ref (qa 1)) (C := R_Mo) (T := F_Mo) (N := 52) hx hb hts i_Mo hown hK hP 0 rfl rfl 17 (by decide) (hts _ w_403) (fun _ h9 => h9) rfl d_Mo_assemble_73 ?_
  refine lv_iconst (v := 3) hx hb d_Mo_assemble_76 (by decide) ?_
  refine lv_aload_n hx hb d_Mo_assemble_77 rfl (lv_at hl 2 rfl) ?_
  refine va_get (D := D) (ci := 7) (v := .int 0) (C := R_Mo) (T := F_Mo) (N := 52) hx hb hts i_Mo hown hK hP 0 rfl rfl 2 (by decide) (hts _ w_400) (fun _ h9 => h9) rfl d_Mo_assemble_78 ?_
  refine lv_imul hx hb d_Mo_assemble_81 ?_
  refine lv_topi (fun z9 ez9 => ?_)
  obtain rfl : z9 = 0 := ez9.trans (by decide)
  refine lv_iload_n hx hb d_Mo_assemble_82 rfl (lv_at hl 0 rfl) ?_
  refine lv_iadd hx hb d_Mo_assemble_83 ?_
  refine lv_topi (fun z10 ez10 => ?_)
  obtain rfl : z10 = 2 := ez10.trans (by decide)
  refine lv_iconst (v := 0) hx hb d_Mo_assemble_84 (by decide) ?_
  refine va_iast hx hb hK hP hD hS 1 0 rfl rfl (by unfold vp_in; decide) d_Mo_assemble_85 (fun H locs hP hD hS => ?_)
  obtain ⟨f11, ef11⟩ : ∃ z : Nat → Int32, z = (upd f8 (2 : Int32).toNatClampNeg 0) := ⟨_, rfl⟩
  have hP : va_P D cls [(h0, .inr (7, [.int 0, .int 0, .int 0, .int 0, .int 0, .int 0, .int (-1), .int (-1), .int 0, .int 0, .int 0, .int 0, .int 0, .int 0, .int 0, .int 0, .ref (qa 0), .ref (qa 1), .ref (qa 2), .ref (qa 3), .int 0, .ref (qa 4), .ref (qa 5), .ref (qa 6), .ref (qa 7), .ref (qa 8), .ref (qa 9), .ref (qa 10), .ref (qa 11), .ref (qa 12), .ref (qa 13), .ref (qa 14), .ref (qa 15), .ref (qa 16), .ref (qa 17), .ref (qa 18), .ref (qa 19), .ref (qa 20), .int 0, .int 0, .int 0, .int 0, .long 0, .long 0, .long 0, .long 0, .long 0, .ref (qa 21), .int 0, .int 0, .int 0, .int 0])), ((qa 1), .inl ((qk 1), 24, .inl f11)), ((qa 2), .inl ((qk 2), 8, .inl f1)), ((qa 3), .inl ((qk 3), 8, .inl (upd (fun _ => 0) (0 : Int32).toNatClampNeg 0)))] H := by rw [ef11]; exact hP
  have hD : va_D A [(h0, .inr (7, [.int 0, .int 0, .int 0, .int 0, .int 0, .int 0, .int (-1), .int (-1), .int 0, .int 0, .int 0, .int 0, .int 0, .int 0, .int 0, .int 0, .ref (qa 0), .ref (qa 1), .ref (qa 2), .ref (qa 3), .int 0, .ref (qa 4), .ref (qa 5), .ref (qa 6), .ref (qa 7), .ref (qa 8), .ref (qa 9), .ref (qa 10), .ref (qa 11), .ref (qa 12), .ref (qa 13), .ref (qa 14), .ref (qa 15), .ref (qa 16), .ref (qa 17), .ref (qa 18), .ref (qa 19), .ref (qa 20), .int 0, .int 0, .int 0, .int 0, .long 0, .long 0, .long 0, .long 0, .long 0, .ref (qa 21), .int 0, .int 0, .int 0, .int 0])), ((qa 1), .inl ((qk 1), 24, .inl f11)), ((qa 2), .inl ((qk 2), 8, .inl f1)), ((qa 3), .inl ((qk 3), 8, .inl (upd (fun _ => 0) (0 : Int32).toNatClampNeg 0)))] := by rw [ef11]; exact hD
  refine lv_iinc (v := 3) (lv' := [(2, .int 3), (1, .int 0), (0, .ref h0)]) hx hb d_Mo_assemble_86 hl (k := 0) rfl (by decide) (by decide) rfl (fun ls hl => ?_)
  refine lv_goto (tgt := 67) hx hb d_Mo_assemble_89 (by decide) ?_
  refine lv_iload_n hx hb d_Mo_assemble_67 rfl (lv_at hl 0 rfl) ?_
  refine lv_iconst (v := 3) hx hb d_Mo_assemble_68 (by decide) ?_
  refine lv_icmp_ge (tgt := 92) hx hb d_Mo_assemble_69 (by decide) (fun _ => ?_) (fun q9 => absurd (by decide : ((3 : Int32) ≤ 3)) q9)
  refine lv_iconst (v := 0) hx hb d_Mo_assemble_92 (by decide) ?_
  refine lv_istore_n (lv' := [(2, .int 0), (1, .int 0), (0, .ref h0)]) hx hb d_Mo_assemble_93 rfl hl (by decide) rfl (fun ls hl => ?_)
  refine lv_iload_n hx hb d_Mo_assemble_94 rfl (lv_at hl 0 rfl) ?_
  refine lv_iload_n hx hb d_Mo_assemble_95 rfl (lv_at hl 1 rfl) ?_
  refine lv_icmp_gt (tgt := 153) hx hb d_Mo_assemble_96 (by decide) (fun q9 => absurd q9 (by decide : ¬ ((0 : Int32) < 0))) (fun _ => ?_)
  refine lv_aload_n hx hb d_Mo_assemble_99 rfl (lv_at hl 2 rfl) ?_
  refine xc_V (As := []) (rest := []) (n := 0) (wc := [(h0, .inr (7, [.int 0, .int 0, .int 0, .int 0, .int 0, .int 0, .int (-1), .int (-1), .int 0, .int 0, .int 0, .int 0, .int 0, .int 0, .int 0, .int 0, .ref (qa 0), .ref (qa 1), .ref (qa 2), .ref (qa 3), .int 0, .ref (qa 4), .ref (qa 5), .ref (qa 6), .ref (qa 7), .ref (qa 8), .ref (qa 9), .ref (qa 10), .ref (qa 11), .ref (qa 12), .ref (qa 13), .ref (qa 14), .ref (qa 15), .ref (qa 16), .ref (qa 17), .ref (qa 18), .ref (qa 19), .ref (qa 20), .int 0, .int 0, .int 0, .int 0, .long 0, .long 0, .long 0, .long 0, .long 0, .ref (qa 21), .int 0, .int 0, .int 0, .int 0]))]) (wr := [((qa 1), .inl ((qk 1), 24, .inl f11)), ((qa 2), .inl ((qk 2), 8, .inl f1)), ((qa 3), .inl ((qk 3), 8, .inl (upd (fun _ => 0) (0 : Int32).toNatClampNeg 0)))]) (tc := []) (tr := [((qk 1), .int), ((qk 2), .int), ((qk 3), .int)]) ⟨hx, hb, hml, hown, hts⟩ (c_Mo_fine l D h0 qa 0 H.size) rfl rfl w_466 w_464 w_465 w_559 w_8 (by decide +kernel) ⟨Nat.le_of_ble_eq_true rfl, Nat.le_of_ble_eq_true rfl⟩ hP hD hK hS hA hN hZ [0] [1, 2, 3] rfl rfl (by decide) (by decide) (by decide) [] [0, 1, 2] rfl rfl (ci := 7) (q0 := 0) (q := (R_Mo, F_Mo, 52)) rfl rfl rfl rfl hl.1 rfl (Nat.le_of_ble_eq_true rfl) d_Mo_assemble_100 ⟨Nat.le_of_ble_eq_true rfl, Nat.le_of_ble_eq_true rfl⟩ (fun u12 H locs hP hD hK hS => ?_)
  have hP : va_P D cls [((qa 1), .inl ((qk 1), 24, .inl f11)), ((qa 2), .inl ((qk 2), 8, .inl f1)), ((qa 3), .inl ((qk 3), 8, .inl (upd (fun _ => 0) (0 : Int32).toNatClampNeg 0))), (h0, .inr (7, [.int 0, .int 0, .int 0, .int 0, .int 0, .int 0, .int (-1), .int (-1), .int 0, .int 0, .int 0, .int 0, .int 0, .int 0, .int 0, .int 0, .ref (qa 0), .ref (qa 1), .ref (qa 2), .ref (qa 3), .int 0, .ref (qa 4), .ref (qa 5), .ref (qa 6), .ref (qa 7), .ref (qa 8), .ref (qa 9), .ref (qa 10), .ref (qa 11), .ref (qa 12), .ref (qa 13), .ref (qa 14), .ref (qa 15), .ref (qa 16), .ref (qa 17), .ref (qa 18), .ref (qa 19), .ref (qa 20), .int 0, .int 0, .int 0, .int 0, .long 0, .long 0, .long 0, .long 0, .long 0, .ref (qa 21), .int 0, .int 0, .int 0, .int 0]))] H := hP
  have hD : va_D A [((qa 1), .inl ((qk 1), 24, .inl f11)), ((qa 2), .inl ((qk 2), 8, .inl f1)), ((qa 3), .inl ((qk 3), 8, .inl (upd (fun _ => 0) (0 : Int32).toNatClampNeg 0))), (h0, .inr (7, [.int 0, .int 0, .int 0, .int 0, .int 0, .int 0, .int (-1), .int (-1), .int 0, .int 0, .int 0, .int 0, .int 0, .int 0, .int 0, .int 0, .ref (qa 0), .ref (qa 1), .ref (qa 2), .ref (qa 3), .int 0, .ref (qa 4), .ref (qa 5), .ref (qa 6), .ref (qa 7), .ref (qa 8), .ref (qa 9), .ref (qa 10), .ref (qa 11), .ref (qa 12), .ref (qa 13), .ref (qa 14), .ref (qa 15), .ref (qa 16), .ref (qa 17), .ref (qa 18), .ref (qa 19), .ref (qa 20), .int 0, .int 0, .int 0, .int 0, .long 0, .long 0, .long 0, .long 0, .long 0, .ref (qa 21), .int 0, .int 0, .int 0, .int 0]))] := hD
  have hK : va_K D cls [((qk 1), .int), ((qk 2), .int), ((qk 3), .int)] s := hK
  refine W.eq (g2 := F0 m 103 ls [.int 1]) rfl ?_
  refine lv_if_eq (tgt := 153) hx hb d_Mo_assemble_103 (by decide) (fun q9 => absurd q9 (by decide : ¬ ((1 : Int32) = 0))) (fun _ => ?_)
  refine lv_iload_n hx hb d_Mo_assemble_106 rfl (lv_at hl 0 rfl) ?_
  refine lv_istore_n (lv' := [(3, .int 0), (2, .int 0), (1, .int 0), (0, .ref h0)]) hx hb d_Mo_assemble_107 rfl hl (by decide) rfl (fun ls hl => ?_)
  refine lv_iload_n hx hb d_Mo_assemble_108 rfl (lv_at hl 0 rfl) ?_
  refine lv_iload_n hx hb d_Mo_assemble_109 rfl (lv_at hl 2 rfl) ?_
  refine lv_icmp_ge (tgt := 130) hx hb d_Mo_assemble_110 (by decide) (fun _ => ?_) (fun q9 => absurd (by decide : ((0 : Int32) ≤ 0)) q9)
  refine lv_aload_n hx hb d_Mo_assemble_130 rfl (lv_at hl 3 rfl) ?_
  refine lv_dup hx hb d_Mo_assemble_131 rfl ?_
  refine va_get (D := D) (ci := 7) (v := .int 0) (C := R_Mo) (T := F_Mo) (N := 52) hx hb hts i_Mo hown hK hP 3 rfl rfl 14 (by decide) (hts _ w_441) (fun _ h9 => h9) rfl d_Mo_assemble_132 ?_
  refine lv_iconst (v := 1) hx hb d_Mo_assemble_135 (by decide) ?_
  refine lv_iadd hx hb d_Mo_assemble_136 ?_
  refine lv_topi (fun z13 ez13 => ?_)
  obtain rfl : z13 = 1 := ez13.trans (by decide)
  refine va_put (D := D) (ci := 7) (v := .int 1) (ty := .int) (C := R_Mo) (T := F_Mo) (N := 52) hx hb hts i_Mo t_Mo t_Mo_ok n_Mo hown hK hP hD hS 3 rfl rfl 14 (by decide) (hts _ w_441) (fun _ h9 => h9) rfl (by decide +kernel) rfl rfl (Nat.le_of_ble_eq_true rfl) d_Mo_assemble_137 (fun H locs hP hD hS => ?_)
  have hP : va_P D cls [((qa 1), .inl ((qk 1), 24, .inl f11)), ((qa 2), .inl ((qk 2), 8, .inl f1)), ((qa 3), .inl ((qk 3), 8, .inl (upd (fun _ => 0) (0 : Int32).toNatClampNeg 0))), (h0, .inr (7, [.int 0, .int 0, .int 0, .int 0, .int 0, .int 0, .int (-1), .int (-1), .int 0, .int 0, .int 0, .int 0, .int 0, .int 0, .int 1, .int 0, .ref (qa 0), .ref (qa 1), .ref (qa 2), .ref (qa 3), .int 0, .ref (qa 4), .ref (qa 5), .ref (qa 6), .ref (qa 7), .ref (qa 8), .ref (qa 9), .ref (qa 10), .ref (qa 11), .ref (qa 12), .ref (qa 13), .ref (qa 14), .ref (qa 15), .ref (qa 16), .ref (qa 17), .ref (qa 18), .ref (qa 19), .ref (qa 20), .int 0, .int 0, .int 0, .int 0, .long 0, .long 0, .long 0, .long 0, .long 0, .ref (qa 21), .int 0, .int 0, .int 0, .int 0]))] H := hP
  have hD : va_D A [((qa 1), .inl ((qk 1), 24, .inl f11)), ((qa 2), .inl ((qk 2), 8, .inl f1)), ((qa 3), .inl ((qk 3), 8, .inl (upd (fun _ => 0) (0 : Int32).toNatClampNeg 0))), (h0, .inr (7, [.int 0, .int 0, .int 0, .int 0, .int 0, .int 0, .int (-1), .int (-1), .int 0, .int 0, .int 0, .int 0, .int 0, .int 0, .int 1, .int 0, .ref (qa 0), .ref (qa 1), .ref (qa 2), .ref (qa 3), .int 0, .ref (qa 4), .ref (qa 5), .ref (qa 6), .ref (qa 7), .ref (qa 8), .ref (qa 9), .ref (qa 10), .ref (qa 11), .ref (qa 12), .ref (qa 13), .ref (qa 14), .ref (qa 15), .ref (qa 16), .ref (qa 17), .ref (qa 18), .ref (qa 19), .ref (qa 20), .int 0, .int 0, .int 0, .int 0, .long 0, .long 0, .long 0, .long 0, .long 0, .ref (qa 21), .int 0, .int 0, .int 0, .int 0]))] := hD
  refine lv_aload_n hx hb d_Mo_assemble_140 rfl (lv_at hl 3 rfl) ?_
  refine lv_iload_n hx hb d_Mo_assemble_141 rfl (lv_at hl 1 rfl) ?_
  refine lv_iload_n hx hb d_Mo_assemble_142 rfl (lv_at hl 0 rfl) ?_
  refine xc_V (As := [.int 0, .int 0]) (rest := []) (n := 2) (wc := [(h0, .inr (7, [.int 0, .int 0, .int 0, .int 0, .int 0, .int 0, .int (-1), .int (-1), .int 0, .int 0, .int 0, .int 0, .int 0, .int 0, .int 1, .int 0, .ref (qa 0), .ref (qa 1), .ref (qa 2), .ref (qa 3), .int 0, .ref (qa 4), .ref (qa 5), .ref (qa 6), .ref (qa 7), .ref (qa 8), .ref (qa 9), .ref (qa 10), .ref (qa 11), .ref (qa 12), .ref (qa 13), .ref (qa 14), .ref (qa 15), .ref (qa 16), .ref (qa 17), .ref (qa 18), .ref (qa 19), .ref (qa 20), .int 0, .int 0, .int 0, .int 0, .long 0, .long 0, .long 0, .long 0, .long 0, .ref (qa 21), .int 0, .int 0, .int 0, .int 0]))]) (wr := [((qa 1), .inl ((qk 1), 24, .inl f11)), ((qa 2), .inl ((qk 2), 8, .inl f1)), ((qa 3), .inl ((qk 3), 8, .inl (upd (fun _ => 0) (0 : Int32).toNatClampNeg 0)))]) (tc := []) (tr := [((qk 1), .int), ((qk 2), .int), ((qk 3), .int)]) ⟨hx, hb, hml, hown, hts⟩ (c_Mo_read l D h0 qa 1 H.size) rfl rfl w_469 w_467 w_468 w_560 w_8 (by decide +kernel) ⟨Nat.le_of_ble_eq_true rfl, Nat.le_of_ble_eq_true rfl⟩ hP hD hK hS hA hN hZ [3] [0, 1, 2] rfl rfl (by decide) (by decide) (by decide) [] [0, 1, 2] rfl rfl (ci := 7) (q0 := 0) (q := (R_Mo, F_Mo, 52)) rfl rfl rfl rfl hl.1 rfl (Nat.le_of_ble_eq_true rfl) d_Mo_assemble_143 ⟨Nat.le_of_ble_eq_true rfl, Nat.le_of_ble_eq_true rfl⟩ (fun u14 H locs hP hD hK hS => ?_)
  have hP : va_P D cls [((qa 1), .inl ((qk 1), 24, .inl f11)), ((qa 2), .inl ((qk 2), 8, .inl f1)), ((qa 3), .inl ((qk 3), 8, .inl (upd (fun _ => 0) (0 : Int32).toNatClampNeg 0))), (h0, .inr (7, [.int 0, .int 0, .int 0, .int 0, .int 0, .int 0, .int (-1), .int (-1), .int 0, .int 0, .int 0, .int 0, .int 0, .int 0, .int 1, .int 0, .ref (qa 0), .ref (qa 1), .ref (qa 2), .ref (qa 3), .int 0, .ref (qa 4), .ref (qa 5), .ref (qa 6), .ref (qa 7), .ref (qa 8), .ref (qa 9), .ref (qa 10), .ref (qa 11), .ref (qa 12), .ref (qa 13), .ref (qa 14), .ref (qa 15), .ref (qa 16), .ref (qa 17), .ref (qa 18), .ref (qa 19), .ref (qa 20), .int 0, .int 0, .int 0, .int 0, .long 0, .long 0, .long 0, .long 0, .long 0, .ref (qa 21), .int 0, .int 0, .int 0, .int 0]))] H := hP
  have hD : va_D A [((qa 1), .inl ((qk 1), 24, .inl f11)), ((qa 2), .inl ((qk 2), 8, .inl f1)), ((qa 3), .inl ((qk 3), 8, .inl (upd (fun _ => 0) (0 : Int32).toNatClampNeg 0))), (h0, .inr (7, [.int 0, .int 0, .int 0, .int 0, .int 0, .int 0, .int (-1), .int (-1), .int 0, .int 0, .int 0, .int 0, .int 0, .int 0, .int 1, .int 0, .ref (qa 0), .ref (qa 1), .ref (qa 2), .ref (qa 3), .int 0, .ref (qa 4), .ref (qa 5), .ref (qa 6), .ref (qa 7), .ref (qa 8), .ref (qa 9), .ref (qa 10), .ref (qa 11), .ref (qa 12), .ref (qa 13), .ref (qa 14), .ref (qa 15), .ref (qa 16), .ref (qa 17), .ref (qa 18), .ref (qa 19), .ref (qa 20), .int 0, .int 0, .int 0, .int 0, .long 0, .long 0, .long 0, .long 0, .long 0, .ref (qa 21), .int 0, .int 0, .int 0, .int 0]))] := hD
  have hK : va_K D cls [((qk 1), .int), ((qk 2), .int), ((qk 3), .int)] s := hK
  refine W.eq (g2 := F0 m 146 ls []) rfl ?_
  refine lv_iload_n hx hb d_Mo_assemble_146 rfl (lv_at hl 0 rfl) ?_
  refine lv_iconst (v := 1) hx hb d_Mo_assemble_147 (by decide) ?_
  refine lv_iadd hx hb d_Mo_assemble_148 ?_
  refine lv_topi (fun z15 ez15 => ?_)
  obtain rfl : z15 = 1 := ez15.trans (by decide)
  refine lv_istore_n (lv' := [(2, .int 1), (3, .int 0), (1, .int 0), (0, .ref h0)]) hx hb d_Mo_assemble_149 rfl hl (by decide) rfl (fun ls hl => ?_)
  refine lv_goto (tgt := 94) hx hb d_Mo_assemble_150 (by decide) ?_
  refine lv_iload_n hx hb d_Mo_assemble_94 rfl (lv_at hl 0 rfl) ?_
  refine lv_iload_n hx hb d_Mo_assemble_95 rfl (lv_at hl 2 rfl) ?_
  refine lv_icmp_gt (tgt := 153) hx hb d_Mo_assemble_96 (by decide) (fun _ => ?_) (fun q9 => absurd (by decide : ((0 : Int32) < 1)) q9)
  refine lv_aload_n hx hb d_Mo_assemble_153 rfl (lv_at hl 3 rfl) ?_
  refine xc_V (As := []) (rest := []) (n := 0) (wc := [(h0, .inr (7, [.int 0, .int 0, .int 0, .int 0, .int 0, .int 0, .int (-1), .int (-1), .int 0, .int 0, .int 0, .int 0, .int 0, .int 0, .int 1, .int 0, .ref (qa 0), .ref (qa 1), .ref (qa 2), .ref (qa 3), .int 0, .ref (qa 4), .ref (qa 5), .ref (qa 6), .ref (qa 7), .ref (qa 8), .ref (qa 9), .ref (qa 10), .ref (qa 11), .ref (qa 12), .ref (qa 13), .ref (qa 14), .ref (qa 15), .ref (qa 16), .ref (qa 17), .ref (qa 18), .ref (qa 19), .ref (qa 20), .int 0, .int 0, .int 0, .int 0, .long 0, .long 0, .long 0, .long 0, .long 0, .ref (qa 21), .int 0, .int 0, .int 0, .int 0]))]) (wr := [((qa 1), .inl ((qk 1), 24, .inl f11)), ((qa 2), .inl ((qk 2), 8, .inl f1)), ((qa 3), .inl ((qk 3), 8, .inl (upd (fun _ => 0) (0 : Int32).toNatClampNeg 0)))]) (tc := []) (tr := [((qk 1), .int), ((qk 2), .int), ((qk 3), .int)]) ⟨hx, hb, hml, hown, hts⟩ (c_Mo_fine l D h0 qa 1 H.size) rfl rfl w_466 w_464 w_465 w_559 w_8 (by decide +kernel) ⟨Nat.le_of_ble_eq_true rfl, Nat.le_of_ble_eq_true rfl⟩ hP hD hK hS hA hN hZ [3] [0, 1, 2] rfl rfl (by decide) (by decide) (by decide) [] [0, 1, 2] rfl rfl (ci := 7) (q0 := 0) (q := (R_Mo, F_Mo, 52)) rfl rfl rfl rfl hl.1 rfl (Nat.le_of_ble_eq_true rfl) d_Mo_assemble_154 ⟨Nat.le_of_ble_eq_true rfl, Nat.le_of_ble_eq_true rfl⟩ (fun u16 H locs hP hD hK hS => ?_)
  have hP : va_P D cls [((qa 1), .inl ((qk 1), 24, .inl f11)), ((qa 2), .inl ((qk 2), 8, .inl f1)), ((qa 3), .inl ((qk 3), 8, .inl (upd (fun _ => 0) (0 : Int32).toNatClampNeg 0))), (h0, .inr (7, [.int 0, .int 0, .int 0, .int 0, .int 0, .int 0, .int (-1), .int (-1), .int 0, .int 0, .int 0, .int 0, .int 0, .int 0, .int 1, .int 0, .ref (qa 0), .ref (qa 1), .ref (qa 2), .ref (qa 3), .int 0, .ref (qa 4), .ref (qa 5), .ref (qa 6), .ref (qa 7), .ref (qa 8), .ref (qa 9), .ref (qa 10), .ref (qa 11), .ref (qa 12), .ref (qa 13), .ref (qa 14), .ref (qa 15), .ref (qa 16), .ref (qa 17), .ref (qa 18), .ref (qa 19), .ref (qa 20), .int 0, .int 0, .int 0, .int 0, .long 0, .long 0, .long 0, .long 0, .long 0, .ref (qa 21), .int 0, .int 0, .int 0, .int 0]))] H := hP
  have hD : va_D A [((qa 1), .inl ((qk 1), 24, .inl f11)), ((qa 2), .inl ((qk 2), 8, .inl f1)), ((qa 3), .inl ((qk 3), 8, .inl (upd (fun _ => 0) (0 : Int32).toNatClampNeg 0))), (h0, .inr (7, [.int 0, .int 0, .int 0, .int 0, .int 0, .int 0, .int (-1), .int (-1), .int 0, .int 0, .int 0, .int 0, .int 0, .int 0, .int 1, .int 0, .ref (qa 0), .ref (qa 1), .ref (qa 2), .ref (qa 3), .int 0, .ref (qa 4), .ref (qa 5), .ref (qa 6), .ref (qa 7), .ref (qa 8), .ref (qa 9), .ref (qa 10), .ref (qa 11), .ref (qa 12), .ref (qa 13), .ref (qa 14), .ref (qa 15), .ref (qa 16), .ref (qa 17), .ref (qa 18), .ref (qa 19), .ref (qa 20), .int 0, .int 0, .int 0, .int 0, .long 0, .long 0, .long 0, .long 0, .long 0, .ref (qa 21), .int 0, .int 0, .int 0, .int 0]))] := hD
  have hK : va_K D cls [((qk 1), .int), ((qk 2), .int), ((qk 3), .int)] s := hK
  refine W.eq (g2 := F0 m 157 ls [.int 1]) rfl ?_
  refine lv_if_eq (tgt := 164) hx hb d_Mo_assemble_157 (by decide) (fun q9 => absurd q9 (by decide : ¬ ((1 : Int32) = 0))) (fun _ => ?_)
  refine lv_aload_n hx hb d_Mo_assemble_160 rfl (lv_at hl 3 rfl) ?_
  refine xc_V (As := []) (rest := []) (n := 0) (wc := [(h0, .inr (7, [.int 0, .int 0, .int 0, .int 0, .int 0, .int 0, .int (-1), .int (-1), .int 0, .int 0, .int 0, .int 0, .int 0, .int 0, .int 1, .int 0, .ref (qa 0), .ref (qa 1), .ref (qa 2), .ref (qa 3), .int 0, .ref (qa 4), .ref (qa 5), .ref (qa 6), .ref (qa 7), .ref (qa 8), .ref (qa 9), .ref (qa 10), .ref (qa 11), .ref (qa 12), .ref (qa 13), .ref (qa 14), .ref (qa 15), .ref (qa 16), .ref (qa 17), .ref (qa 18), .ref (qa 19), .ref (qa 20), .int 0, .int 0, .int 0, .int 0, .long 0, .long 0, .long 0, .long 0, .long 0, .ref (qa 21), .int 0, .int 0, .int 0, .int 0])), ((qa 3), .inl ((qk 3), 8, .inl (upd (fun _ => 0) (0 : Int32).toNatClampNeg 0)))]) (wr := [((qa 1), .inl ((qk 1), 24, .inl f11)), ((qa 2), .inl ((qk 2), 8, .inl f1))]) (tc := [((qk 3), .int)]) (tr := [((qk 1), .int), ((qk 2), .int)]) ⟨hx, hb, hml, hown, hts⟩ (c_Mo_settle l D h0 qa qk 1 (upd (fun _ => 0) (0 : Int32).toNatClampNeg 0) (by decide) H.size) rfl rfl w_498 w_496 w_497 w_563 w_8 (by decide +kernel) ⟨Nat.le_of_ble_eq_true rfl, Nat.le_of_ble_eq_true rfl⟩ hP hD hK hS hA hN hZ [3, 2] [0, 1] rfl rfl (by decide) (by decide) (by decide) [2] [0, 1] rfl rfl (ci := 7) (q0 := 0) (q := (R_Mo, F_Mo, 52)) rfl rfl rfl rfl hl.1 rfl (Nat.le_of_ble_eq_true rfl) d_Mo_assemble_161 ⟨Nat.le_of_ble_eq_true rfl, Nat.le_of_ble_eq_true rfl⟩ (fun u17 H locs hP hD hK hS => ?_)
  have hP : va_P D cls [((qa 1), .inl ((qk 1), 24, .inl f11)), ((qa 2), .inl ((qk 2), 8, .inl f1)), (h0, .inr (7, [.int 0, .int 0, .int 0, .int 0, .int 0, .int 0, .int (-1), .int (-1), .int 0, .int 0, .int 0, .int 0, .int 0, .int 0, .int 1, .int 0, .ref (qa 0), .ref (qa 1), .ref (qa 2), .ref (qa 3), .int 0, .ref (qa 4), .ref (qa 5), .ref (qa 6), .ref (qa 7), .ref (qa 8), .ref (qa 9), .ref (qa 10), .ref (qa 11), .ref (qa 12), .ref (qa 13), .ref (qa 14), .ref (qa 15), .ref (qa 16), .ref (qa 17), .ref (qa 18), .ref (qa 19), .ref (qa 20), .int 0, .int 0, .int 0, .int 0, .long 0, .long 0, .long 0, .long 0, .long 0, .ref (qa 21), .int 0, .int 0, .int 0, .int 0]))] H := hP
  have hD : va_D A [((qa 1), .inl ((qk 1), 24, .inl f11)), ((qa 2), .inl ((qk 2), 8, .inl f1)), (h0, .inr (7, [.int 0, .int 0, .int 0, .int 0, .int 0, .int 0, .int (-1), .int (-1), .int 0, .int 0, .int 0, .int 0, .int 0, .int 0, .int 1, .int 0, .ref (qa 0), .ref (qa 1), .ref (qa 2), .ref (qa 3), .int 0, .ref (qa 4), .ref (qa 5), .ref (qa 6), .ref (qa 7), .ref (qa 8), .ref (qa 9), .ref (qa 10), .ref (qa 11), .ref (qa 12), .ref (qa 13), .ref (qa 14), .ref (qa 15), .ref (qa 16), .ref (qa 17), .ref (qa 18), .ref (qa 19), .ref (qa 20), .int 0, .int 0, .int 0, .int 0, .long 0, .long 0, .long 0, .long 0, .long 0, .ref (qa 21), .int 0, .int 0, .int 0, .int 0]))] := hD
  have hK : va_K D cls [((qk 1), .int), ((qk 2), .int)] s := hK
  refine W.eq (g2 := F0 m 164 ls []) rfl ?_
  refine lv_aload_n hx hb d_Mo_assemble_164 rfl (lv_at hl 3 rfl) ?_
  refine lv_aload_n hx hb d_Mo_assemble_165 rfl (lv_at hl 3 rfl) ?_
  refine xc_V (As := []) (rest := [.ref h0]) (n := 0) (wc := [(h0, .inr (7, [.int 0, .int 0, .int 0, .int 0, .int 0, .int 0, .int (-1), .int (-1), .int 0, .int 0, .int 0, .int 0, .int 0, .int 0, .int 1, .int 0, .ref (qa 0), .ref (qa 1), .ref (qa 2), .ref (qa 3), .int 0, .ref (qa 4), .ref (qa 5), .ref (qa 6), .ref (qa 7), .ref (qa 8), .ref (qa 9), .ref (qa 10), .ref (qa 11), .ref (qa 12), .ref (qa 13), .ref (qa 14), .ref (qa 15), .ref (qa 16), .ref (qa 17), .ref (qa 18), .ref (qa 19), .ref (qa 20), .int 0, .int 0, .int 0, .int 0, .long 0, .long 0, .long 0, .long 0, .long 0, .ref (qa 21), .int 0, .int 0, .int 0, .int 0]))]) (wr := [((qa 1), .inl ((qk 1), 24, .inl f11)), ((qa 2), .inl ((qk 2), 8, .inl f1))]) (tc := []) (tr := [((qk 1), .int), ((qk 2), .int)]) ⟨hx, hb, hml, hown, hts⟩ (c_Mo_fine l D h0 qa 1 H.size) rfl rfl w_466 w_464 w_465 w_559 w_8 (by decide +kernel) ⟨Nat.le_of_ble_eq_true rfl, Nat.le_of_ble_eq_true rfl⟩ hP hD hK hS hA hN hZ [2] [0, 1] rfl rfl (by decide) (by decide) (by decide) [] [0, 1] rfl rfl (ci := 7) (q0 := 0) (q := (R_Mo, F_Mo, 52)) rfl rfl rfl rfl hl.1 rfl (Nat.le_of_ble_eq_true rfl) d_Mo_assemble_166 ⟨Nat.le_of_ble_eq_true rfl, Nat.le_of_ble_eq_true rfl⟩ (fun u18 H locs hP hD hK hS => ?_)
  have hP : va_P D cls [((qa 1), .inl ((qk 1), 24, .inl f11)), ((qa 2), .inl ((qk 2), 8, .inl f1)), (h0, .inr (7, [.int 0, .int 0, .int 0, .int 0, .int 0, .int 0, .int (-1), .int (-1), .int 0, .int 0, .int 0, .int 0, .int 0, .int 0, .int 1, .int 0, .ref (qa 0), .ref (qa 1), .ref (qa 2), .ref (qa 3), .int 0, .ref (qa 4), .ref (qa 5), .ref (qa 6), .ref (qa 7), .ref (qa 8), .ref (qa 9), .ref (qa 10), .ref (qa 11), .ref (qa 12), .ref (qa 13), .ref (qa 14), .ref (qa 15), .ref (qa 16), .ref (qa 17), .ref (qa 18), .ref (qa 19), .ref (qa 20), .int 0, .int 0, .int 0, .int 0, .long 0, .long 0, .long 0, .long 0, .long 0, .ref (qa 21), .int 0, .int 0, .int 0, .int 0]))] H := hP
  have hD : va_D A [((qa 1), .inl ((qk 1), 24, .inl f11)), ((qa 2), .inl ((qk 2), 8, .inl f1)), (h0, .inr (7, [.int 0, .int 0, .int 0, .int 0, .int 0, .int 0, .int (-1), .int (-1), .int 0, .int 0, .int 0, .int 0, .int 0, .int 0, .int 1, .int 0, .ref (qa 0), .ref (qa 1), .ref (qa 2), .ref (qa 3), .int 0, .ref (qa 4), .ref (qa 5), .ref (qa 6), .ref (qa 7), .ref (qa 8), .ref (qa 9), .ref (qa 10), .ref (qa 11), .ref (qa 12), .ref (qa 13), .ref (qa 14), .ref (qa 15), .ref (qa 16), .ref (qa 17), .ref (qa 18), .ref (qa 19), .ref (qa 20), .int 0, .int 0, .int 0, .int 0, .long 0, .long 0, .long 0, .long 0, .long 0, .ref (qa 21), .int 0, .int 0, .int 0, .int 0]))] := hD
  have hK : va_K D cls [((qk 1), .int), ((qk 2), .int)] s := hK
  refine W.eq (g2 := F0 m 169 ls [.int 1, .ref h0]) rfl ?_
  refine lv_if_eq (tgt := 176) hx hb d_Mo_assemble_169 (by decide) (fun q9 => absurd q9 (by decide : ¬ ((1 : Int32) = 0))) (fun _ => ?_)
  refine lv_iconst (v := 0) hx hb d_Mo_assemble_172 (by decide) ?_
  refine lv_goto (tgt := 180) hx hb d_Mo_assemble_173 (by decide) ?_
  refine va_put (D := D) (ci := 7) (v := .int 0) (ty := .int) (C := R_Mo) (T := F_Mo) (N := 52) hx hb hts i_Mo t_Mo t_Mo_ok n_Mo hown hK hP hD hS 2 rfl rfl 4 (by decide) (hts _ w_420) (fun _ h9 => h9) rfl (by decide +kernel) rfl rfl (Nat.le_of_ble_eq_true rfl) d_Mo_assemble_180 (fun H locs hP hD hS => ?_)
  have hP : va_P D cls [((qa 1), .inl ((qk 1), 24, .inl f11)), ((qa 2), .inl ((qk 2), 8, .inl f1)), (h0, .inr (7, [.int 0, .int 0, .int 0, .int 0, .int 0, .int 0, .int (-1), .int (-1), .int 0, .int 0, .int 0, .int 0, .int 0, .int 0, .int 1, .int 0, .ref (qa 0), .ref (qa 1), .ref (qa 2), .ref (qa 3), .int 0, .ref (qa 4), .ref (qa 5), .ref (qa 6), .ref (qa 7), .ref (qa 8), .ref (qa 9), .ref (qa 10), .ref (qa 11), .ref (qa 12), .ref (qa 13), .ref (qa 14), .ref (qa 15), .ref (qa 16), .ref (qa 17), .ref (qa 18), .ref (qa 19), .ref (qa 20), .int 0, .int 0, .int 0, .int 0, .long 0, .long 0, .long 0, .long 0, .long 0, .ref (qa 21), .int 0, .int 0, .int 0, .int 0]))] H := hP
  have hD : va_D A [((qa 1), .inl ((qk 1), 24, .inl f11)), ((qa 2), .inl ((qk 2), 8, .inl f1)), (h0, .inr (7, [.int 0, .int 0, .int 0, .int 0, .int 0, .int 0, .int (-1), .int (-1), .int 0, .int 0, .int 0, .int 0, .int 0, .int 0, .int 1, .int 0, .ref (qa 0), .ref (qa 1), .ref (qa 2), .ref (qa 3), .int 0, .ref (qa 4), .ref (qa 5), .ref (qa 6), .ref (qa 7), .ref (qa 8), .ref (qa 9), .ref (qa 10), .ref (qa 11), .ref (qa 12), .ref (qa 13), .ref (qa 14), .ref (qa 15), .ref (qa 16), .ref (qa 17), .ref (qa 18), .ref (qa 19), .ref (qa 20), .int 0, .int 0, .int 0, .int 0, .long 0, .long 0, .long 0, .long 0, .long 0, .ref (qa 21), .int 0, .int 0, .int 0, .int 0]))] := hD
  refine lv_aload_n hx hb d_Mo_assemble_183 rfl (lv_at hl 3 rfl) ?_
  refine xc_V (As := []) (rest := []) (n := 0) (wc := [(h0, .inr (7, [.int 0, .int 0, .int 0, .int 0, .int 0, .int 0, .int (-1), .int (-1), .int 0, .int 0, .int 0, .int 0, .int 0, .int 0, .int 1, .int 0, .ref (qa 0), .ref (qa 1), .ref (qa 2), .ref (qa 3), .int 0, .ref (qa 4), .ref (qa 5), .ref (qa 6), .ref (qa 7), .ref (qa 8), .ref (qa 9), .ref (qa 10), .ref (qa 11), .ref (qa 12), .ref (qa 13), .ref (qa 14), .ref (qa 15), .ref (qa 16), .ref (qa 17), .ref (qa 18), .ref (qa 19), .ref (qa 20), .int 0, .int 0, .int 0, .int 0, .long 0, .long 0, .long 0, .long 0, .long 0, .ref (qa 21), .int 0, .int 0, .int 0, .int 0]))]) (wr := [((qa 1), .inl ((qk 1), 24, .inl f11)), ((qa 2), .inl ((qk 2), 8, .inl f1))]) (tc := []) (tr := [((qk 1), .int), ((qk 2), .int)]) ⟨hx, hb, hml, hown, hts⟩ (c_Mo_fine l D h0 qa 1 H.size) rfl rfl w_466 w_464 w_465 w_559 w_8 (by decide +kernel) ⟨Nat.le_of_ble_eq_true rfl, Nat.le_of_ble_eq_true rfl⟩ hP hD hK hS hA hN hZ [2] [0, 1] rfl rfl (by decide) (by decide) (by decide) [] [0, 1] rfl rfl (ci := 7) (q0 := 0) (q := (R_Mo, F_Mo, 52)) rfl rfl rfl rfl hl.1 rfl (Nat.le_of_ble_eq_true rfl) d_Mo_assemble_184 ⟨Nat.le_of_ble_eq_true rfl, Nat.le_of_ble_eq_true rfl⟩ (fun u19 H locs hP hD hK hS => ?_)
  have hP : va_P D cls [((qa 1), .inl ((qk 1), 24, .inl f11)), ((qa 2), .inl ((qk 2), 8, .inl f1)), (h0, .inr (7, [.int 0, .int 0, .int 0, .int 0, .int 0, .int 0, .int (-1), .int (-1), .int 0, .int 0, .int 0, .int 0, .int 0, .int 0, .int 1, .int 0, .ref (qa 0), .ref (qa 1), .ref (qa 2), .ref (qa 3), .int 0, .ref (qa 4), .ref (qa 5), .ref (qa 6), .ref (qa 7), .ref (qa 8), .ref (qa 9), .ref (qa 10), .ref (qa 11), .ref (qa 12), .ref (qa 13), .ref (qa 14), .ref (qa 15), .ref (qa 16), .ref (qa 17), .ref (qa 18), .ref (qa 19), .ref (qa 20), .int 0, .int 0, .int 0, .int 0, .long 0, .long 0, .long 0, .long 0, .long 0, .ref (qa 21), .int 0, .int 0, .int 0, .int 0]))] H := hP
  have hD : va_D A [((qa 1), .inl ((qk 1), 24, .inl f11)), ((qa 2), .inl ((qk 2), 8, .inl f1)), (h0, .inr (7, [.int 0, .int 0, .int 0, .int 0, .int 0, .int 0, .int (-1), .int (-1), .int 0, .int 0, .int 0, .int 0, .int 0, .int 0, .int 1, .int 0, .ref (qa 0), .ref (qa 1), .ref (qa 2), .ref (qa 3), .int 0, .ref (qa 4), .ref (qa 5), .ref (qa 6), .ref (qa 7), .ref (qa 8), .ref (qa 9), .ref (qa 10), .ref (qa 11), .ref (qa 12), .ref (qa 13), .ref (qa 14), .ref (qa 15), .ref (qa 16), .ref (qa 17), .ref (qa 18), .ref (qa 19), .ref (qa 20), .int 0, .int 0, .int 0, .int 0, .long 0, .long 0, .long 0, .long 0, .long 0, .ref (qa 21), .int 0, .int 0, .int 0, .int 0]))] := hD
  have hK : va_K D cls [((qk 1), .int), ((qk 2), .int)] s := hK
  refine W.eq (g2 := F0 m 187 ls [.int 1]) rfl ?_
  refine lv_if_ne (tgt := 192) hx hb d_Mo_assemble_187 (by decide) (fun _ => ?_) (fun q9 => absurd q9 (by decide : ¬ ((1 : Int32) = 0)))
  refine lv_aload_n hx hb d_Mo_assemble_192 rfl (lv_at hl 3 rfl) ?_
  refine lv_dup hx hb d_Mo_assemble_193 rfl ?_
  refine va_get (D := D) (ci := 7) (v := .int 0) (C := R_Mo) (T := F_Mo) (N := 52) hx hb hts i_Mo hown hK hP 2 rfl rfl 2 (by decide) (hts _ w_400) (fun _ h9 => h9) rfl d_Mo_assemble_194 ?_
  refine lv_iconst (v := 1) hx hb d_Mo_assemble_197 (by decide) ?_
  refine lv_iadd hx hb d_Mo_assemble_198 ?_
  refine lv_topi (fun z20 ez20 => ?_)
  obtain rfl : z20 = 1 := ez20.trans (by decide)
  refine va_put (D := D) (ci := 7) (v := .int 1) (ty := .int) (C := R_Mo) (T := F_Mo) (N := 52) hx hb hts i_Mo t_Mo t_Mo_ok n_Mo hown hK hP hD hS 2 rfl rfl 2 (by decide) (hts _ w_400) (fun _ h9 => h9) rfl (by decide +kernel) rfl rfl (Nat.le_of_ble_eq_true rfl) d_Mo_assemble_199 (fun H locs hP hD hS => ?_)
  have hP : va_P D cls [((qa 1), .inl ((qk 1), 24, .inl f11)), ((qa 2), .inl ((qk 2), 8, .inl f1)), (h0, .inr (7, [.int 0, .int 0, .int 1, .int 0, .int 0, .int 0, .int (-1), .int (-1), .int 0, .int 0, .int 0, .int 0, .int 0, .int 0, .int 1, .int 0, .ref (qa 0), .ref (qa 1), .ref (qa 2), .ref (qa 3), .int 0, .ref (qa 4), .ref (qa 5), .ref (qa 6), .ref (qa 7), .ref (qa 8), .ref (qa 9), .ref (qa 10), .ref (qa 11), .ref (qa 12), .ref (qa 13), .ref (qa 14), .ref (qa 15), .ref (qa 16), .ref (qa 17), .ref (qa 18), .ref (qa 19), .ref (qa 20), .int 0, .int 0, .int 0, .int 0, .long 0, .long 0, .long 0, .long 0, .long 0, .ref (qa 21), .int 0, .int 0, .int 0, .int 0]))] H := hP
  have hD : va_D A [((qa 1), .inl ((qk 1), 24, .inl f11)), ((qa 2), .inl ((qk 2), 8, .inl f1)), (h0, .inr (7, [.int 0, .int 0, .int 1, .int 0, .int 0, .int 0, .int (-1), .int (-1), .int 0, .int 0, .int 0, .int 0, .int 0, .int 0, .int 1, .int 0, .ref (qa 0), .ref (qa 1), .ref (qa 2), .ref (qa 3), .int 0, .ref (qa 4), .ref (qa 5), .ref (qa 6), .ref (qa 7), .ref (qa 8), .ref (qa 9), .ref (qa 10), .ref (qa 11), .ref (qa 12), .ref (qa 13), .ref (qa 14), .ref (qa 15), .ref (qa 16), .ref (qa 17), .ref (qa 18), .ref (qa 19), .ref (qa 20), .int 0, .int 0, .int 0, .int 0, .long 0, .long 0, .long 0, .long 0, .long 0, .ref (qa 21), .int 0, .int 0, .int 0, .int 0]))] := hD
  refine lv_aload_n hx hb d_Mo_assemble_202 rfl (lv_at hl 3 rfl) ?_
  refine va_get (D := D) (ci := 7) (v := .int 1) (C := R_Mo) (T := F_Mo) (N := 52) hx hb hts i_Mo hown hK hP 2 rfl rfl 2 (by decide) (hts _ w_400) (fun _ h9 => h9) rfl d_Mo_assemble_203 ?_
  refine lv_iconst (v := 1) hx hb d_Mo_assemble_206 (by decide) ?_
  refine lv_isub hx hb d_Mo_assemble_207 ?_
  refine lv_topi (fun z21 ez21 => ?_)
  obtain rfl : z21 = 0 := ez21.trans (by decide)
  exact xr_i hx hb hr hlocks hP hD hK hS (()) [2] rfl rfl (by decide) [] rfl rfl d_Mo_assemble_208
