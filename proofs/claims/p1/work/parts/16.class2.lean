theorem fits_rf (n : String) (o : Option Nat) : fits (.object n) (va_rf o) = true := by cases o <;> rfl
theorem narrow_rf (n : String) (o : Option Nat) : narrow (.object n) (va_rf o) = va_rf o := by cases o <;> rfl
theorem d_So_appendWord_0 : decode b_So_appendWord 0 = .ok (.bipush 24, 2) := by decide +kernel
theorem d_So_appendWord_2 : decode b_So_appendWord 2 = .ok (.istore_n 2, 1) := by decide +kernel
theorem d_So_appendWord_3 : decode b_So_appendWord 3 = .ok (.iload_n 2, 1) := by decide +kernel
theorem d_So_appendWord_4 : decode b_So_appendWord 4 = .ok (.ifCond .lt 42, 3) := by decide +kernel
theorem d_So_appendWord_7 : decode b_So_appendWord 7 = .ok (.aload_n 0, 1) := by decide +kernel
theorem d_So_appendWord_8 : decode b_So_appendWord 8 = .ok (.getfield 15, 3) := by decide +kernel
theorem d_So_appendWord_11 : decode b_So_appendWord 11 = .ok (.sipush 8192, 3) := by decide +kernel
theorem d_So_appendWord_14 : decode b_So_appendWord 14 = .ok (.if_icmp .ge 32, 3) := by decide +kernel
theorem d_So_appendWord_17 : decode b_So_appendWord 17 = .ok (.aload_n 0, 1) := by decide +kernel
theorem d_So_appendWord_18 : decode b_So_appendWord 18 = .ok (.getfield 9, 3) := by decide +kernel
theorem d_So_appendWord_21 : decode b_So_appendWord 21 = .ok (.aload_n 0, 1) := by decide +kernel
theorem d_So_appendWord_22 : decode b_So_appendWord 22 = .ok (.getfield 15, 3) := by decide +kernel
theorem d_So_appendWord_25 : decode b_So_appendWord 25 = .ok (.iload_n 1, 1) := by decide +kernel
theorem d_So_appendWord_26 : decode b_So_appendWord 26 = .ok (.iload_n 2, 1) := by decide +kernel
theorem d_So_appendWord_27 : decode b_So_appendWord 27 = .ok (.iushr, 1) := by decide +kernel
theorem d_So_appendWord_28 : decode b_So_appendWord 28 = .ok (.i2b, 1) := by decide +kernel
theorem d_So_appendWord_29 : decode b_So_appendWord 29 = .ok (.bastore, 1) := by decide +kernel
theorem d_So_appendWord_30 : decode b_So_appendWord 30 = .ok (.aload_n 0, 1) := by decide +kernel
theorem d_So_appendWord_31 : decode b_So_appendWord 31 = .ok (.dup, 1) := by decide +kernel
theorem d_So_appendWord_32 : decode b_So_appendWord 32 = .ok (.getfield 15, 3) := by decide +kernel
theorem d_So_appendWord_35 : decode b_So_appendWord 35 = .ok (.iconst 1, 1) := by decide +kernel
theorem d_So_appendWord_36 : decode b_So_appendWord 36 = .ok (.iadd, 1) := by decide +kernel
theorem d_So_appendWord_37 : decode b_So_appendWord 37 = .ok (.putfield 15, 3) := by decide +kernel
theorem d_So_appendWord_40 : decode b_So_appendWord 40 = .ok (.iinc 2 (-8), 3) := by decide +kernel
theorem d_So_appendWord_43 : decode b_So_appendWord 43 = .ok (.goto (-40), 3) := by decide +kernel
theorem d_So_appendWord_46 : decode b_So_appendWord 46 = .ok (.return_, 1) := by decide +kernel
set_option maxHeartbeats 4000000 in
set_option maxRecDepth 100000 in
theorem c_So_appendWord_0 (l : Launch) (D : va_G) (h0 : Nat) (qa : Nat → Nat) (qk : Nat → ClassId) (f : Nat → Int32) (v : Int32) (sz : Nat) : Met l y_So_appendWord (Cond.code y_So_appendWord b_So_appendWord 3 none :: bw) (xR 1 0 0) (va_Pc [.ref h0, .int v] (xP D [((qk 0), .byte)] sz [(h0, .inr (4, [.ref (qa 5), .int 0, .int 0, .int 0, .ref (qa 6), .ref (qa 7), .ref (qa 8)])), ((qa 5), .inl ((qk 0), 8192, .inl f))])) (xQ (S := (Nat → Int32)) (fun u => none) (fun u => [(h0, .inr (4, [.ref (qa 5), .int 4, .int 0, .int 0, .ref (qa 6), .ref (qa 7), .ref (qa 8)])), ((qa 5), .inl ((qk 0), 8192, .inl u))]) (fun u => [((qk 0), .byte)]) D (va_A [(h0, .inr (4, [.ref (qa 5), .int 0, .int 0, .int 0, .ref (qa 6), .ref (qa 7), .ref (qa 8)])), ((qa 5), .inl ((qk 0), 8192, .inl f))] sz)) 0 0 (va_A [(h0, .inr (4, [.ref (qa 5), .int 0, .int 0, .int 0, .ref (qa 6), .ref (qa 7), .ref (qa 8)])), ((qa 5), .inl ((qk 0), 8192, .inl f))] sz) := by
  refine Met.ofW (cc := b_So_appendWord) (maxL := 3) (ret := none) (by decide) rfl ?_
  intro p e s m args below meth c s₁ B hml hv
  obtain ⟨rfl, hsz, hP, hK, hD0, hN, hZ⟩ := hv
  have hx := B.exec
  have hb := B.bytes
  have hr := B.returns
  have hlocks := B.notSynchronized
  have hts : ∀ w ∈ bw, w.before _ s = true := fun w h => atoms_spec (ws := Cond.code y_So_appendWord b_So_appendWord 3 none :: bw) B.pre w (List.mem_cons_of_mem _ h)
  have hown : s.vm.findClass "ObjectForge$Source" = some m.cls := findClass_of_methodNamed B.named
  subst hsz
  have hP0 := hP
  have hD := hD0.self (sz := s.heap.size)
  generalize hAe : va_A [(h0, .inr (4, [.ref (qa 5), .int 0, .int 0, .int 0, .ref (qa 6), .ref (qa 7), .ref (qa 8)])), ((qa 5), .inl ((qk 0), 8192, .inl f))] s.heap.size = A at hD hZ ⊢
  have hA : ∀ q : Nat, s.heap.size ≤ q → A q := fun q h => by rw [← hAe]; exact Or.inr h
  have hS : va_S A s.heap s.heap [] := va_S.rf
  have hl := lv_entry ([.ref h0, .int v]) (n := 3) (Nat.le_of_ble_eq_true rfl)
  rw [lg_entry_eq]
  generalize (lg_sl ([.ref h0, .int v]) ++ List.replicate (3 - (lg_sl ([.ref h0, .int v])).length) Slot.unset).toArray = ls at hl ⊢
  have hl : lv_has ls 3 [(0, .ref h0), (1, .int v)] := hl
  refine lv_bipush (v := 24) hx hb d_So_appendWord_0 (by decide) ?_
  refine lv_istore_n (lv' := [(2, .int 24), (0, .ref h0), (1, .int v)]) hx hb d_So_appendWord_2 rfl hl (by decide) rfl (fun ls hl => ?_)
  refine lv_iload_n hx hb d_So_appendWord_3 rfl (lv_at hl 0 rfl) ?_
  refine lv_if_lt (tgt := 46) hx hb d_So_appendWord_4 (by decide) (fun q9 => absurd q9 (by decide : ¬ ((24 : Int32) < 0))) (fun _ => ?_)
  refine lv_aload_n hx hb d_So_appendWord_7 rfl (lv_at hl 1 rfl) ?_
  refine va_get (D := D) (ci := 4) (v := .int 0) (C := R_So) (T := F_So) (N := 7) hx hb hts i_So hown hK hP 0 rfl rfl 1 (by decide) (hts _ w_35) (fun _ h9 => h9) rfl d_So_appendWord_8 ?_
  refine lv_sipush (v := 8192) hx hb d_So_appendWord_11 (by decide) ?_
  refine lv_icmp_ge (tgt := 46) hx hb d_So_appendWord_14 (by decide) (fun q9 => absurd q9 (by decide : ¬ ((8192 : Int32) ≤ 0))) (fun _ => ?_)
  refine lv_aload_n hx hb d_So_appendWord_17 rfl (lv_at hl 1 rfl) ?_
  refine va_get (D := D) (ci := 4) (v := .ref (qa 5)) (C := R_So) (T := F_So) (N := 7) hx hb hts i_So hown hK hP 0 rfl rfl 0 (by decide) (hts _ w_34) (fun _ h9 => h9) rfl d_So_appendWord_18 ?_
  refine lv_aload_n hx hb d_So_appendWord_21 rfl (lv_at hl 1 rfl) ?_
  refine va_get (D := D) (ci := 4) (v := .int 0) (C := R_So) (T := F_So) (N := 7) hx hb hts i_So hown hK hP 0 rfl rfl 1 (by decide) (hts _ w_35) (fun _ h9 => h9) rfl d_So_appendWord_22 ?_
  refine lv_iload_n hx hb d_So_appendWord_25 rfl (lv_at hl 2 rfl) ?_
  refine lv_iload_n hx hb d_So_appendWord_26 rfl (lv_at hl 0 rfl) ?_
  refine lv_iushr hx hb d_So_appendWord_27 rfl ?_
  refine lv_topi (fun z1 _ => ?_)
  refine lv_i2b hx hb d_So_appendWord_28 rfl ?_
  refine lv_topi (fun z2 _ => ?_)
  refine va_bast hx hb hK hP hD hS 1 0 rfl rfl (by unfold vp_in; decide) d_So_appendWord_29 (fun H locs hP hD hS => ?_)
  obtain ⟨f3, ef3⟩ : ∃ z : Nat → Int32, z = (upd f (0 : Int32).toNatClampNeg (vp_nar .byte z2)) := ⟨_, rfl⟩
  have hP : va_P D cls [(h0, .inr (4, [.ref (qa 5), .int 0, .int 0, .int 0, .ref (qa 6), .ref (qa 7), .ref (qa 8)])), ((qa 5), .inl ((qk 0), 8192, .inl f3))] H := by rw [ef3]; exact hP
  have hD : va_D A [(h0, .inr (4, [.ref (qa 5), .int 0, .int 0, .int 0, .ref (qa 6), .ref (qa 7), .ref (qa 8)])), ((qa 5), .inl ((qk 0), 8192, .inl f3))] := by rw [ef3]; exact hD
  refine lv_aload_n hx hb d_So_appendWord_30 rfl (lv_at hl 1 rfl) ?_
  refine lv_dup hx hb d_So_appendWord_31 rfl ?_
  refine va_get (D := D) (ci := 4) (v := .int 0) (C := R_So) (T := F_So) (N := 7) hx hb hts i_So hown hK hP 0 rfl rfl 1 (by decide) (hts _ w_35) (fun _ h9 => h9) rfl d_So_appendWord_32 ?_
  refine lv_iconst (v := 1) hx hb d_So_appendWord_35 (by decide) ?_
  refine lv_iadd hx hb d_So_appendWord_36 ?_
  refine lv_topi (fun z4 ez4 => ?_)
  obtain rfl : z4 = 1 := ez4.trans (by decide)
  refine va_put (D := D) (ci := 4) (v := .int 1) (ty := .int) (C := R_So) (T := F_So) (N := 7) hx hb hts i_So t_So t_So_ok n_So hown hK hP hD hS 0 rfl rfl 1 (by decide) (hts _ w_35) (fun _ h9 => h9) rfl (by decide +kernel) rfl rfl (Nat.le_of_ble_eq_true rfl) d_So_appendWord_37 (fun H locs hP hD hS => ?_)
  have hP : va_P D cls [(h0, .inr (4, [.ref (qa 5), .int 1, .int 0, .int 0, .ref (qa 6), .ref (qa 7), .ref (qa 8)])), ((qa 5), .inl ((qk 0), 8192, .inl f3))] H := hP
  have hD : va_D A [(h0, .inr (4, [.ref (qa 5), .int 1, .int 0, .int 0, .ref (qa 6), .ref (qa 7), .ref (qa 8)])), ((qa 5), .inl ((qk 0), 8192, .inl f3))] := hD
  refine lv_iinc (v := 16) (lv' := [(2, .int 16), (0, .ref h0), (1, .int v)]) hx hb d_So_appendWord_40 hl (k := 0) rfl (by decide) (by decide) rfl (fun ls hl => ?_)
  refine lv_goto (tgt := 3) hx hb d_So_appendWord_43 (by decide) ?_
  refine lv_iload_n hx hb d_So_appendWord_3 rfl (lv_at hl 0 rfl) ?_
  refine lv_if_lt (tgt := 46) hx hb d_So_appendWord_4 (by decide) (fun q9 => absurd q9 (by decide : ¬ ((16 : Int32) < 0))) (fun _ => ?_)
  refine lv_aload_n hx hb d_So_appendWord_7 rfl (lv_at hl 1 rfl) ?_
  refine va_get (D := D) (ci := 4) (v := .int 1) (C := R_So) (T := F_So) (N := 7) hx hb hts i_So hown hK hP 0 rfl rfl 1 (by decide) (hts _ w_35) (fun _ h9 => h9) rfl d_So_appendWord_8 ?_
  refine lv_sipush (v := 8192) hx hb d_So_appendWord_11 (by decide) ?_
  refine lv_icmp_ge (tgt := 46) hx hb d_So_appendWord_14 (by decide) (fun q9 => absurd q9 (by decide : ¬ ((8192 : Int32) ≤ 1))) (fun _ => ?_)
  refine lv_aload_n hx hb d_So_appendWord_17 rfl (lv_at hl 1 rfl) ?_
  refine va_get (D := D) (ci := 4) (v := .ref (qa 5)) (C := R_So) (T := F_So) (N := 7) hx hb hts i_So hown hK hP 0 rfl rfl 0 (by decide) (hts _ w_34) (fun _ h9 => h9) rfl d_So_appendWord_18 ?_
  refine lv_aload_n hx hb d_So_appendWord_21 rfl (lv_at hl 1 rfl) ?_
  refine va_get (D := D) (ci := 4) (v := .int 1) (C := R_So) (T := F_So) (N := 7) hx hb hts i_So hown hK hP 0 rfl rfl 1 (by decide) (hts _ w_35) (fun _ h9 => h9) rfl d_So_appendWord_22 ?_
  refine lv_iload_n hx hb d_So_appendWord_25 rfl (lv_at hl 2 rfl) ?_
  refine lv_iload_n hx hb d_So_appendWord_26 rfl (lv_at hl 0 rfl) ?_
  refine lv_iushr hx hb d_So_appendWord_27 rfl ?_
  refine lv_topi (fun z5 _ => ?_)
  refine lv_i2b hx hb d_So_appendWord_28 rfl ?_
  refine lv_topi (fun z6 _ => ?_)
  refine va_bast hx hb hK hP hD hS 1 0 rfl rfl (by unfold vp_in; decide) d_So_appendWord_29 (fun H locs hP hD hS => ?_)
  obtain ⟨f7, ef7⟩ : ∃ z : Nat → Int32, z = (upd f3 (1 : Int32).toNatClampNeg (vp_nar .byte z6)) := ⟨_, rfl⟩
  have hP : va_P D cls [(h0, .inr (4, [.ref (qa 5), .int 1, .int 0, .int 0, .ref (qa 6), .ref (qa 7), .ref (qa 8)])), ((qa 5), .inl ((qk 0), 8192, .inl f7))] H := by rw [ef7]; exact hP
  have hD : va_D A [(h0, .inr (4, [.ref (qa 5), .int 1, .int 0, .int 0, .ref (qa 6), .ref (qa 7), .ref (qa 8)])), ((qa 5), .inl ((qk 0), 8192, .inl f7))] := by rw [ef7]; exact hD
  refine lv_aload_n hx hb d_So_appendWord_30 rfl (lv_at hl 1 rfl) ?_
  refine lv_dup hx hb d_So_appendWord_31 rfl ?_
  refine va_get (D := D) (ci := 4) (v := .int 1) (C := R_So) (T := F_So) (N := 7) hx hb hts i_So hown hK hP 0 rfl rfl 1 (by decide) (hts _ w_35) (fun _ h9 => h9) rfl d_So_appendWord_32 ?_
  refine lv_iconst (v := 1) hx hb d_So_appendWord_35 (by decide) ?_
  refine lv_iadd hx hb d_So_appendWord_36 ?_
  refine lv_topi (fun z8 ez8 => ?_)
  obtain rfl : z8 = 2 := ez8.trans (by decide)
  refine va_put (D := D) (ci := 4) (v := .int 2) (ty := .int) (C := R_So) (T := F_So) (N := 7) hx hb hts i_So t_So t_So_ok n_So hown hK hP hD hS 0 rfl rfl 1 (by decide) (hts _ w_35) (fun _ h9 => h9) rfl (by decide +kernel) rfl rfl (Nat.le_of_ble_eq_true rfl) d_So_appendWord_37 (fun H locs hP hD hS => ?_)
  have hP : va_P D cls [(h0, .inr (4, [.ref (qa 5), .int 2, .int 0, .int 0, .ref (qa 6), .ref (qa 7), .ref (qa 8)])), ((qa 5), .inl ((qk 0), 8192, .inl f7))] H := hP
  have hD : va_D A [(h0, .inr (4, [.ref (qa 5), .int 2, .int 0, .int 0, .ref (qa 6), .ref (qa 7), .ref (qa 8)])), ((qa 5), .inl ((qk 0), 8192, .inl f7))] := hD
  refine lv_iinc (v := 8) (lv' := [(2, .int 8), (0, .ref h0), (1, .int v)]) hx hb d_So_appendWord_40 hl (k := 0) rfl (by decide) (by decide) rfl (fun ls hl => ?_)
  refine lv_goto (tgt := 3) hx hb d_So_appendWord_43 (by decide) ?_
  refine lv_iload_n hx hb d_So_appendWord_3 rfl (lv_at hl 0 rfl) ?_
  refine lv_if_lt (tgt := 46) hx hb d_So_appendWord_4 (by decide) (fun q9 => absurd q9 (by decide : ¬ ((8 : Int32) < 0))) (fun _ => ?_)
  refine lv_aload_n hx hb d_So_appendWord_7 rfl (lv_at hl 1 rfl) ?_
  refine va_get (D := D) (ci := 4) (v := .int 2) (C := R_So) (T := F_So) (N := 7) hx hb hts i_So hown hK hP 0 rfl rfl 1 (by decide) (hts _ w_35) (fun _ h9 => h9) rfl d_So_appendWord_8 ?_
  refine lv_sipush (v := 8192) hx hb d_So_appendWord_11 (by decide) ?_
  refine lv_icmp_ge (tgt := 46) hx hb d_So_appendWord_14 (by decide) (fun q9 => absurd q9 (by decide : ¬ ((8192 : Int32) ≤ 2))) (fun _ => ?_)
  refine lv_aload_n hx hb d_So_appendWord_17 rfl (lv_at hl 1 rfl) ?_
  refine va_get (D := D) (ci := 4) (v := .ref (qa 5)) (C := R_So) (T := F_So) (N := 7) hx hb hts i_So hown hK hP 0 rfl rfl 0 (by decide) (hts _ w_34) (fun _ h9 => h9) rfl d_So_appendWord_18 ?_
  refine lv_aload_n hx hb d_So_appendWord_21 rfl (lv_at hl 1 rfl) ?_
  refine va_get (D := D) (ci := 4) (v := .int 2) (C := R_So) (T := F_So) (N := 7) hx hb hts i_So hown hK hP 0 rfl rfl 1 (by decide) (hts _ w_35) (fun _ h9 => h9) rfl d_So_appendWord_22 ?_
  refine lv_iload_n hx hb d_So_appendWord_25 rfl (lv_at hl 2 rfl) ?_
  refine lv_iload_n hx hb d_So_appendWord_26 rfl (lv_at hl 0 rfl) ?_
  refine lv_iushr hx hb d_So_appendWord_27 rfl ?_
  refine lv_topi (fun z9 _ => ?_)
  refine lv_i2b hx hb d_So_appendWord_28 rfl ?_
  refine lv_topi (fun z10 _ => ?_)
  refine va_bast hx hb hK hP hD hS 1 0 rfl rfl (by unfold vp_in; decide) d_So_appendWord_29 (fun H locs hP hD hS => ?_)
  obtain ⟨f11, ef11⟩ : ∃ z : Nat → Int32, z = (upd f7 (2 : Int32).toNatClampNeg (vp_nar .byte z10)) := ⟨_, rfl⟩
  have hP : va_P D cls [(h0, .inr (4, [.ref (qa 5), .int 2, .int 0, .int 0, .ref (qa 6), .ref (qa 7), .ref (qa 8)])), ((qa 5), .inl ((qk 0), 8192, .inl f11))] H := by rw [ef11]; exact hP
  have hD : va_D A [(h0, .inr (4, [.ref (qa 5), .int 2, .int 0, .int 0, .ref (qa 6), .ref (qa 7), .ref (qa 8)])), ((qa 5), .inl ((qk 0), 8192, .inl f11))] := by rw [ef11]; exact hD
  refine lv_aload_n hx hb d_So_appendWord_30 rfl (lv_at hl 1 rfl) ?_
  refine lv_dup hx hb d_So_appendWord_31 rfl ?_
  refine va_get (D := D) (ci := 4) (v := .int 2) (C := R_So) (T := F_So) (N := 7) hx hb hts i_So hown hK hP 0 rfl rfl 1 (by decide) (hts _ w_35) (fun _ h9 => h9) rfl d_So_appendWord_32 ?_
  refine lv_iconst (v := 1) hx hb d_So_appendWord_35 (by decide) ?_
  refine lv_iadd hx hb d_So_appendWord_36 ?_
  refine lv_topi (fun z12 ez12 => ?_)
  obtain rfl : z12 = 3 := ez12.trans (by decide)
  refine va_put (D := D) (ci := 4) (v := .int 3) (ty := .int) (C := R_So) (T := F_So) (N := 7) hx hb hts i_So t_So t_So_ok n_So hown hK hP hD hS 0 rfl rfl 1 (by decide) (hts _ w_35) (fun _ h9 => h9) rfl (by decide +kernel) rfl rfl (Nat.le_of_ble_eq_true rfl) d_So_appendWord_37 (fun H locs hP hD hS => ?_)
  have hP : va_P D cls [(h0, .inr (4, [.ref (qa 5), .int 3, .int 0, .int 0, .ref (qa 6), .ref (qa 7), .ref (qa 8)])), ((qa 5), .inl ((qk 0), 8192, .inl f11))] H := hP
  have hD : va_D A [(h0, .inr (4, [.ref (qa 5), .int 3, .int 0, .int 0, .ref (qa 6), .ref (qa 7), .ref (qa 8)])), ((qa 5), .inl ((qk 0), 8192, .inl f11))] := hD
  refine lv_iinc (v := 0) (lv' := [(2, .int 0), (0, .ref h0), (1, .int v)]) hx hb d_So_appendWord_40 hl (k := 0) rfl (by decide) (by decide) rfl (fun ls hl => ?_)
  refine lv_goto (tgt := 3) hx hb d_So_appendWord_43 (by decide) ?_
  refine lv_iload_n hx hb d_So_appendWord_3 rfl (lv_at hl 0 rfl) ?_
  refine lv_if_lt (tgt := 46) hx hb d_So_appendWord_4 (by decide) (fun q9 => absurd q9 (by decide : ¬ ((0 : Int32) < 0))) (fun _ => ?_)
  refine lv_aload_n hx hb d_So_appendWord_7 rfl (lv_at hl 1 rfl) ?_
  refine va_get (D := D) (ci := 4) (v := .int 3) (C := R_So) (T := F_So) (N := 7) hx hb hts i_So hown hK hP 0 rfl rfl 1 (by decide) (hts _ w_35) (fun _ h9 => h9) rfl d_So_appendWord_8 ?_
  refine lv_sipush (v := 8192) hx hb d_So_appendWord_11 (by decide) ?_
  refine lv_icmp_ge (tgt := 46) hx hb d_So_appendWord_14 (by decide) (fun q9 => absurd q9 (by decide : ¬ ((8192 : Int32) ≤ 3))) (fun _ => ?_)
  refine lv_aload_n hx hb d_So_appendWord_17 rfl (lv_at hl 1 rfl) ?_
  refine va_get (D := D) (ci := 4) (v := .ref (qa 5)) (C := R_So) (T := F_So) (N := 7) hx hb hts i_So hown hK hP 0 rfl rfl 0 (by decide) (hts _ w_34) (fun _ h9 => h9) rfl d_So_appendWord_18 ?_
  refine lv_aload_n hx hb d_So_appendWord_21 rfl (lv_at hl 1 rfl) ?_
  refine va_get (D := D) (ci := 4) (v := .int 3) (C := R_So) (T := F_So) (N := 7) hx hb hts i_So hown hK hP 0 rfl rfl 1 (by decide) (hts _ w_35) (fun _ h9 => h9) rfl d_So_appendWord_22 ?_
  refine lv_iload_n hx hb d_So_appendWord_25 rfl (lv_at hl 2 rfl) ?_
  refine lv_iload_n hx hb d_So_appendWord_26 rfl (lv_at hl 0 rfl) ?_
  refine lv_iushr hx hb d_So_appendWord_27 rfl ?_
  refine lv_topi (fun z13 _ => ?_)
  refine lv_i2b hx hb d_So_appendWord_28 rfl ?_
  refine lv_topi (fun z14 _ => ?_)
  refine va_bast hx hb hK hP hD hS 1 0 rfl rfl (by unfold vp_in; decide) d_So_appendWord_29 (fun H locs hP hD hS => ?_)
  obtain ⟨f15, ef15⟩ : ∃ z : Nat → Int32, z = (upd f11 (3 : Int32).toNatClampNeg (vp_nar .byte z14)) := ⟨_, rfl⟩
  have hP : va_P D cls [(h0, .inr (4, [.ref (qa 5), .int 3, .int 0, .int 0, .ref (qa 6), .ref (qa 7), .ref (qa 8)])), ((qa 5), .inl ((qk 0), 8192, .inl f15))] H := by rw [ef15]; exact hP
  have hD : va_D A [(h0, .inr (4, [.ref (qa 5), .int 3, .int 0, .int 0, .ref (qa 6), .ref (qa 7), .ref (qa 8)])), ((qa 5), .inl ((qk 0), 8192, .inl f15))] := by rw [ef15]; exact hD
  refine lv_aload_n hx hb d_So_appendWord_30 rfl (lv_at hl 1 rfl) ?_
  refine lv_dup hx hb d_So_appendWord_31 rfl ?_
  refine va_get (D := D) (ci := 4) (v := .int 3) (C := R_So) (T := F_So) (N := 7) hx hb hts i_So hown hK hP 0 rfl rfl 1 (by decide) (hts _ w_35) (fun _ h9 => h9) rfl d_So_appendWord_32 ?_
  refine lv_iconst (v := 1) hx hb d_So_appendWord_35 (by decide) ?_
  refine lv_iadd hx hb d_So_appendWord_36 ?_
  refine lv_topi (fun z16 ez16 => ?_)
  obtain rfl : z16 = 4 := ez16.trans (by decide)
  refine va_put (D := D) (ci := 4) (v := .int 4) (ty := .int) (C := R_So) (T := F_So) (N := 7) hx hb hts i_So t_So t_So_ok n_So hown hK hP hD hS 0 rfl rfl 1 (by decide) (hts _ w_35) (fun _ h9 => h9) rfl (by decide +kernel) rfl rfl (Nat.le_of_ble_eq_true rfl) d_So_appendWord_37 (fun H locs hP hD hS => ?_)
  have hP : va_P D cls [(h0, .inr (4, [.ref (qa 5), .int 4, .int 0, .int 0, .ref (qa 6), .ref (qa 7), .ref (qa 8)])), ((qa 5), .inl ((qk 0), 8192, .inl f15))] H := hP
  have hD : va_D A [(h0, .inr (4, [.ref (qa 5), .int 4, .int 0, .int 0, .ref (qa 6), .ref (qa 7), .ref (qa 8)])), ((qa 5), .inl ((qk 0), 8192, .inl f15))] := hD
  refine lv_iinc (v := (-8)) (lv' := [(2, .int (-8)), (0, .ref h0), (1, .int v)]) hx hb d_So_appendWord_40 hl (k := 0) rfl (by decide) (by decide) rfl (fun ls hl => ?_)
  refine lv_goto (tgt := 3) hx hb d_So_appendWord_43 (by decide) ?_
  refine lv_iload_n hx hb d_So_appendWord_3 rfl (lv_at hl 0 rfl) ?_
  refine lv_if_lt (tgt := 46) hx hb d_So_appendWord_4 (by decide) (fun _ => ?_) (fun q9 => absurd (by decide : (((-8) : Int32) < 0)) q9)
  exact xr_v hx hb hr hlocks hP hD hK hS (f15) [0, 1] rfl rfl (by decide) [0] rfl rfl d_So_appendWord_46

set_option maxHeartbeats 4000000 in
set_option maxRecDepth 100000 in
theorem c_So_appendWord_4 (l : Launch) (D : va_G) (h0 : Nat) (qa : Nat → Nat) (qk : Nat → ClassId) (f : Nat → Int32) (v : Int32) (sz : Nat) : Met l y_So_appendWord (Cond.code y_So_appendWord b_So_appendWord 3 none :: bw) (xR 1 0 0) (va_Pc [.ref h0, .int v] (xP D [((qk 0), .byte)] sz [(h0, .inr (4, [.ref (qa 5), .int 4, .int 0, .int 0, .ref (qa 6), .ref (qa 7), .ref (qa 8)])), ((qa 5), .inl ((qk 0), 8192, .inl f))])) (xQ (S := (Nat → Int32)) (fun u => none) (fun u => [(h0, .inr (4, [.ref (qa 5), .int 8, .int 0, .int 0, .ref (qa 6), .ref (qa 7), .ref (qa 8)])), ((qa 5), .inl ((qk 0), 8192, .inl u))]) (fun u => [((qk 0), .byte)]) D (va_A [(h0, .inr (4, [.ref (qa 5), .int 4, .int 0, .int 0, .ref (qa 6), .ref (qa 7), .ref (qa 8)])), ((qa 5), .inl ((qk 0), 8192, .inl f))] sz)) 0 0 (va_A [(h0, .inr (4, [.ref (qa 5), .int 4, .int 0, .int 0, .ref (qa 6), .ref (qa 7), .ref (qa 8)])), ((qa 5), .inl ((qk 0), 8192, .inl f))] sz) := by
  refine Met.ofW (cc := b_So_appendWord) (maxL := 3) (ret := none) (by decide) rfl ?_
  intro p e s m args below meth c s₁ B hml hv
  obtain ⟨rfl, hsz, hP, hK, hD0, hN, hZ⟩ := hv
  have hx := B.exec
  have hb := B.bytes
  have hr := B.returns
  have hlocks := B.notSynchronized
  have hts : ∀ w ∈ bw, w.before _ s = true := fun w h => atoms_spec (ws := Cond.code y_So_appendWord b_So_appendWord 3 none :: bw) B.pre w (List.mem_cons_of_mem _ h)
  have hown : s.vm.findClass "ObjectForge$Source" = some m.cls := findClass_of_methodNamed B.named
  subst hsz
  have hP0 := hP
  have hD := hD0.self (sz := s.heap.size)
  generalize hAe : va_A [(h0, .inr (4, [.ref (qa 5), .int 4, .int 0, .int 0, .ref (qa 6), .ref (qa 7), .ref (qa 8)])), ((qa 5), .inl ((qk 0), 8192, .inl f))] s.heap.size = A at hD hZ ⊢
  have hA : ∀ q : Nat, s.heap.size ≤ q → A q := fun q h => by rw [← hAe]; exact Or.inr h
  have hS : va_S A s.heap s.heap [] := va_S.rf
  have hl := lv_entry ([.ref h0, .int v]) (n := 3) (Nat.le_of_ble_eq_true rfl)
  rw [lg_entry_eq]
  generalize (lg_sl ([.ref h0, .int v]) ++ List.replicate (3 - (lg_sl ([.ref h0, .int v])).length) Slot.unset).toArray = ls at hl ⊢
  have hl : lv_has ls 3 [(0, .ref h0), (1, .int v)] := hl
  refine lv_bipush (v := 24) hx hb d_So_appendWord_0 (by decide) ?_
  refine lv_istore_n (lv' := [(2, .int 24), (0, .ref h0), (1, .int v)]) hx hb d_So_appendWord_2 rfl hl (by decide) rfl (fun ls hl => ?_)
  refine lv_iload_n hx hb d_So_appendWord_3 rfl (lv_at hl 0 rfl) ?_
  refine lv_if_lt (tgt := 46) hx hb d_So_appendWord_4 (by decide) (fun q9 => absurd q9 (by decide : ¬ ((24 : Int32) < 0))) (fun _ => ?_)
  refine lv_aload_n hx hb d_So_appendWord_7 rfl (lv_at hl 1 rfl) ?_
  refine va_get (D := D) (ci := 4) (v := .int 4) (C := R_So) (T := F_So) (N := 7) hx hb hts i_So hown hK hP 0 rfl rfl 1 (by decide) (hts _ w_35) (fun _ h9 => h9) rfl d_So_appendWord_8 ?_
  refine lv_sipush (v := 8192) hx hb d_So_appendWord_11 (by decide) ?_
  refine lv_icmp_ge (tgt := 46) hx hb d_So_appendWord_14 (by decide) (fun q9 => absurd q9 (by decide : ¬ ((8192 : Int32) ≤ 4))) (fun _ => ?_)
  refine lv_aload_n hx hb d_So_appendWord_17 rfl (lv_at hl 1 rfl) ?_
  refine va_get (D := D) (ci := 4) (v := .ref (qa 5)) (C := R_So) (T := F_So) (N := 7) hx hb hts i_So hown hK hP 0 rfl rfl 0 (by decide) (hts _ w_34) (fun _ h9 => h9) rfl d_So_appendWord_18 ?_
  refine lv_aload_n hx hb d_So_appendWord_21 rfl (lv_at hl 1 rfl) ?_
  refine va_get (D := D) (ci := 4) (v := .int 4) (C := R_So) (T := F_So) (N := 7) hx hb hts i_So hown hK hP 0 rfl rfl 1 (by decide) (hts _ w_35) (fun _ h9 => h9) rfl d_So_appendWord_22 ?_
  refine lv_iload_n hx hb d_So_appendWord_25 rfl (lv_at hl 2 rfl) ?_
  refine lv_iload_n hx hb d_So_appendWord_26 rfl (lv_at hl 0 rfl) ?_
  refine lv_iushr hx hb d_So_appendWord_27 rfl ?_
  refine lv_topi (fun z1 _ => ?_)
  refine lv_i2b hx hb d_So_appendWord_28 rfl ?_
  refine lv_topi (fun z2 _ => ?_)
  refine va_bast hx hb hK hP hD hS 1 0 rfl rfl (by unfold vp_in; decide) d_So_appendWord_29 (fun H locs hP hD hS => ?_)
  obtain ⟨f3, ef3⟩ : ∃ z : Nat → Int32, z = (upd f (4 : Int32).toNatClampNeg (vp_nar .byte z2)) := ⟨_, rfl⟩
  have hP : va_P D cls [(h0, .inr (4, [.ref (qa 5), .int 4, .int 0, .int 0, .ref (qa 6), .ref (qa 7), .ref (qa 8)])), ((qa 5), .inl ((qk 0), 8192, .inl f3))] H := by rw [ef3]; exact hP
  have hD : va_D A [(h0, .inr (4, [.ref (qa 5), .int 4, .int 0, .int 0, .ref (qa 6), .ref (qa 7), .ref (qa 8)])), ((qa 5), .inl ((qk 0), 8192, .inl f3))] := by rw [ef3]; exact hD
  refine lv_aload_n hx hb d_So_appendWord_30 rfl (lv_at hl 1 rfl) ?_
  refine lv_dup hx hb d_So_appendWord_31 rfl ?_
  refine va_get (D := D) (ci := 4) (v := .int 4) (C := R_So) (T := F_So) (N := 7) hx hb hts i_So hown hK hP 0 rfl rfl 1 (by decide) (hts _ w_35) (fun _ h9 => h9) rfl d_So_appendWord_32 ?_
  refine lv_iconst (v := 1) hx hb d_So_appendWord_35 (by decide) ?_
  refine lv_iadd hx hb d_So_appendWord_36 ?_
  refine lv_topi (fun z4 ez4 => ?_)
  obtain rfl : z4 = 5 := ez4.trans (by decide)
  refine va_put (D := D) (ci := 4) (v := .int 5) (ty := .int) (C := R_So) (T := F_So) (N := 7) hx hb hts i_So t_So t_So_ok n_So hown hK hP hD hS 0 rfl rfl 1 (by decide) (hts _ w_35) (fun _ h9 => h9) rfl (by decide +kernel) rfl rfl (Nat.le_of_ble_eq_true rfl) d_So_appendWord_37 (fun H locs hP hD hS => ?_)
  have hP : va_P D cls [(h0, .inr (4, [.ref (qa 5), .int 5, .int 0, .int 0, .ref (qa 6), .ref (qa 7), .ref (qa 8)])), ((qa 5), .inl ((qk 0), 8192, .inl f3))] H := hP
  have hD : va_D A [(h0, .inr (4, [.ref (qa 5), .int 5, .int 0, .int 0, .ref (qa 6), .ref (qa 7), .ref (qa 8)])), ((qa 5), .inl ((qk 0), 8192, .inl f3))] := hD
  refine lv_iinc (v := 16) (lv' := [(2, .int 16), (0, .ref h0), (1, .int v)]) hx hb d_So_appendWord_40 hl (k := 0) rfl (by decide) (by decide) rfl (fun ls hl => ?_)
  refine lv_goto (tgt := 3) hx hb d_So_appendWord_43 (by decide) ?_
  refine lv_iload_n hx hb d_So_appendWord_3 rfl (lv_at hl 0 rfl) ?_
  refine lv_if_lt (tgt := 46) hx hb d_So_appendWord_4 (by decide) (fun q9 => absurd q9 (by decide : ¬ ((16 : Int32) < 0))) (fun _ => ?_)
  refine lv_aload_n hx hb d_So_appendWord_7 rfl (lv_at hl 1 rfl) ?_
  refine va_get (D := D) (ci := 4) (v := .int 5) (C := R_So) (T := F_So) (N := 7) hx hb hts i_So hown hK hP 0 rfl rfl 1 (by decide) (hts _ w_35) (fun _ h9 => h9) rfl d_So_appendWord_8 ?_
  refine lv_sipush (v := 8192) hx hb d_So_appendWord_11 (by decide) ?_
  refine lv_icmp_ge (tgt := 46) hx hb d_So_appendWord_14 (by decide) (fun q9 => absurd q9 (by decide : ¬ ((8192 : Int32) ≤ 5))) (fun _ => ?_)
  refine lv_aload_n hx hb d_So_appendWord_17 rfl (lv_at hl 1 rfl) ?_
  refine va_get (D := D) (ci := 4) (v := .ref (qa 5)) (C := R_So) (T := F_So) (N := 7) hx hb hts i_So hown hK hP 0 rfl rfl 0 (by decide) (hts _ w_34) (fun _ h9 => h9) rfl d_So_appendWord_18 ?_
  refine lv_aload_n hx hb d_So_appendWord_21 rfl (lv_at hl 1 rfl) ?_
  refine va_get (D := D) (ci := 4) (v := .int 5) (C := R_So) (T := F_So) (N := 7) hx hb hts i_So hown hK hP 0 rfl rfl 1 (by decide) (hts _ w_35) (fun _ h9 => h9) rfl d_So_appendWord_22 ?_
  refine lv_iload_n hx hb d_So_appendWord_25 rfl (lv_at hl 2 rfl) ?_
  refine lv_iload_n hx hb d_So_appendWord_26 rfl (lv_at hl 0 rfl) ?_
  refine lv_iushr hx hb d_So_appendWord_27 rfl ?_
  refine lv_topi (fun z5 _ => ?_)
  refine lv_i2b hx hb d_So_appendWord_28 rfl ?_
  refine lv_topi (fun z6 _ => ?_)
  refine va_bast hx hb hK hP hD hS 1 0 rfl rfl (by unfold vp_in; decide) d_So_appendWord_29 (fun H locs hP hD hS => ?_)
  obtain ⟨f7, ef7⟩ : ∃ z : Nat → Int32, z = (upd f3 (5 : Int32).toNatClampNeg (vp_nar .byte z6)) := ⟨_, rfl⟩
  have hP : va_P D cls [(h0, .inr (4, [.ref (qa 5), .int 5, .int 0, .int 0, .ref (qa 6), .ref (qa 7), .ref (qa 8)])), ((qa 5), .inl ((qk 0), 8192, .inl f7))] H := by rw [ef7]; exact hP
  have hD : va_D A [(h0, .inr (4, [.ref (qa 5), .int 5, .int 0, .int 0, .ref (qa 6), .ref (qa 7), .ref (qa 8)])), ((qa 5), .inl ((qk 0), 8192, .inl f7))] := by rw [ef7]; exact hD
  refine lv_aload_n hx hb d_So_appendWord_30 rfl (lv_at hl 1 rfl) ?_
  refine lv_dup hx hb d_So_appendWord_31 rfl ?_
  refine va_get (D := D) (ci := 4) (v := .int 5) (C := R_So) (T := F_So) (N := 7) hx hb hts i_So hown hK hP 0 rfl rfl 1 (by decide) (hts _ w_35) (fun _ h9 => h9) rfl d_So_appendWord_32 ?_
  refine lv_iconst (v := 1) hx hb d_So_appendWord_35 (by decide) ?_
  refine lv_iadd hx hb d_So_appendWord_36 ?_
  refine lv_topi (fun z8 ez8 => ?_)
  obtain rfl : z8 = 6 := ez8.trans (by decide)
  refine va_put (D := D) (ci := 4) (v := .int 6) (ty := .int) (C := R_So) (T := F_So) (N := 7) hx hb hts i_So t_So t_So_ok n_So hown hK hP hD hS 0 rfl rfl 1 (by decide) (hts _ w_35) (fun _ h9 => h9) rfl (by decide +kernel) rfl rfl (Nat.le_of_ble_eq_true rfl) d_So_appendWord_37 (fun H locs hP hD hS => ?_)
  have hP : va_P D cls [(h0, .inr (4, [.ref (qa 5), .int 6, .int 0, .int 0, .ref (qa 6), .ref (qa 7), .ref (qa 8)])), ((qa 5), .inl ((qk 0), 8192, .inl f7))] H := hP
  have hD : va_D A [(h0, .inr (4, [.ref (qa 5), .int 6, .int 0, .int 0, .ref (qa 6), .ref (qa 7), .ref (qa 8)])), ((qa 5), .inl ((qk 0), 8192, .inl f7))] := hD
  refine lv_iinc (v := 8) (lv' := [(2, .int 8), (0, .ref h0), (1, .int v)]) hx hb d_So_appendWord_40 hl (k := 0) rfl (by decide) (by decide) rfl (fun ls hl => ?_)
  refine lv_goto (tgt := 3) hx hb d_So_appendWord_43 (by decide) ?_
  refine lv_iload_n hx hb d_So_appendWord_3 rfl (lv_at hl 0 rfl) ?_
  refine lv_if_lt (tgt := 46) hx hb d_So_appendWord_4 (by decide) (fun q9 => absurd q9 (by decide : ¬ ((8 : Int32) < 0))) (fun _ => ?_)
  refine lv_aload_n hx hb d_So_appendWord_7 rfl (lv_at hl 1 rfl) ?_
  refine va_get (D := D) (ci := 4) (v := .int 6) (C := R_So) (T := F_So) (N := 7) hx hb hts i_So hown hK hP 0 rfl rfl 1 (by decide) (hts _ w_35) (fun _ h9 => h9) rfl d_So_appendWord_8 ?_
  refine lv_sipush (v := 8192) hx hb d_So_appendWord_11 (by decide) ?_
  refine lv_icmp_ge (tgt := 46) hx hb d_So_appendWord_14 (by decide) (fun q9 => absurd q9 (by decide : ¬ ((8192 : Int32) ≤ 6))) (fun _ => ?_)
  refine lv_aload_n hx hb d_So_appendWord_17 rfl (lv_at hl 1 rfl) ?_
  refine va_get (D := D) (ci := 4) (v := .ref (qa 5)) (C := R_So) (T := F_So) (N := 7) hx hb hts i_So hown hK hP 0 rfl rfl 0 (by decide) (hts _ w_34) (fun _ h9 => h9) rfl d_So_appendWord_18 ?_
  refine lv_aload_n hx hb d_So_appendWord_21 rfl (lv_at hl 1 rfl) ?_
  refine va_get (D := D) (ci := 4) (v := .int 6) (C := R_So) (T := F_So) (N := 7) hx hb hts i_So hown hK hP 0 rfl rfl 1 (by decide) (hts _ w_35) (fun _ h9 => h9) rfl d_So_appendWord_22 ?_
  refine lv_iload_n hx hb d_So_appendWord_25 rfl (lv_at hl 2 rfl) ?_
  refine lv_iload_n hx hb d_So_appendWord_26 rfl (lv_at hl 0 rfl) ?_
  refine lv_iushr hx hb d_So_appendWord_27 rfl ?_
  refine lv_topi (fun z9 _ => ?_)
  refine lv_i2b hx hb d_So_appendWord_28 rfl ?_
  refine lv_topi (fun z10 _ => ?_)
  refine va_bast hx hb hK hP hD hS 1 0 rfl rfl (by unfold vp_in; decide) d_So_appendWord_29 (fun H locs hP hD hS => ?_)
  obtain ⟨f11, ef11⟩ : ∃ z : Nat → Int32, z = (upd f7 (6 : Int32).toNatClampNeg (vp_nar .byte z10)) := ⟨_, rfl⟩
  have hP : va_P D cls [(h0, .inr (4, [.ref (qa 5), .int 6, .int 0, .int 0, .ref (qa 6), .ref (qa 7), .ref (qa 8)])), ((qa 5), .inl ((qk 0), 8192, .inl f11))] H := by rw [ef11]; exact hP
  have hD : va_D A [(h0, .inr (4, [.ref (qa 5), .int 6, .int 0, .int 0, .ref (qa 6), .ref (qa 7), .ref (qa 8)])), ((qa 5), .inl ((qk 0), 8192, .inl f11))] := by rw [ef11]; exact hD
  refine lv_aload_n hx hb d_So_appendWord_30 rfl (lv_at hl 1 rfl) ?_
  refine lv_dup hx hb d_So_appendWord_31 rfl ?_
  refine va_get (D := D) (ci := 4) (v := .int 6) (C := R_So) (T := F_So) (N := 7) hx hb hts i_So hown hK hP 0 rfl rfl 1 (by decide) (hts _ w_35) (fun _ h9 => h9) rfl d_So_appendWord_32 ?_
  refine lv_iconst (v := 1) hx hb d_So_appendWord_35 (by decide) ?_
  refine lv_iadd hx hb d_So_appendWord_36 ?_
  refine lv_topi (fun z12 ez12 => ?_)
  obtain rfl : z12 = 7 := ez12.trans (by decide)
  refine va_put (D := D) (ci := 4) (v := .int 7) (ty := .int) (C := R_So) (T := F_So) (N := 7) hx hb hts i_So t_So t_So_ok n_So hown hK hP hD hS 0 rfl rfl 1 (by decide) (hts _ w_35) (fun _ h9 => h9) rfl (by decide +kernel) rfl rfl (Nat.le_of_ble_eq_true rfl) d_So_appendWord_37 (fun H locs hP hD hS => ?_)
  have hP : va_P D cls [(h0, .inr (4, [.ref (qa 5), .int 7, .int 0, .int 0, .ref (qa 6), .ref (qa 7), .ref (qa 8)])), ((qa 5), .inl ((qk 0), 8192, .inl f11))] H := hP
  have hD : va_D A [(h0, .inr (4, [.ref (qa 5), .int 7, .int 0, .int 0, .ref (qa 6), .ref (qa 7), .ref (qa 8)])), ((qa 5), .inl ((qk 0), 8192, .inl f11))] := hD
  refine lv_iinc (v := 0) (lv' := [(2, .int 0), (0, .ref h0), (1, .int v)]) hx hb d_So_appendWord_40 hl (k := 0) rfl (by decide) (by decide) rfl (fun ls hl => ?_)
  refine lv_goto (tgt := 3) hx hb d_So_appendWord_43 (by decide) ?_
  refine lv_iload_n hx hb d_So_appendWord_3 rfl (lv_at hl 0 rfl) ?_
  refine lv_if_lt (tgt := 46) hx hb d_So_appendWord_4 (by decide) (fun q9 => absurd q9 (by decide : ¬ ((0 : Int32) < 0))) (fun _ => ?_)
  refine lv_aload_n hx hb d_So_appendWord_7 rfl (lv_at hl 1 rfl) ?_
  refine va_get (D := D) (ci := 4) (v := .int 7) (C := R_So) (T := F_So) (N := 7) hx hb hts i_So hown hK hP 0 rfl rfl 1 (by decide) (hts _ w_35) (fun _ h9 => h9) rfl d_So_appendWord_8 ?_
  refine lv_sipush (v := 8192) hx hb d_So_appendWord_11 (by decide) ?_
  refine lv_icmp_ge (tgt := 46) hx hb d_So_appendWord_14 (by decide) (fun q9 => absurd q9 (by decide : ¬ ((8192 : Int32) ≤ 7))) (fun _ => ?_)
  refine lv_aload_n hx hb d_So_appendWord_17 rfl (lv_at hl 1 rfl) ?_
  refine va_get (D := D) (ci := 4) (v := .ref (qa 5)) (C := R_So) (T := F_So) (N := 7) hx hb hts i_So hown hK hP 0 rfl rfl 0 (by decide) (hts _ w_34) (fun _ h9 => h9) rfl d_So_appendWord_18 ?_
  refine lv_aload_n hx hb d_So_appendWord_21 rfl (lv_at hl 1 rfl) ?_
  refine va_get (D := D) (ci := 4) (v := .int 7) (C := R_So) (T := F_So) (N := 7) hx hb hts i_So hown hK hP 0 rfl rfl 1 (by decide) (hts _ w_35) (fun _ h9 => h9) rfl d_So_appendWord_22 ?_
  refine lv_iload_n hx hb d_So_appendWord_25 rfl (lv_at hl 2 rfl) ?_
  refine lv_iload_n hx hb d_So_appendWord_26 rfl (lv_at hl 0 rfl) ?_
  refine lv_iushr hx hb d_So_appendWord_27 rfl ?_
  refine lv_topi (fun z13 _ => ?_)
  refine lv_i2b hx hb d_So_appendWord_28 rfl ?_
  refine lv_topi (fun z14 _ => ?_)
  refine va_bast hx hb hK hP hD hS 1 0 rfl rfl (by unfold vp_in; decide) d_So_appendWord_29 (fun H locs hP hD hS => ?_)
  obtain ⟨f15, ef15⟩ : ∃ z : Nat → Int32, z = (upd f11 (7 : Int32).toNatClampNeg (vp_nar .byte z14)) := ⟨_, rfl⟩
  have hP : va_P D cls [(h0, .inr (4, [.ref (qa 5), .int 7, .int 0, .int 0, .ref (qa 6), .ref (qa 7), .ref (qa 8)])), ((qa 5), .inl ((qk 0), 8192, .inl f15))] H := by rw [ef15]; exact hP
  have hD : va_D A [(h0, .inr (4, [.ref (qa 5), .int 7, .int 0, .int 0, .ref (qa 6), .ref (qa 7), .ref (qa 8)])), ((qa 5), .inl ((qk 0), 8192, .inl f15))] := by rw [ef15]; exact hD
  refine lv_aload_n hx hb d_So_appendWord_30 rfl (lv_at hl 1 rfl) ?_
  refine lv_dup hx hb d_So_appendWord_31 rfl ?_
  refine va_get (D := D) (ci := 4) (v := .int 7) (C := R_So) (T := F_So) (N := 7) hx hb hts i_So hown hK hP 0 rfl rfl 1 (by decide) (hts _ w_35) (fun _ h9 => h9) rfl d_So_appendWord_32 ?_
  refine lv_iconst (v := 1) hx hb d_So_appendWord_35 (by decide) ?_
  refine lv_iadd hx hb d_So_appendWord_36 ?_
  refine lv_topi (fun z16 ez16 => ?_)
  obtain rfl : z16 = 8 := ez16.trans (by decide)
  refine va_put (D := D) (ci := 4) (v := .int 8) (ty := .int) (C := R_So) (T := F_So) (N := 7) hx hb hts i_So t_So t_So_ok n_So hown hK hP hD hS 0 rfl rfl 1 (by decide) (hts _ w_35) (fun _ h9 => h9) rfl (by decide +kernel) rfl rfl (Nat.le_of_ble_eq_true rfl) d_So_appendWord_37 (fun H locs hP hD hS => ?_)
  have hP : va_P D cls [(h0, .inr (4, [.ref (qa 5), .int 8, .int 0, .int 0, .ref (qa 6), .ref (qa 7), .ref (qa 8)])), ((qa 5), .inl ((qk 0), 8192, .inl f15))] H := hP
  have hD : va_D A [(h0, .inr (4, [.ref (qa 5), .int 8, .int 0, .int 0, .ref (qa 6), .ref (qa 7), .ref (qa 8)])), ((qa 5), .inl ((qk 0), 8192, .inl f15))] := hD
  refine lv_iinc (v := (-8)) (lv' := [(2, .int (-8)), (0, .ref h0), (1, .int v)]) hx hb d_So_appendWord_40 hl (k := 0) rfl (by decide) (by decide) rfl (fun ls hl => ?_)
  refine lv_goto (tgt := 3) hx hb d_So_appendWord_43 (by decide) ?_
  refine lv_iload_n hx hb d_So_appendWord_3 rfl (lv_at hl 0 rfl) ?_
  refine lv_if_lt (tgt := 46) hx hb d_So_appendWord_4 (by decide) (fun _ => ?_) (fun q9 => absurd (by decide : (((-8) : Int32) < 0)) q9)
  exact xr_v hx hb hr hlocks hP hD hK hS (f15) [0, 1] rfl rfl (by decide) [0] rfl rfl d_So_appendWord_46

set_option maxHeartbeats 4000000 in
set_option maxRecDepth 100000 in
theorem c_So_appendWord_8 (l : Launch) (D : va_G) (h0 : Nat) (qa : Nat → Nat) (qk : Nat → ClassId) (f : Nat → Int32) (v : Int32) (sz : Nat) : Met l y_So_appendWord (Cond.code y_So_appendWord b_So_appendWord 3 none :: bw) (xR 1 0 0) (va_Pc [.ref h0, .int v] (xP D [((qk 0), .byte)] sz [(h0, .inr (4, [.ref (qa 5), .int 8, .int 0, .int 0, .ref (qa 6), .ref (qa 7), .ref (qa 8)])), ((qa 5), .inl ((qk 0), 8192, .inl f))])) (xQ (S := (Nat → Int32)) (fun u => none) (fun u => [(h0, .inr (4, [.ref (qa 5), .int 12, .int 0, .int 0, .ref (qa 6), .ref (qa 7), .ref (qa 8)])), ((qa 5), .inl ((qk 0), 8192, .inl u))]) (fun u => [((qk 0), .byte)]) D (va_A [(h0, .inr (4, [.ref (qa 5), .int 8, .int 0, .int 0, .ref (qa 6), .ref (qa 7), .ref (qa 8)])), ((qa 5), .inl ((qk 0), 8192, .inl f))] sz)) 0 0 (va_A [(h0, .inr (4, [.ref (qa 5), .int 8, .int 0, .int 0, .ref (qa 6), .ref (qa 7), .ref (qa 8)])), ((qa 5), .inl ((qk 0), 8192, .inl f))] sz) := by
  refine Met.ofW (cc := b_So_appendWord) (maxL := 3) (ret := none) (by decide) rfl ?_
  intro p e s m args below meth c s₁ B hml hv
  obtain ⟨rfl, hsz, hP, hK, hD0, hN, hZ⟩ := hv
  have hx := B.exec
  have hb := B.bytes
  have hr := B.returns
  have hlocks := B.notSynchronized
  have hts : ∀ w ∈ bw, w.before _ s = true := fun w h => atoms_spec (ws := Cond.code y_So_appendWord b_So_appendWord 3 none :: bw) B.pre w (List.mem_cons_of_mem _ h)
  have hown : s.vm.findClass "ObjectForge$Source" = some m.cls := findClass_of_methodNamed B.named
  subst hsz
  have hP0 := hP
  have hD := hD0.self (sz := s.heap.size)
  generalize hAe : va_A [(h0, .inr (4, [.ref (qa 5), .int 8, .int 0, .int 0, .ref (qa 6), .ref (qa 7), .ref (qa 8)])), ((qa 5), .inl ((qk 0), 8192, .inl f))] s.heap.size = A at hD hZ ⊢
  have hA : ∀ q : Nat, s.heap.size ≤ q → A q := fun q h => by rw [← hAe]; exact Or.inr h
  have hS : va_S A s.heap s.heap [] := va_S.rf
  have hl := lv_entry ([.ref h0, .int v]) (n := 3) (Nat.le_of_ble_eq_true rfl)
  rw [lg_entry_eq]
  generalize (lg_sl ([.ref h0, .int v]) ++ List.replicate (3 - (lg_sl ([.ref h0, .int v])).length) Slot.unset).toArray = ls at hl ⊢
  have hl : lv_has ls 3 [(0, .ref h0), (1, .int v)] := hl
  refine lv_bipush (v := 24) hx hb d_So_appendWord_0 (by decide) ?_
  refine lv_istore_n (lv' := [(2, .int 24), (0, .ref h0), (1, .int v)]) hx hb d_So_appendWord_2 rfl hl (by decide) rfl (fun ls hl => ?_)
  refine lv_iload_n hx hb d_So_appendWord_3 rfl (lv_at hl 0 rfl) ?_
  refine lv_if_lt (tgt := 46) hx hb d_So_appendWord_4 (by decide) (fun q9 => absurd q9 (by decide : ¬ ((24 : Int32) < 0))) (fun _ => ?_)
  refine lv_aload_n hx hb d_So_appendWord_7 rfl (lv_at hl 1 rfl) ?_
  refine va_get (D := D) (ci := 4) (v := .int 8) (C := R_So) (T := F_So) (N := 7) hx hb hts i_So hown hK hP 0 rfl rfl 1 (by decide) (hts _ w_35) (fun _ h9 => h9) rfl d_So_appendWord_8 ?_
  refine lv_sipush (v := 8192) hx hb d_So_appendWord_11 (by decide) ?_
  refine lv_icmp_ge (tgt := 46) hx hb d_So_appendWord_14 (by decide) (fun q9 => absurd q9 (by decide : ¬ ((8192 : Int32) ≤ 8))) (fun _ => ?_)
  refine lv_aload_n hx hb d_So_appendWord_17 rfl (lv_at hl 1 rfl) ?_
  refine va_get (D := D) (ci := 4) (v := .ref (qa 5)) (C := R_So) (T := F_So) (N := 7) hx hb hts i_So hown hK hP 0 rfl rfl 0 (by decide) (hts _ w_34) (fun _ h9 => h9) rfl d_So_appendWord_18 ?_
  refine lv_aload_n hx hb d_So_appendWord_21 rfl (lv_at hl 1 rfl) ?_
  refine va_get (D := D) (ci := 4) (v := .int 8) (C := R_So) (T := F_So) (N := 7) hx hb hts i_So hown hK hP 0 rfl rfl 1 (by decide) (hts _ w_35) (fun _ h9 => h9) rfl d_So_appendWord_22 ?_
  refine lv_iload_n hx hb d_So_appendWord_25 rfl (lv_at hl 2 rfl) ?_
  refine lv_iload_n hx hb d_So_appendWord_26 rfl (lv_at hl 0 rfl) ?_
  refine lv_iushr hx hb d_So_appendWord_27 rfl ?_
  refine lv_topi (fun z1 _ => ?_)
  refine lv_i2b hx hb d_So_appendWord_28 rfl ?_
  refine lv_topi (fun z2 _ => ?_)
  refine va_bast hx hb hK hP hD hS 1 0 rfl rfl (by unfold vp_in; decide) d_So_appendWord_29 (fun H locs hP hD hS => ?_)
  obtain ⟨f3, ef3⟩ : ∃ z : Nat → Int32, z = (upd f (8 : Int32).toNatClampNeg (vp_nar .byte z2)) := ⟨_, rfl⟩
  have hP : va_P D cls [(h0, .inr (4, [.ref (qa 5), .int 8, .int 0, .int 0, .ref (qa 6), .ref (qa 7), .ref (qa 8)])), ((qa 5), .inl ((qk 0), 8192, .inl f3))] H := by rw [ef3]; exact hP
  have hD : va_D A [(h0, .inr (4, [.ref (qa 5), .int 8, .int 0, .int 0, .ref (qa 6), .ref (qa 7), .ref (qa 8)])), ((qa 5), .inl ((qk 0), 8192, .inl f3))] := by rw [ef3]; exact hD
  refine lv_aload_n hx hb d_So_appendWord_30 rfl (lv_at hl 1 rfl) ?_
  refine lv_dup hx hb d_So_appendWord_31 rfl ?_
  refine va_get (D := D) (ci := 4) (v := .int 8) (C := R_So) (T := F_So) (N := 7) hx hb hts i_So hown hK hP 0 rfl rfl 1 (by decide) (hts _ w_35) (fun _ h9 => h9) rfl d_So_appendWord_32 ?_
  refine lv_iconst (v := 1) hx hb d_So_appendWord_35 (by decide) ?_
  refine lv_iadd hx hb d_So_appendWord_36 ?_
  refine lv_topi (fun z4 ez4 => ?_)
  obtain rfl : z4 = 9 := ez4.trans (by decide)
  refine va_put (D := D) (ci := 4) (v := .int 9) (ty := .int) (C := R_So) (T := F_So) (N := 7) hx hb hts i_So t_So t_So_ok n_So hown hK hP hD hS 0 rfl rfl 1 (by decide) (hts _ w_35) (fun _ h9 => h9) rfl (by decide +kernel) rfl rfl (Nat.le_of_ble_eq_true rfl) d_So_appendWord_37 (fun H locs hP hD hS => ?_)
  have hP : va_P D cls [(h0, .inr (4, [.ref (qa 5), .int 9, .int 0, .int 0, .ref (qa 6), .ref (qa 7), .ref (qa 8)])), ((qa 5), .inl ((qk 0), 8192, .inl f3))] H := hP
  have hD : va_D A [(h0, .inr (4, [.ref (qa 5), .int 9, .int 0, .int 0, .ref (qa 6), .ref (qa 7), .ref (qa 8)])), ((qa 5), .inl ((qk 0), 8192, .inl f3))] := hD
  refine lv_iinc (v := 16) (lv' := [(2, .int 16), (0, .ref h0), (1, .int v)]) hx hb d_So_appendWord_40 hl (k := 0) rfl (by decide) (by decide) rfl (fun ls hl => ?_)
  refine lv_goto (tgt := 3) hx hb d_So_appendWord_43 (by decide) ?_
  refine lv_iload_n hx hb d_So_appendWord_3 rfl (lv_at hl 0 rfl) ?_
  refine lv_if_lt (tgt := 46) hx hb d_So_appendWord_4 (by decide) (fun q9 => absurd q9 (by decide : ¬ ((16 : Int32) < 0))) (fun _ => ?_)
  refine lv_aload_n hx hb d_So_appendWord_7 rfl (lv_at hl 1 rfl) ?_
  refine va_get (D := D) (ci := 4) (v := .int 9) (C := R_So) (T := F_So) (N := 7) hx hb hts i_So hown hK hP 0 rfl rfl 1 (by decide) (hts _ w_35) (fun _ h9 => h9) rfl d_So_appendWord_8 ?_
  refine lv_sipush (v := 8192) hx hb d_So_appendWord_11 (by decide) ?_
  refine lv_icmp_ge (tgt := 46) hx hb d_So_appendWord_14 (by decide) (fun q9 => absurd q9 (by decide : ¬ ((8192 : Int32) ≤ 9))) (fun _ => ?_)
  refine lv_aload_n hx hb d_So_appendWord_17 rfl (lv_at hl 1 rfl) ?_
  refine va_get (D := D) (ci := 4) (v := .ref (qa 5)) (C := R_So) (T := F_So) (N := 7) hx hb hts i_So hown hK hP 0 rfl rfl 0 (by decide) (hts _ w_34) (fun _ h9 => h9) rfl d_So_appendWord_18 ?_
  refine lv_aload_n hx hb d_So_appendWord_21 rfl (lv_at hl 1 rfl) ?_
  refine va_get (D := D) (ci := 4) (v := .int 9) (C := R_So) (T := F_So) (N := 7) hx hb hts i_So hown hK hP 0 rfl rfl 1 (by decide) (hts _ w_35) (fun _ h9 => h9) rfl d_So_appendWord_22 ?_
  refine lv_iload_n hx hb d_So_appendWord_25 rfl (lv_at hl 2 rfl) ?_
  refine lv_iload_n hx hb d_So_appendWord_26 rfl (lv_at hl 0 rfl) ?_
  refine lv_iushr hx hb d_So_appendWord_27 rfl ?_
  refine lv_topi (fun z5 _ => ?_)
  refine lv_i2b hx hb d_So_appendWord_28 rfl ?_
  refine lv_topi (fun z6 _ => ?_)
  refine va_bast hx hb hK hP hD hS 1 0 rfl rfl (by unfold vp_in; decide) d_So_appendWord_29 (fun H locs hP hD hS => ?_)
  obtain ⟨f7, ef7⟩ : ∃ z : Nat → Int32, z = (upd f3 (9 : Int32).toNatClampNeg (vp_nar .byte z6)) := ⟨_, rfl⟩
  have hP : va_P D cls [(h0, .inr (4, [.ref (qa 5), .int 9, .int 0, .int 0, .ref (qa 6), .ref (qa 7), .ref (qa 8)])), ((qa 5), .inl ((qk 0), 8192, .inl f7))] H := by rw [ef7]; exact hP
  have hD : va_D A [(h0, .inr (4, [.ref (qa 5), .int 9, .int 0, .int 0, .ref (qa 6), .ref (qa 7), .ref (qa 8)])), ((qa 5), .inl ((qk 0), 8192, .inl f7))] := by rw [ef7]; exact hD
  refine lv_aload_n hx hb d_So_appendWord_30 rfl (lv_at hl 1 rfl) ?_
  refine lv_dup hx hb d_So_appendWord_31 rfl ?_
  refine va_get (D := D) (ci := 4) (v := .int 9) (C := R_So) (T := F_So) (N := 7) hx hb hts i_So hown hK hP 0 rfl rfl 1 (by decide) (hts _ w_35) (fun _ h9 => h9) rfl d_So_appendWord_32 ?_
  refine lv_iconst (v := 1) hx hb d_So_appendWord_35 (by decide) ?_
  refine lv_iadd hx hb d_So_appendWord_36 ?_
  refine lv_topi (fun z8 ez8 => ?_)
  obtain rfl : z8 = 10 := ez8.trans (by decide)
  refine va_put (D := D) (ci := 4) (v := .int 10) (ty := .int) (C := R_So) (T := F_So) (N := 7) hx hb hts i_So t_So t_So_ok n_So hown hK hP hD hS 0 rfl rfl 1 (by decide) (hts _ w_35) (fun _ h9 => h9) rfl (by decide +kernel) rfl rfl (Nat.le_of_ble_eq_true rfl) d_So_appendWord_37 (fun H locs hP hD hS => ?_)
  have hP : va_P D cls [(h0, .inr (4, [.ref (qa 5), .int 10, .int 0, .int 0, .ref (qa 6), .ref (qa 7), .ref (qa 8)])), ((qa 5), .inl ((qk 0), 8192, .inl f7))] H := hP
  have hD : va_D A [(h0, .inr (4, [.ref (qa 5), .int 10, .int 0, .int 0, .ref (qa 6), .ref (qa 7), .ref (qa 8)])), ((qa 5), .inl ((qk 0), 8192, .inl f7))] := hD
  refine lv_iinc (v := 8) (lv' := [(2, .int 8), (0, .ref h0), (1, .int v)]) hx hb d_So_appendWord_40 hl (k := 0) rfl (by decide) (by decide) rfl (fun ls hl => ?_)
  refine lv_goto (tgt := 3) hx hb d_So_appendWord_43 (by decide) ?_
  refine lv_iload_n hx hb d_So_appendWord_3 rfl (lv_at hl 0 rfl) ?_
  refine lv_if_lt (tgt := 46) hx hb d_So_appendWord_4 (by decide) (fun q9 => absurd q9 (by decide : ¬ ((8 : Int32) < 0))) (fun _ => ?_)
  refine lv_aload_n hx hb d_So_appendWord_7 rfl (lv_at hl 1 rfl) ?_
  refine va_get (D := D) (ci := 4) (v := .int 10) (C := R_So) (T := F_So) (N := 7) hx hb hts i_So hown hK hP 0 rfl rfl 1 (by decide) (hts _ w_35) (fun _ h9 => h9) rfl d_So_appendWord_8 ?_
  refine lv_sipush (v := 8192) hx hb d_So_appendWord_11 (by decide) ?_
  refine lv_icmp_ge (tgt := 46) hx hb d_So_appendWord_14 (by decide) (fun q9 => absurd q9 (by decide : ¬ ((8192 : Int32) ≤ 10))) (fun _ => ?_)
  refine lv_aload_n hx hb d_So_appendWord_17 rfl (lv_at hl 1 rfl) ?_
  refine va_get (D := D) (ci := 4) (v := .ref (qa 5)) (C := R_So) (T := F_So) (N := 7) hx hb hts i_So hown hK hP 0 rfl rfl 0 (by decide) (hts _ w_34) (fun _ h9 => h9) rfl d_So_appendWord_18 ?_
  refine lv_aload_n hx hb d_So_appendWord_21 rfl (lv_at hl 1 rfl) ?_
  refine va_get (D := D) (ci := 4) (v := .int 10) (C := R_So) (T := F_So) (N := 7) hx hb hts i_So hown hK hP 0 rfl rfl 1 (by decide) (hts _ w_35) (fun _ h9 => h9) rfl d_So_appendWord_22 ?_
  refine lv_iload_n hx hb d_So_appendWord_25 rfl (lv_at hl 2 rfl) ?_
  refine lv_iload_n hx hb d_So_appendWord_26 rfl (lv_at hl 0 rfl) ?_
  refine lv_iushr hx hb d_So_appendWord_27 rfl ?_
  refine lv_topi (fun z9 _ => ?_)
  refine lv_i2b hx hb d_So_appendWord_28 rfl ?_
  refine lv_topi (fun z10 _ => ?_)
  refine va_bast hx hb hK hP hD hS 1 0 rfl rfl (by unfold vp_in; decide) d_So_appendWord_29 (fun H locs hP hD hS => ?_)
  obtain ⟨f11, ef11⟩ : ∃ z : Nat → Int32, z = (upd f7 (10 : Int32).toNatClampNeg (vp_nar .byte z10)) := ⟨_, rfl⟩
  have hP : va_P D cls [(h0, .inr (4, [.ref (qa 5), .int 10, .int 0, .int 0, .ref (qa 6), .ref (qa 7), .ref (qa 8)])), ((qa 5), .inl ((qk 0), 8192, .inl f11))] H := by rw [ef11]; exact hP
  have hD : va_D A [(h0, .inr (4, [.ref (qa 5), .int 10, .int 0, .int 0, .ref (qa 6), .ref (qa 7), .ref (qa 8)])), ((qa 5), .inl ((qk 0), 8192, .inl f11))] := by rw [ef11]; exact hD
  refine lv_aload_n hx hb d_So_appendWord_30 rfl (lv_at hl 1 rfl) ?_
  refine lv_dup hx hb d_So_appendWord_31 rfl ?_
  refine va_get (D := D) (ci := 4) (v := .int 10) (C := R_So) (T := F_So) (N := 7) hx hb hts i_So hown hK hP 0 rfl rfl 1 (by decide) (hts _ w_35) (fun _ h9 => h9) rfl d_So_appendWord_32 ?_
  refine lv_iconst (v := 1) hx hb d_So_appendWord_35 (by decide) ?_
  refine lv_iadd hx hb d_So_appendWord_36 ?_
  refine lv_topi (fun z12 ez12 => ?_)
  obtain rfl : z12 = 11 := ez12.trans (by decide)
  refine va_put (D := D) (ci := 4) (v := .int 11) (ty := .int) (C := R_So) (T := F_So) (N := 7) hx hb hts i_So t_So t_So_ok n_So hown hK hP hD hS 0 rfl rfl 1 (by decide) (hts _ w_35) (fun _ h9 => h9) rfl (by decide +kernel) rfl rfl (Nat.le_of_ble_eq_true rfl) d_So_appendWord_37 (fun H locs hP hD hS => ?_)
  have hP : va_P D cls [(h0, .inr (4, [.ref (qa 5), .int 11, .int 0, .int 0, .ref (qa 6), .ref (qa 7), .ref (qa 8)])), ((qa 5), .inl ((qk 0), 8192, .inl f11))] H := hP
  have hD : va_D A [(h0, .inr (4, [.ref (qa 5), .int 11, .int 0, .int 0, .ref (qa 6), .ref (qa 7), .ref (qa 8)])), ((qa 5), .inl ((qk 0), 8192, .inl f11))] := hD
  refine lv_iinc (v := 0) (lv' := [(2, .int 0), (0, .ref h0), (1, .int v)]) hx hb d_So_appendWord_40 hl (k := 0) rfl (by decide) (by decide) rfl (fun ls hl => ?_)
  refine lv_goto (tgt := 3) hx hb d_So_appendWord_43 (by decide) ?_
  refine lv_iload_n hx hb d_So_appendWord_3 rfl (lv_at hl 0 rfl) ?_
  refine lv_if_lt (tgt := 46) hx hb d_So_appendWord_4 (by decide) (fun q9 => absurd q9 (by decide : ¬ ((0 : Int32) < 0))) (fun _ => ?_)
  refine lv_aload_n hx hb d_So_appendWord_7 rfl (lv_at hl 1 rfl) ?_
  refine va_get (D := D) (ci := 4) (v := .int 11) (C := R_So) (T := F_So) (N := 7) hx hb hts i_So hown hK hP 0 rfl rfl 1 (by decide) (hts _ w_35) (fun _ h9 => h9) rfl d_So_appendWord_8 ?_
  refine lv_sipush (v := 8192) hx hb d_So_appendWord_11 (by decide) ?_
  refine lv_icmp_ge (tgt := 46) hx hb d_So_appendWord_14 (by decide) (fun q9 => absurd q9 (by decide : ¬ ((8192 : Int32) ≤ 11))) (fun _ => ?_)
  refine lv_aload_n hx hb d_So_appendWord_17 rfl (lv_at hl 1 rfl) ?_
  refine va_get (D := D) (ci := 4) (v := .ref (qa 5)) (C := R_So) (T := F_So) (N := 7) hx hb hts i_So hown hK hP 0 rfl rfl 0 (by decide) (hts _ w_34) (fun _ h9 => h9) rfl d_So_appendWord_18 ?_
  refine lv_aload_n hx hb d_So_appendWord_21 rfl (lv_at hl 1 rfl) ?_
  refine va_get (D := D) (ci := 4) (v := .int 11) (C := R_So) (T := F_So) (N := 7) hx hb hts i_So hown hK hP 0 rfl rfl 1 (by decide) (hts _ w_35) (fun _ h9 => h9) rfl d_So_appendWord_22 ?_
  refine lv_iload_n hx hb d_So_appendWord_25 rfl (lv_at hl 2 rfl) ?_
  refine lv_iload_n hx hb d_So_appendWord_26 rfl (lv_at hl 0 rfl) ?_
  refine lv_iushr hx hb d_So_appendWord_27 rfl ?_
  refine lv_topi (fun z13 _ => ?_)
  refine lv_i2b hx hb d_So_appendWord_28 rfl ?_
  refine lv_topi (fun z14 _ => ?_)
  refine va_bast hx hb hK hP hD hS 1 0 rfl rfl (by unfold vp_in; decide) d_So_appendWord_29 (fun H locs hP hD hS => ?_)
  obtain ⟨f15, ef15⟩ : ∃ z : Nat → Int32, z = (upd f11 (11 : Int32).toNatClampNeg (vp_nar .byte z14)) := ⟨_, rfl⟩
  have hP : va_P D cls [(h0, .inr (4, [.ref (qa 5), .int 11, .int 0, .int 0, .ref (qa 6), .ref (qa 7), .ref (qa 8)])), ((qa 5), .inl ((qk 0), 8192, .inl f15))] H := by rw [ef15]; exact hP
  have hD : va_D A [(h0, .inr (4, [.ref (qa 5), .int 11, .int 0, .int 0, .ref (qa 6), .ref (qa 7), .ref (qa 8)])), ((qa 5), .inl ((qk 0), 8192, .inl f15))] := by rw [ef15]; exact hD
  refine lv_aload_n hx hb d_So_appendWord_30 rfl (lv_at hl 1 rfl) ?_
  refine lv_dup hx hb d_So_appendWord_31 rfl ?_
  refine va_get (D := D) (ci := 4) (v := .int 11) (C := R_So) (T := F_So) (N := 7) hx hb hts i_So hown hK hP 0 rfl rfl 1 (by decide) (hts _ w_35) (fun _ h9 => h9) rfl d_So_appendWord_32 ?_
  refine lv_iconst (v := 1) hx hb d_So_appendWord_35 (by decide) ?_
  refine lv_iadd hx hb d_So_appendWord_36 ?_
  refine lv_topi (fun z16 ez16 => ?_)
  obtain rfl : z16 = 12 := ez16.trans (by decide)
  refine va_put (D := D) (ci := 4) (v := .int 12) (ty := .int) (C := R_So) (T := F_So) (N := 7) hx hb hts i_So t_So t_So_ok n_So hown hK hP hD hS 0 rfl rfl 1 (by decide) (hts _ w_35) (fun _ h9 => h9) rfl (by decide +kernel) rfl rfl (Nat.le_of_ble_eq_true rfl) d_So_appendWord_37 (fun H locs hP hD hS => ?_)
  have hP : va_P D cls [(h0, .inr (4, [.ref (qa 5), .int 12, .int 0, .int 0, .ref (qa 6), .ref (qa 7), .ref (qa 8)])), ((qa 5), .inl ((qk 0), 8192, .inl f15))] H := hP
  have hD : va_D A [(h0, .inr (4, [.ref (qa 5), .int 12, .int 0, .int 0, .ref (qa 6), .ref (qa 7), .ref (qa 8)])), ((qa 5), .inl ((qk 0), 8192, .inl f15))] := hD
  refine lv_iinc (v := (-8)) (lv' := [(2, .int (-8)), (0, .ref h0), (1, .int v)]) hx hb d_So_appendWord_40 hl (k := 0) rfl (by decide) (by decide) rfl (fun ls hl => ?_)
  refine lv_goto (tgt := 3) hx hb d_So_appendWord_43 (by decide) ?_
  refine lv_iload_n hx hb d_So_appendWord_3 rfl (lv_at hl 0 rfl) ?_
  refine lv_if_lt (tgt := 46) hx hb d_So_appendWord_4 (by decide) (fun _ => ?_) (fun q9 => absurd (by decide : (((-8) : Int32) < 0)) q9)
  exact xr_v hx hb hr hlocks hP hD hK hS (f15) [0, 1] rfl rfl (by decide) [0] rfl rfl d_So_appendWord_46

set_option maxHeartbeats 4000000 in
set_option maxRecDepth 100000 in
theorem c_So_appendWord_12 (l : Launch) (D : va_G) (h0 : Nat) (qa : Nat → Nat) (qk : Nat → ClassId) (f : Nat → Int32) (v : Int32) (sz : Nat) : Met l y_So_appendWord (Cond.code y_So_appendWord b_So_appendWord 3 none :: bw) (xR 1 0 0) (va_Pc [.ref h0, .int v] (xP D [((qk 0), .byte)] sz [(h0, .inr (4, [.ref (qa 5), .int 12, .int 0, .int 0, .ref (qa 6), .ref (qa 7), .ref (qa 8)])), ((qa 5), .inl ((qk 0), 8192, .inl f))])) (xQ (S := (Nat → Int32)) (fun u => none) (fun u => [(h0, .inr (4, [.ref (qa 5), .int 16, .int 0, .int 0, .ref (qa 6), .ref (qa 7), .ref (qa 8)])), ((qa 5), .inl ((qk 0), 8192, .inl u))]) (fun u => [((qk 0), .byte)]) D (va_A [(h0, .inr (4, [.ref (qa 5), .int 12, .int 0, .int 0, .ref (qa 6), .ref (qa 7), .ref (qa 8)])), ((qa 5), .inl ((qk 0), 8192, .inl f))] sz)) 0 0 (va_A [(h0, .inr (4, [.ref (qa 5), .int 12, .int 0, .int 0, .ref (qa 6), .ref (qa 7), .ref (qa 8)])), ((qa 5), .inl ((qk 0), 8192, .inl f))] sz) := by
  refine Met.ofW (cc := b_So_appendWord) (maxL := 3) (ret := none) (by decide) rfl ?_
  intro p e s m args below meth c s₁ B hml hv
  obtain ⟨rfl, hsz, hP, hK, hD0, hN, hZ⟩ := hv
  have hx := B.exec
  have hb := B.bytes
  have hr := B.returns
  have hlocks := B.notSynchronized
  have hts : ∀ w ∈ bw, w.before _ s = true := fun w h => atoms_spec (ws := Cond.code y_So_appendWord b_So_appendWord 3 none :: bw) B.pre w (List.mem_cons_of_mem _ h)
  have hown : s.vm.findClass "ObjectForge$Source" = some m.cls := findClass_of_methodNamed B.named
  subst hsz
  have hP0 := hP
  have hD := hD0.self (sz := s.heap.size)
  generalize hAe : va_A [(h0, .inr (4, [.ref (qa 5), .int 12, .int 0, .int 0, .ref (qa 6), .ref (qa 7), .ref (qa 8)])), ((qa 5), .inl ((qk 0), 8192, .inl f))] s.heap.size = A at hD hZ ⊢
  have hA : ∀ q : Nat, s.heap.size ≤ q → A q := fun q h => by rw [← hAe]; exact Or.inr h
  have hS : va_S A s.heap s.heap [] := va_S.rf
  have hl := lv_entry ([.ref h0, .int v]) (n := 3) (Nat.le_of_ble_eq_true rfl)
  rw [lg_entry_eq]
  generalize (lg_sl ([.ref h0, .int v]) ++ List.replicate (3 - (lg_sl ([.ref h0, .int v])).length) Slot.unset).toArray = ls at hl ⊢
  have hl : lv_has ls 3 [(0, .ref h0), (1, .int v)] := hl
  refine lv_bipush (v := 24) hx hb d_So_appendWord_0 (by decide) ?_
  refine lv_istore_n (lv' := [(2, .int 24), (0, .ref h0), (1, .int v)]) hx hb d_So_appendWord_2 rfl hl (by decide) rfl (fun ls hl => ?_)
  refine lv_iload_n hx hb d_So_appendWord_3 rfl (lv_at hl 0 rfl) ?_
  refine lv_if_lt (tgt := 46) hx hb d_So_appendWord_4 (by decide) (fun q9 => absurd q9 (by decide : ¬ ((24 : Int32) < 0))) (fun _ => ?_)
  refine lv_aload_n hx hb d_So_appendWord_7 rfl (lv_at hl 1 rfl) ?_
  refine va_get (D := D) (ci := 4) (v := .int 12) (C := R_So) (T := F_So) (N := 7) hx hb hts i_So hown hK hP 0 rfl rfl 1 (by decide) (hts _ w_35) (fun _ h9 => h9) rfl d_So_appendWord_8 ?_
  refine lv_sipush (v := 8192) hx hb d_So_appendWord_11 (by decide) ?_
  refine lv_icmp_ge (tgt := 46) hx hb d_So_appendWord_14 (by decide) (fun q9 => absurd q9 (by decide : ¬ ((8192 : Int32) ≤ 12))) (fun _ => ?_)
  refine lv_aload_n hx hb d_So_appendWord_17 rfl (lv_at hl 1 rfl) ?_
  refine va_get (D := D) (ci := 4) (v := .ref (qa 5)) (C := R_So) (T := F_So) (N := 7) hx hb hts i_So hown hK hP 0 rfl rfl 0 (by decide) (hts _ w_34) (fun _ h9 => h9) rfl d_So_appendWord_18 ?_
  refine lv_aload_n hx hb d_So_appendWord_21 rfl (lv_at hl 1 rfl) ?_
  refine va_get (D := D) (ci := 4) (v := .int 12) (C := R_So) (T := F_So) (N := 7) hx hb hts i_So hown hK hP 0 rfl rfl 1 (by decide) (hts _ w_35) (fun _ h9 => h9) rfl d_So_appendWord_22 ?_
  refine lv_iload_n hx hb d_So_appendWord_25 rfl (lv_at hl 2 rfl) ?_
  refine lv_iload_n hx hb d_So_appendWord_26 rfl (lv_at hl 0 rfl) ?_
  refine lv_iushr hx hb d_So_appendWord_27 rfl ?_
  refine lv_topi (fun z1 _ => ?_)
  refine lv_i2b hx hb d_So_appendWord_28 rfl ?_
  refine lv_topi (fun z2 _ => ?_)
  refine va_bast hx hb hK hP hD hS 1 0 rfl rfl (by unfold vp_in; decide) d_So_appendWord_29 (fun H locs hP hD hS => ?_)
  obtain ⟨f3, ef3⟩ : ∃ z : Nat → Int32, z = (upd f (12 : Int32).toNatClampNeg (vp_nar .byte z2)) := ⟨_, rfl⟩
  have hP : va_P D cls [(h0, .inr (4, [.ref (qa 5), .int 12, .int 0, .int 0, .ref (qa 6), .ref (qa 7), .ref (qa 8)])), ((qa 5), .inl ((qk 0), 8192, .inl f3))] H := by rw [ef3]; exact hP
  have hD : va_D A [(h0, .inr (4, [.ref (qa 5), .int 12, .int 0, .int 0, .ref (qa 6), .ref (qa 7), .ref (qa 8)])), ((qa 5), .inl ((qk 0), 8192, .inl f3))] := by rw [ef3]; exact hD
  refine lv_aload_n hx hb d_So_appendWord_30 rfl (lv_at hl 1 rfl) ?_
  refine lv_dup hx hb d_So_appendWord_31 rfl ?_
  refine va_get (D := D) (ci := 4) (v := .int 12) (C := R_So) (T := F_So) (N := 7) hx hb hts i_So hown hK hP 0 rfl rfl 1 (by decide) (hts _ w_35) (fun _ h9 => h9) rfl d_So_appendWord_32 ?_
  refine lv_iconst (v := 1) hx hb d_So_appendWord_35 (by decide) ?_
  refine lv_iadd hx hb d_So_appendWord_36 ?_
  refine lv_topi (fun z4 ez4 => ?_)
  obtain rfl : z4 = 13 := ez4.trans (by decide)
  refine va_put (D := D) (ci := 4) (v := .int 13) (ty := .int) (C := R_So) (T := F_So) (N := 7) hx hb hts i_So t_So t_So_ok n_So hown hK hP hD hS 0 rfl rfl 1 (by decide) (hts _ w_35) (fun _ h9 => h9) rfl (by decide +kernel) rfl rfl (Nat.le_of_ble_eq_true rfl) d_So_appendWord_37 (fun H locs hP hD hS => ?_)
  have hP : va_P D cls [(h0, .inr (4, [.ref (qa 5), .int 13, .int 0, .int 0, .ref (qa 6), .ref (qa 7), .ref (qa 8)])), ((qa 5), .inl ((qk 0), 8192, .inl f3))] H := hP
  have hD : va_D A [(h0, .inr (4, [.ref (qa 5), .int 13, .int 0, .int 0, .ref (qa 6), .ref (qa 7), .ref (qa 8)])), ((qa 5), .inl ((qk 0), 8192, .inl f3))] := hD
  refine lv_iinc (v := 16) (lv' := [(2, .int 16), (0, .ref h0), (1, .int v)]) hx hb d_So_appendWord_40 hl (k := 0) rfl (by decide) (by decide) rfl (fun ls hl => ?_)
  refine lv_goto (tgt := 3) hx hb d_So_appendWord_43 (by decide) ?_
  refine lv_iload_n hx hb d_So_appendWord_3 rfl (lv_at hl 0 rfl) ?_
  refine lv_if_lt (tgt := 46) hx hb d_So_appendWord_4 (by decide) (fun q9 => absurd q9 (by decide : ¬ ((16 : Int32) < 0))) (fun _ => ?_)
  refine lv_aload_n hx hb d_So_appendWord_7 rfl (lv_at hl 1 rfl) ?_
  refine va_get (D := D) (ci := 4) (v := .int 13) (C := R_So) (T := F_So) (N := 7) hx hb hts i_So hown hK hP 0 rfl rfl 1 (by decide) (hts _ w_35) (fun _ h9 => h9) rfl d_So_appendWord_8 ?_
  refine lv_sipush (v := 8192) hx hb d_So_appendWord_11 (by decide) ?_
  refine lv_icmp_ge (tgt := 46) hx hb d_So_appendWord_14 (by decide) (fun q9 => absurd q9 (by decide : ¬ ((8192 : Int32) ≤ 13))) (fun _ => ?_)
  refine lv_aload_n hx hb d_So_appendWord_17 rfl (lv_at hl 1 rfl) ?_
  refine va_get (D := D) (ci := 4) (v := .ref (qa 5)) (C := R_So) (T := F_So) (N := 7) hx hb hts i_So hown hK hP 0 rfl rfl 0 (by decide) (hts _ w_34) (fun _ h9 => h9) rfl d_So_appendWord_18 ?_
  refine lv_aload_n hx hb d_So_appendWord_21 rfl (lv_at hl 1 rfl) ?_
  refine va_get (D := D) (ci := 4) (v := .int 13) (C := R_So) (T := F_So) (N := 7) hx hb hts i_So hown hK hP 0 rfl rfl 1 (by decide) (hts _ w_35) (fun _ h9 => h9) rfl d_So_appendWord_22 ?_
  refine lv_iload_n hx hb d_So_appendWord_25 rfl (lv_at hl 2 rfl) ?_
  refine lv_iload_n hx hb d_So_appendWord_26 rfl (lv_at hl 0 rfl) ?_
  refine lv_iushr hx hb d_So_appendWord_27 rfl ?_
  refine lv_topi (fun z5 _ => ?_)
  refine lv_i2b hx hb d_So_appendWord_28 rfl ?_
  refine lv_topi (fun z6 _ => ?_)
  refine va_bast hx hb hK hP hD hS 1 0 rfl rfl (by unfold vp_in; decide) d_So_appendWord_29 (fun H locs hP hD hS => ?_)
  obtain ⟨f7, ef7⟩ : ∃ z : Nat → Int32, z = (upd f3 (13 : Int32).toNatClampNeg (vp_nar .byte z6)) := ⟨_, rfl⟩
  have hP : va_P D cls [(h0, .inr (4, [.ref (qa 5), .int 13, .int 0, .int 0, .ref (qa 6), .ref (qa 7), .ref (qa 8)])), ((qa 5), .inl ((qk 0), 8192, .inl f7))] H := by rw [ef7]; exact hP
  have hD : va_D A [(h0, .inr (4, [.ref (qa 5), .int 13, .int 0, .int 0, .ref (qa 6), .ref (qa 7), .ref (qa 8)])), ((qa 5), .inl ((qk 0), 8192, .inl f7))] := by rw [ef7]; exact hD
  refine lv_aload_n hx hb d_So_appendWord_30 rfl (lv_at hl 1 rfl) ?_
  refine lv_dup hx hb d_So_appendWord_31 rfl ?_
  refine va_get (D := D) (ci := 4) (v := .int 13) (C := R_So) (T := F_So) (N := 7) hx hb hts i_So hown hK hP 0 rfl rfl 1 (by decide) (hts _ w_35) (fun _ h9 => h9) rfl d_So_appendWord_32 ?_
  refine lv_iconst (v := 1) hx hb d_So_appendWord_35 (by decide) ?_
  refine lv_iadd hx hb d_So_appendWord_36 ?_
  refine lv_topi (fun z8 ez8 => ?_)
  obtain rfl : z8 = 14 := ez8.trans (by decide)
  refine va_put (D := D) (ci := 4) (v := .int 14) (ty := .int) (C := R_So) (T := F_So) (N := 7) hx hb hts i_So t_So t_So_ok n_So hown hK hP hD hS 0 rfl rfl 1 (by decide) (hts _ w_35) (fun _ h9 => h9) rfl (by decide +kernel) rfl rfl (Nat.le_of_ble_eq_true rfl) d_So_appendWord_37 (fun H locs hP hD hS => ?_)
  have hP : va_P D cls [(h0, .inr (4, [.ref (qa 5), .int 14, .int 0, .int 0, .ref (qa 6), .ref (qa 7), .ref (qa 8)])), ((qa 5), .inl ((qk 0), 8192, .inl f7))] H := hP
  have hD : va_D A [(h0, .inr (4, [.ref (qa 5), .int 14, .int 0, .int 0, .ref (qa 6), .ref (qa 7), .ref (qa 8)])), ((qa 5), .inl ((qk 0), 8192, .inl f7))] := hD
  refine lv_iinc (v := 8) (lv' := [(2, .int 8), (0, .ref h0), (1, .int v)]) hx hb d_So_appendWord_40 hl (k := 0) rfl (by decide) (by decide) rfl (fun ls hl => ?_)
  refine lv_goto (tgt := 3) hx hb d_So_appendWord_43 (by decide) ?_
  refine lv_iload_n hx hb d_So_appendWord_3 rfl (lv_at hl 0 rfl) ?_
  refine lv_if_lt (tgt := 46) hx hb d_So_appendWord_4 (by decide) (fun q9 => absurd q9 (by decide : ¬ ((8 : Int32) < 0))) (fun _ => ?_)
  refine lv_aload_n hx hb d_So_appendWord_7 rfl (lv_at hl 1 rfl) ?_
  refine va_get (D := D) (ci := 4) (v := .int 14) (C := R_So) (T := F_So) (N := 7) hx hb hts i_So hown hK hP 0 rfl rfl 1 (by decide) (hts _ w_35) (fun _ h9 => h9) rfl d_So_appendWord_8 ?_
  refine lv_sipush (v := 8192) hx hb d_So_appendWord_11 (by decide) ?_
  refine lv_icmp_ge (tgt := 46) hx hb d_So_appendWord_14 (by decide) (fun q9 => absurd q9 (by decide : ¬ ((8192 : Int32) ≤ 14))) (fun _ => ?_)
  refine lv_aload_n hx hb d_So_appendWord_17 rfl (lv_at hl 1 rfl) ?_
  refine va_get (D := D) (ci := 4) (v := .ref (qa 5)) (C := R_So) (T := F_So) (N := 7) hx hb hts i_So hown hK hP 0 rfl rfl 0 (by decide) (hts _ w_34) (fun _ h9 => h9) rfl d_So_appendWord_18 ?_
  refine lv_aload_n hx hb d_So_appendWord_21 rfl (lv_at hl 1 rfl) ?_
  refine va_get (D := D) (ci := 4) (v := .int 14) (C := R_So) (T := F_So) (N := 7) hx hb hts i_So hown hK hP 0 rfl rfl 1 (by decide) (hts _ w_35) (fun _ h9 => h9) rfl d_So_appendWord_22 ?_
  refine lv_iload_n hx hb d_So_appendWord_25 rfl (lv_at hl 2 rfl) ?_
  refine lv_iload_n hx hb d_So_appendWord_26 rfl (lv_at hl 0 rfl) ?_
  refine lv_iushr hx hb d_So_appendWord_27 rfl ?_
  refine lv_topi (fun z9 _ => ?_)
  refine lv_i2b hx hb d_So_appendWord_28 rfl ?_
  refine lv_topi (fun z10 _ => ?_)
  refine va_bast hx hb hK hP hD hS 1 0 rfl rfl (by unfold vp_in; decide) d_So_appendWord_29 (fun H locs hP hD hS => ?_)
  obtain ⟨f11, ef11⟩ : ∃ z : Nat → Int32, z = (upd f7 (14 : Int32).toNatClampNeg (vp_nar .byte z10)) := ⟨_, rfl⟩
  have hP : va_P D cls [(h0, .inr (4, [.ref (qa 5), .int 14, .int 0, .int 0, .ref (qa 6), .ref (qa 7), .ref (qa 8)])), ((qa 5), .inl ((qk 0), 8192, .inl f11))] H := by rw [ef11]; exact hP
  have hD : va_D A [(h0, .inr (4, [.ref (qa 5), .int 14, .int 0, .int 0, .ref (qa 6), .ref (qa 7), .ref (qa 8)])), ((qa 5), .inl ((qk 0), 8192, .inl f11))] := by rw [ef11]; exact hD
  refine lv_aload_n hx hb d_So_appendWord_30 rfl (lv_at hl 1 rfl) ?_
  refine lv_dup hx hb d_So_appendWord_31 rfl ?_
  refine va_get (D := D) (ci := 4) (v := .int 14) (C := R_So) (T := F_So) (N := 7) hx hb hts i_So hown hK hP 0 rfl rfl 1 (by decide) (hts _ w_35) (fun _ h9 => h9) rfl d_So_appendWord_32 ?_
  refine lv_iconst (v := 1) hx hb d_So_appendWord_35 (by decide) ?_
  refine lv_iadd hx hb d_So_appendWord_36 ?_
  refine lv_topi (fun z12 ez12 => ?_)
  obtain rfl : z12 = 15 := ez12.trans (by decide)
  refine va_put (D := D) (ci := 4) (v := .int 15) (ty := .int) (C := R_So) (T := F_So) (N := 7) hx hb hts i_So t_So t_So_ok n_So hown hK hP hD hS 0 rfl rfl 1 (by decide) (hts _ w_35) (fun _ h9 => h9) rfl (by decide +kernel) rfl rfl (Nat.le_of_ble_eq_true rfl) d_So_appendWord_37 (fun H locs hP hD hS => ?_)
  have hP : va_P D cls [(h0, .inr (4, [.ref (qa 5), .int 15, .int 0, .int 0, .ref (qa 6), .ref (qa 7), .ref (qa 8)])), ((qa 5), .inl ((qk 0), 8192, .inl f11))] H := hP
  have hD : va_D A [(h0, .inr (4, [.ref (qa 5), .int 15, .int 0, .int 0, .ref (qa 6), .ref (qa 7), .ref (qa 8)])), ((qa 5), .inl ((qk 0), 8192, .inl f11))] := hD
  refine lv_iinc (v := 0) (lv' := [(2, .int 0), (0, .ref h0), (1, .int v)]) hx hb d_So_appendWord_40 hl (k := 0) rfl (by decide) (by decide) rfl (fun ls hl => ?_)
  refine lv_goto (tgt := 3) hx hb d_So_appendWord_43 (by decide) ?_
  refine lv_iload_n hx hb d_So_appendWord_3 rfl (lv_at hl 0 rfl) ?_
  refine lv_if_lt (tgt := 46) hx hb d_So_appendWord_4 (by decide) (fun q9 => absurd q9 (by decide : ¬ ((0 : Int32) < 0))) (fun _ => ?_)
  refine lv_aload_n hx hb d_So_appendWord_7 rfl (lv_at hl 1 rfl) ?_
  refine va_get (D := D) (ci := 4) (v := .int 15) (C := R_So) (T := F_So) (N := 7) hx hb hts i_So hown hK hP 0 rfl rfl 1 (by decide) (hts _ w_35) (fun _ h9 => h9) rfl d_So_appendWord_8 ?_
  refine lv_sipush (v := 8192) hx hb d_So_appendWord_11 (by decide) ?_
  refine lv_icmp_ge (tgt := 46) hx hb d_So_appendWord_14 (by decide) (fun q9 => absurd q9 (by decide : ¬ ((8192 : Int32) ≤ 15))) (fun _ => ?_)
  refine lv_aload_n hx hb d_So_appendWord_17 rfl (lv_at hl 1 rfl) ?_
  refine va_get (D := D) (ci := 4) (v := .ref (qa 5)) (C := R_So) (T := F_So) (N := 7) hx hb hts i_So hown hK hP 0 rfl rfl 0 (by decide) (hts _ w_34) (fun _ h9 => h9) rfl d_So_appendWord_18 ?_
  refine lv_aload_n hx hb d_So_appendWord_21 rfl (lv_at hl 1 rfl) ?_
  refine va_get (D := D) (ci := 4) (v := .int 15) (C := R_So) (T := F_So) (N := 7) hx hb hts i_So hown hK hP 0 rfl rfl 1 (by decide) (hts _ w_35) (fun _ h9 => h9) rfl d_So_appendWord_22 ?_
  refine lv_iload_n hx hb d_So_appendWord_25 rfl (lv_at hl 2 rfl) ?_
  refine lv_iload_n hx hb d_So_appendWord_26 rfl (lv_at hl 0 rfl) ?_
  refine lv_iushr hx hb d_So_appendWord_27 rfl ?_
  refine lv_topi (fun z13 _ => ?_)
  refine lv_i2b hx hb d_So_appendWord_28 rfl ?_
  refine lv_topi (fun z14 _ => ?_)
  refine va_bast hx hb hK hP hD hS 1 0 rfl rfl (by unfold vp_in; decide) d_So_appendWord_29 (fun H locs hP hD hS => ?_)
  obtain ⟨f15, ef15⟩ : ∃ z : Nat → Int32, z = (upd f11 (15 : Int32).toNatClampNeg (vp_nar .byte z14)) := ⟨_, rfl⟩
  have hP : va_P D cls [(h0, .inr (4, [.ref (qa 5), .int 15, .int 0, .int 0, .ref (qa 6), .ref (qa 7), .ref (qa 8)])), ((qa 5), .inl ((qk 0), 8192, .inl f15))] H := by rw [ef15]; exact hP
  have hD : va_D A [(h0, .inr (4, [.ref (qa 5), .int 15, .int 0, .int 0, .ref (qa 6), .ref (qa 7), .ref (qa 8)])), ((qa 5), .inl ((qk 0), 8192, .inl f15))] := by rw [ef15]; exact hD
  refine lv_aload_n hx hb d_So_appendWord_30 rfl (lv_at hl 1 rfl) ?_
  refine lv_dup hx hb d_So_appendWord_31 rfl ?_
  refine va_get (D := D) (ci := 4) (v := .int 15) (C := R_So) (T := F_So) (N := 7) hx hb hts i_So hown hK hP 0 rfl rfl 1 (by decide) (hts _ w_35) (fun _ h9 => h9) rfl d_So_appendWord_32 ?_
  refine lv_iconst (v := 1) hx hb d_So_appendWord_35 (by decide) ?_
  refine lv_iadd hx hb d_So_appendWord_36 ?_
  refine lv_topi (fun z16 ez16 => ?_)
  obtain rfl : z16 = 16 := ez16.trans (by decide)
  refine va_put (D := D) (ci := 4) (v := .int 16) (ty := .int) (C := R_So) (T := F_So) (N := 7) hx hb hts i_So t_So t_So_ok n_So hown hK hP hD hS 0 rfl rfl 1 (by decide) (hts _ w_35) (fun _ h9 => h9) rfl (by decide +kernel) rfl rfl (Nat.le_of_ble_eq_true rfl) d_So_appendWord_37 (fun H locs hP hD hS => ?_)
  have hP : va_P D cls [(h0, .inr (4, [.ref (qa 5), .int 16, .int 0, .int 0, .ref (qa 6), .ref (qa 7), .ref (qa 8)])), ((qa 5), .inl ((qk 0), 8192, .inl f15))] H := hP
  have hD : va_D A [(h0, .inr (4, [.ref (qa 5), .int 16, .int 0, .int 0, .ref (qa 6), .ref (qa 7), .ref (qa 8)])), ((qa 5), .inl ((qk 0), 8192, .inl f15))] := hD
  refine lv_iinc (v := (-8)) (lv' := [(2, .int (-8)), (0, .ref h0), (1, .int v)]) hx hb d_So_appendWord_40 hl (k := 0) rfl (by decide) (by decide) rfl (fun ls hl => ?_)
  refine lv_goto (tgt := 3) hx hb d_So_appendWord_43 (by decide) ?_
  refine lv_iload_n hx hb d_So_appendWord_3 rfl (lv_at hl 0 rfl) ?_
  refine lv_if_lt (tgt := 46) hx hb d_So_appendWord_4 (by decide) (fun _ => ?_) (fun q9 => absurd (by decide : (((-8) : Int32) < 0)) q9)
  exact xr_v hx hb hr hlocks hP hD hK hS (f15) [0, 1] rfl rfl (by decide) [0] rfl rfl d_So_appendWord_46

theorem d_OF_feed_0 : decode b_OF_feed 0 = .ok (.aload_n 0, 1) := by decide +kernel
theorem d_OF_feed_1 : decode b_OF_feed 1 = .ok (.getfield 10, 3) := by decide +kernel
theorem d_OF_feed_4 : decode b_OF_feed 4 = .ok (.getfield 34, 3) := by decide +kernel
theorem d_OF_feed_7 : decode b_OF_feed 7 = .ok (.astore 5, 2) := by decide +kernel
theorem d_OF_feed_9 : decode b_OF_feed 9 = .ok (.aload 5, 2) := by decide +kernel
theorem d_OF_feed_11 : decode b_OF_feed 11 = .ok (.getfield 38, 3) := by decide +kernel
theorem d_OF_feed_14 : decode b_OF_feed 14 = .ok (.bipush 16, 2) := by decide +kernel
theorem d_OF_feed_16 : decode b_OF_feed 16 = .ok (.iadd, 1) := by decide +kernel
theorem d_OF_feed_17 : decode b_OF_feed 17 = .ok (.sipush 8192, 3) := by decide +kernel
theorem d_OF_feed_20 : decode b_OF_feed 20 = .ok (.if_icmp .le 13, 3) := by decide +kernel
theorem d_OF_feed_33 : decode b_OF_feed 33 = .ok (.aload 5, 2) := by decide +kernel
theorem d_OF_feed_35 : decode b_OF_feed 35 = .ok (.iload_n 1, 1) := by decide +kernel
theorem d_OF_feed_36 : decode b_OF_feed 36 = .ok (.invokevirtual 50, 3) := by decide +kernel
theorem d_OF_feed_39 : decode b_OF_feed 39 = .ok (.aload 5, 2) := by decide +kernel
theorem d_OF_feed_41 : decode b_OF_feed 41 = .ok (.iload_n 2, 1) := by decide +kernel
theorem d_OF_feed_42 : decode b_OF_feed 42 = .ok (.invokevirtual 50, 3) := by decide +kernel
theorem d_OF_feed_45 : decode b_OF_feed 45 = .ok (.aload 5, 2) := by decide +kernel
theorem d_OF_feed_47 : decode b_OF_feed 47 = .ok (.iload_n 3, 1) := by decide +kernel
theorem d_OF_feed_48 : decode b_OF_feed 48 = .ok (.invokevirtual 50, 3) := by decide +kernel
theorem d_OF_feed_51 : decode b_OF_feed 51 = .ok (.aload 5, 2) := by decide +kernel
theorem d_OF_feed_53 : decode b_OF_feed 53 = .ok (.iload 4, 2) := by decide +kernel
theorem d_OF_feed_55 : decode b_OF_feed 55 = .ok (.invokevirtual 50, 3) := by decide +kernel
theorem d_OF_feed_58 : decode b_OF_feed 58 = .ok (.aload 5, 2) := by decide +kernel
theorem d_OF_feed_60 : decode b_OF_feed 60 = .ok (.getfield 38, 3) := by decide +kernel
theorem d_OF_feed_63 : decode b_OF_feed 63 = .ok (.ireturn, 1) := by decide +kernel
set_option maxHeartbeats 4000000 in
set_option maxRecDepth 100000 in
theorem c_OF_feed (l : Launch) (D : va_G) (h0 : Nat) (qa : Nat → Nat) (qk : Nat → ClassId) (a0 a1 a2 a3 : Int32) (sz : Nat) : Met l y_OF_feed (Cond.code y_OF_feed b_OF_feed 6 (some .int) :: bw) (xR 2 0 0) (va_Pc [.ref h0, .int a0, .int a1, .int a2, .int a3] (xP D [((qk 0), .byte)] sz [(h0, .inr (0, [.ref (qa 0), .ref (qa 1), .ref (qa 2), .int 0])), ((qa 0), .inr (1, [.ref (qa 3), .ref (qa 4), .int 0, .int 0, .int 0, .int 0, .int 0, .int (-1), .long 0, .int 0, .int 0, .int 0, .int 0, .int (-1), .int (-1)])), ((qa 3), .inr (4, [.ref (qa 5), .int 0, .int 0, .int 0, .ref (qa 6), .ref (qa 7), .ref (qa 8)])), ((qa 5), .inl ((qk 0), 8192, .inl (fun _ => 0)))])) (xQ (S := Unit) (fun _ => some (.int 16)) (fun _ => [(h0, .inr (0, [.ref (qa 0), .ref (qa 1), .ref (qa 2), .int 0]))]) (fun _ => []) D (va_A [(h0, .inr (0, [.ref (qa 0), .ref (qa 1), .ref (qa 2), .int 0])), ((qa 0), .inr (1, [.ref (qa 3), .ref (qa 4), .int 0, .int 0, .int 0, .int 0, .int 0, .int (-1), .long 0, .int 0, .int 0, .int 0, .int 0, .int (-1), .int (-1)])), ((qa 3), .inr (4, [.ref (qa 5), .int 0, .int 0, .int 0, .ref (qa 6), .ref (qa 7), .ref (qa 8)])), ((qa 5), .inl ((qk 0), 8192, .inl (fun _ => 0)))] sz)) 0 0 (va_A [(h0, .inr (0, [.ref (qa 0), .ref (qa 1), .ref (qa 2), .int 0])), ((qa 0), .inr (1, [.ref (qa 3), .ref (qa 4), .int 0, .int 0, .int 0, .int 0, .int 0, .int (-1), .long 0, .int 0, .int 0, .int 0, .int 0, .int (-1), .int (-1)])), ((qa 3), .inr (4, [.ref (qa 5), .int 0, .int 0, .int 0, .ref (qa 6), .ref (qa 7), .ref (qa 8)])), ((qa 5), .inl ((qk 0), 8192, .inl (fun _ => 0)))] sz) := by
  refine Met.ofW (cc := b_OF_feed) (maxL := 6) (ret := (some .int)) (by decide) rfl ?_
  intro p e s m args below meth c s₁ B hml hv
  obtain ⟨rfl, hsz, hP, hK, hD0, hN, hZ⟩ := hv
  have hx := B.exec
  have hb := B.bytes
  have hr := B.returns
  have hlocks := B.notSynchronized
  have hts : ∀ w ∈ bw, w.before _ s = true := fun w h => atoms_spec (ws := Cond.code y_OF_feed b_OF_feed 6 (some .int) :: bw) B.pre w (List.mem_cons_of_mem _ h)
  have hown : s.vm.findClass "ObjectForge" = some m.cls := findClass_of_methodNamed B.named
  subst hsz
  have hP0 := hP
  have hD := hD0.self (sz := s.heap.size)
  generalize hAe : va_A [(h0, .inr (0, [.ref (qa 0), .ref (qa 1), .ref (qa 2), .int 0])), ((qa 0), .inr (1, [.ref (qa 3), .ref (qa 4), .int 0, .int 0, .int 0, .int 0, .int 0, .int (-1), .long 0, .int 0, .int 0, .int 0, .int 0, .int (-1), .int (-1)])), ((qa 3), .inr (4, [.ref (qa 5), .int 0, .int 0, .int 0, .ref (qa 6), .ref (qa 7), .ref (qa 8)])), ((qa 5), .inl ((qk 0), 8192, .inl (fun _ => 0)))] s.heap.size = A at hD hZ ⊢
  have hA : ∀ q : Nat, s.heap.size ≤ q → A q := fun q h => by rw [← hAe]; exact Or.inr h
  have hS : va_S A s.heap s.heap [] := va_S.rf
  have hl := lv_entry ([.ref h0, .int a0, .int a1, .int a2, .int a3]) (n := 6) (Nat.le_of_ble_eq_true rfl)
  rw [lg_entry_eq]
  generalize (lg_sl ([.ref h0, .int a0, .int a1, .int a2, .int a3]) ++ List.replicate (6 - (lg_sl ([.ref h0, .int a0, .int a1, .int a2, .int a3])).length) Slot.unset).toArray = ls at hl ⊢
  have hl : lv_has ls 6 [(0, .ref h0), (1, .int a0), (2, .int a1), (3, .int a2), (4, .int a3)] := hl
  refine lv_aload_n hx hb d_OF_feed_0 rfl (lv_at hl 0 rfl) ?_
  refine va_get (D := D) (ci := 0) (v := .ref (qa 0)) (C := R_OF) (T := F_OF) (N := 4) hx hb hts i_OF hown hK hP 0 rfl rfl 0 (by decide) (hts _ w_150) (fun _ h9 => h9) rfl d_OF_feed_1 ?_
  refine va_get (D := D) (ci := 1) (v := .ref (qa 3)) (C := R_As) (T := F_As) (N := 15) hx hb hts i_As hown hK hP 1 rfl rfl 0 (by decide) (hts _ w_114) (fun _ h9 => h9) rfl d_OF_feed_4 ?_
  refine lv_astore (lv' := [(5, .ref (qa 3)), (0, .ref h0), (1, .int a0), (2, .int a1), (3, .int a2), (4, .int a3)]) hx hb d_OF_feed_7 hl (by decide) rfl (fun ls hl => ?_)
  refine lv_aload hx hb d_OF_feed_9 (lv_at hl 0 rfl) ?_
  refine va_get (D := D) (ci := 4) (v := .int 0) (C := R_So) (T := F_So) (N := 7) hx hb hts i_So hown hK hP 2 rfl rfl 1 (by decide) (hts _ w_36) (fun _ h9 => h9) rfl d_OF_feed_11 ?_
  refine lv_bipush (v := 16) hx hb d_OF_feed_14 (by decide) ?_
  refine lv_iadd hx hb d_OF_feed_16 ?_
  refine lv_topi (fun z1 ez1 => ?_)
  obtain rfl : z1 = 16 := ez1.trans (by decide)
  refine lv_sipush (v := 8192) hx hb d_OF_feed_17 (by decide) ?_
  refine lv_icmp_le (tgt := 33) hx hb d_OF_feed_20 (by decide) (fun _ => ?_) (fun q9 => absurd (by decide : ((16 : Int32) ≤ 8192)) q9)
  refine lv_aload hx hb d_OF_feed_33 (lv_at hl 0 rfl) ?_
  refine lv_iload_n hx hb d_OF_feed_35 rfl (lv_at hl 2 rfl) ?_
  refine xc_V (As := [.int a0]) (rest := []) (n := 1) (wc := [((qa 3), .inr (4, [.ref (qa 5), .int 0, .int 0, .int 0, .ref (qa 6), .ref (qa 7), .ref (qa 8)])), ((qa 5), .inl ((qk 0), 8192, .inl (fun _ => 0)))]) (wr := [(h0, .inr (0, [.ref (qa 0), .ref (qa 1), .ref (qa 2), .int 0])), ((qa 0), .inr (1, [.ref (qa 3), .ref (qa 4), .int 0, .int 0, .int 0, .int 0, .int 0, .int (-1), .long 0, .int 0, .int 0, .int 0, .int 0, .int (-1), .int (-1)]))]) (tc := [((qk 0), .byte)]) (tr := []) ⟨hx, hb, hml, hown, hts⟩ (c_So_appendWord_0 l D (qa 3) qa qk (fun _ => 0) a0 s.heap.size) rfl rfl w_221 w_218 w_219 w_220 w_3 (by decide +kernel) ⟨Nat.le_of_ble_eq_true rfl, Nat.le_of_ble_eq_true rfl⟩ hP hD hK hS hA hN hZ [2, 3] [0, 1] rfl rfl (by decide) (by decide) (by decide) [0] [] rfl rfl (ci := 4) (q0 := 0) (q := (R_So, F_So, 7)) rfl rfl rfl rfl hl.1 rfl (Nat.le_of_ble_eq_true rfl) d_OF_feed_36 ⟨Nat.le_of_ble_eq_true rfl, Nat.le_of_ble_eq_true rfl⟩ (fun u2 H locs hP hD hK hS => ?_)
  have hP : va_P D cls [(h0, .inr (0, [.ref (qa 0), .ref (qa 1), .ref (qa 2), .int 0])), ((qa 0), .inr (1, [.ref (qa 3), .ref (qa 4), .int 0, .int 0, .int 0, .int 0, .int 0, .int (-1), .long 0, .int 0, .int 0, .int 0, .int 0, .int (-1), .int (-1)])), ((qa 3), .inr (4, [.ref (qa 5), .int 4, .int 0, .int 0, .ref (qa 6), .ref (qa 7), .ref (qa 8)])), ((qa 5), .inl ((qk 0), 8192, .inl u2))] H := hP
  have hD : va_D A [(h0, .inr (0, [.ref (qa 0), .ref (qa 1), .ref (qa 2), .int 0])), ((qa 0), .inr (1, [.ref (qa 3), .ref (qa 4), .int 0, .int 0, .int 0, .int 0, .int 0, .int (-1), .long 0, .int 0, .int 0, .int 0, .int 0, .int (-1), .int (-1)])), ((qa 3), .inr (4, [.ref (qa 5), .int 4, .int 0, .int 0, .ref (qa 6), .ref (qa 7), .ref (qa 8)])), ((qa 5), .inl ((qk 0), 8192, .inl u2))] := hD
  have hK : va_K D cls [((qk 0), .byte)] s := hK
  refine W.eq (g2 := F0 m 39 ls []) rfl ?_
  refine lv_aload hx hb d_OF_feed_39 (lv_at hl 0 rfl) ?_
  refine lv_iload_n hx hb d_OF_feed_41 rfl (lv_at hl 3 rfl) ?_
  refine xc_V (As := [.int a1]) (rest := []) (n := 1) (wc := [((qa 3), .inr (4, [.ref (qa 5), .int 4, .int 0, .int 0, .ref (qa 6), .ref (qa 7), .ref (qa 8)])), ((qa 5), .inl ((qk 0), 8192, .inl u2))]) (wr := [(h0, .inr (0, [.ref (qa 0), .ref (qa 1), .ref (qa 2), .int 0])), ((qa 0), .inr (1, [.ref (qa 3), .ref (qa 4), .int 0, .int 0, .int 0, .int 0, .int 0, .int (-1), .long 0, .int 0, .int 0, .int 0, .int 0, .int (-1), .int (-1)]))]) (tc := [((qk 0), .byte)]) (tr := []) ⟨hx, hb, hml, hown, hts⟩ (c_So_appendWord_4 l D (qa 3) qa qk u2 a1 H.size) rfl rfl w_221 w_218 w_219 w_220 w_3 (by decide +kernel) ⟨Nat.le_of_ble_eq_true rfl, Nat.le_of_ble_eq_true rfl⟩ hP hD hK hS hA hN hZ [2, 3] [0, 1] rfl rfl (by decide) (by decide) (by decide) [0] [] rfl rfl (ci := 4) (q0 := 0) (q := (R_So, F_So, 7)) rfl rfl rfl rfl hl.1 rfl (Nat.le_of_ble_eq_true rfl) d_OF_feed_42 ⟨Nat.le_of_ble_eq_true rfl, Nat.le_of_ble_eq_true rfl⟩ (fun u3 H locs hP hD hK hS => ?_)
  have hP : va_P D cls [(h0, .inr (0, [.ref (qa 0), .ref (qa 1), .ref (qa 2), .int 0])), ((qa 0), .inr (1, [.ref (qa 3), .ref (qa 4), .int 0, .int 0, .int 0, .int 0, .int 0, .int (-1), .long 0, .int 0, .int 0, .int 0, .int 0, .int (-1), .int (-1)])), ((qa 3), .inr (4, [.ref (qa 5), .int 8, .int 0, .int 0, .ref (qa 6), .ref (qa 7), .ref (qa 8)])), ((qa 5), .inl ((qk 0), 8192, .inl u3))] H := hP
  have hD : va_D A [(h0, .inr (0, [.ref (qa 0), .ref (qa 1), .ref (qa 2), .int 0])), ((qa 0), .inr (1, [.ref (qa 3), .ref (qa 4), .int 0, .int 0, .int 0, .int 0, .int 0, .int (-1), .long 0, .int 0, .int 0, .int 0, .int 0, .int (-1), .int (-1)])), ((qa 3), .inr (4, [.ref (qa 5), .int 8, .int 0, .int 0, .ref (qa 6), .ref (qa 7), .ref (qa 8)])), ((qa 5), .inl ((qk 0), 8192, .inl u3))] := hD
  have hK : va_K D cls [((qk 0), .byte)] s := hK
  refine W.eq (g2 := F0 m 45 ls []) rfl ?_
  refine lv_aload hx hb d_OF_feed_45 (lv_at hl 0 rfl) ?_
  refine lv_iload_n hx hb d_OF_feed_47 rfl (lv_at hl 4 rfl) ?_
  refine xc_V (As := [.int a2]) (rest := []) (n := 1) (wc := [((qa 3), .inr (4, [.ref (qa 5), .int 8, .int 0, .int 0, .ref (qa 6), .ref (qa 7), .ref (qa 8)])), ((qa 5), .inl ((qk 0), 8192, .inl u3))]) (wr := [(h0, .inr (0, [.ref (qa 0), .ref (qa 1), .ref (qa 2), .int 0])), ((qa 0), .inr (1, [.ref (qa 3), .ref (qa 4), .int 0, .int 0, .int 0, .int 0, .int 0, .int (-1), .long 0, .int 0, .int 0, .int 0, .int 0, .int (-1), .int (-1)]))]) (tc := [((qk 0), .byte)]) (tr := []) ⟨hx, hb, hml, hown, hts⟩ (c_So_appendWord_8 l D (qa 3) qa qk u3 a2 H.size) rfl rfl w_221 w_218 w_219 w_220 w_3 (by decide +kernel) ⟨Nat.le_of_ble_eq_true rfl, Nat.le_of_ble_eq_true rfl⟩ hP hD hK hS hA hN hZ [2, 3] [0, 1] rfl rfl (by decide) (by decide) (by decide) [0] [] rfl rfl (ci := 4) (q0 := 0) (q := (R_So, F_So, 7)) rfl rfl rfl rfl hl.1 rfl (Nat.le_of_ble_eq_true rfl) d_OF_feed_48 ⟨Nat.le_of_ble_eq_true rfl, Nat.le_of_ble_eq_true rfl⟩ (fun u4 H locs hP hD hK hS => ?_)
  have hP : va_P D cls [(h0, .inr (0, [.ref (qa 0), .ref (qa 1), .ref (qa 2), .int 0])), ((qa 0), .inr (1, [.ref (qa 3), .ref (qa 4), .int 0, .int 0, .int 0, .int 0, .int 0, .int (-1), .long 0, .int 0, .int 0, .int 0, .int 0, .int (-1), .int (-1)])), ((qa 3), .inr (4, [.ref (qa 5), .int 12, .int 0, .int 0, .ref (qa 6), .ref (qa 7), .ref (qa 8)])), ((qa 5), .inl ((qk 0), 8192, .inl u4))] H := hP
  have hD : va_D A [(h0, .inr (0, [.ref (qa 0), .ref (qa 1), .ref (qa 2), .int 0])), ((qa 0), .inr (1, [.ref (qa 3), .ref (qa 4), .int 0, .int 0, .int 0, .int 0, .int 0, .int (-1), .long 0, .int 0, .int 0, .int 0, .int 0, .int (-1), .int (-1)])), ((qa 3), .inr (4, [.ref (qa 5), .int 12, .int 0, .int 0, .ref (qa 6), .ref (qa 7), .ref (qa 8)])), ((qa 5), .inl ((qk 0), 8192, .inl u4))] := hD
  have hK : va_K D cls [((qk 0), .byte)] s := hK
  refine W.eq (g2 := F0 m 51 ls []) rfl ?_
  refine lv_aload hx hb d_OF_feed_51 (lv_at hl 0 rfl) ?_
  refine lv_iload hx hb d_OF_feed_53 (lv_at hl 5 rfl) ?_
  refine xc_V (As := [.int a3]) (rest := []) (n := 1) (wc := [((qa 3), .inr (4, [.ref (qa 5), .int 12, .int 0, .int 0, .ref (qa 6), .ref (qa 7), .ref (qa 8)])), ((qa 5), .inl ((qk 0), 8192, .inl u4))]) (wr := [(h0, .inr (0, [.ref (qa 0), .ref (qa 1), .ref (qa 2), .int 0])), ((qa 0), .inr (1, [.ref (qa 3), .ref (qa 4), .int 0, .int 0, .int 0, .int 0, .int 0, .int (-1), .long 0, .int 0, .int 0, .int 0, .int 0, .int (-1), .int (-1)]))]) (tc := [((qk 0), .byte)]) (tr := []) ⟨hx, hb, hml, hown, hts⟩ (c_So_appendWord_12 l D (qa 3) qa qk u4 a3 H.size) rfl rfl w_221 w_218 w_219 w_220 w_3 (by decide +kernel) ⟨Nat.le_of_ble_eq_true rfl, Nat.le_of_ble_eq_true rfl⟩ hP hD hK hS hA hN hZ [2, 3] [0, 1] rfl rfl (by decide) (by decide) (by decide) [0] [] rfl rfl (ci := 4) (q0 := 0) (q := (R_So, F_So, 7)) rfl rfl rfl rfl hl.1 rfl (Nat.le_of_ble_eq_true rfl) d_OF_feed_55 ⟨Nat.le_of_ble_eq_true rfl, Nat.le_of_ble_eq_true rfl⟩ (fun u5 H locs hP hD hK hS => ?_)
  have hP : va_P D cls [(h0, .inr (0, [.ref (qa 0), .ref (qa 1), .ref (qa 2), .int 0])), ((qa 0), .inr (1, [.ref (qa 3), .ref (qa 4), .int 0, .int 0, .int 0, .int 0, .int 0, .int (-1), .long 0, .int 0, .int 0, .int 0, .int 0, .int (-1), .int (-1)])), ((qa 3), .inr (4, [.ref (qa 5), .int 16, .int 0, .int 0, .ref (qa 6), .ref (qa 7), .ref (qa 8)])), ((qa 5), .inl ((qk 0), 8192, .inl u5))] H := hP
  have hD : va_D A [(h0, .inr (0, [.ref (qa 0), .ref (qa 1), .ref (qa 2), .int 0])), ((qa 0), .inr (1, [.ref (qa 3), .ref (qa 4), .int 0, .int 0, .int 0, .int 0, .int 0, .int (-1), .long 0, .int 0, .int 0, .int 0, .int 0, .int (-1), .int (-1)])), ((qa 3), .inr (4, [.ref (qa 5), .int 16, .int 0, .int 0, .ref (qa 6), .ref (qa 7), .ref (qa 8)])), ((qa 5), .inl ((qk 0), 8192, .inl u5))] := hD
  have hK : va_K D cls [((qk 0), .byte)] s := hK
  refine W.eq (g2 := F0 m 58 ls []) rfl ?_
  refine lv_aload hx hb d_OF_feed_58 (lv_at hl 0 rfl) ?_
  refine va_get (D := D) (ci := 4) (v := .int 16) (C := R_So) (T := F_So) (N := 7) hx hb hts i_So hown hK hP 2 rfl rfl 1 (by decide) (hts _ w_36) (fun _ h9 => h9) rfl d_OF_feed_60 ?_
  exact xr_i hx hb hr hlocks hP hD hK hS (()) [0] rfl rfl (by decide) [] rfl rfl d_OF_feed_63

theorem d_Ar_fill_0 : decode b_Ar_fill 0 = .ok (.iconst 0, 1) := by decide +kernel
theorem d_Ar_fill_1 : decode b_Ar_fill 1 = .ok (.istore_n 2, 1) := by decide +kernel
theorem d_Ar_fill_2 : decode b_Ar_fill 2 = .ok (.aload_n 0, 1) := by decide +kernel
theorem d_Ar_fill_3 : decode b_Ar_fill 3 = .ok (.arraylength, 1) := by decide +kernel
theorem d_Ar_fill_4 : decode b_Ar_fill 4 = .ok (.istore_n 3, 1) := by decide +kernel
theorem d_Ar_fill_5 : decode b_Ar_fill 5 = .ok (.iload_n 2, 1) := by decide +kernel
theorem d_Ar_fill_6 : decode b_Ar_fill 6 = .ok (.iload_n 3, 1) := by decide +kernel
theorem d_Ar_fill_7 : decode b_Ar_fill 7 = .ok (.if_icmp .ge 13, 3) := by decide +kernel
theorem d_Ar_fill_10 : decode b_Ar_fill 10 = .ok (.aload_n 0, 1) := by decide +kernel
theorem d_Ar_fill_11 : decode b_Ar_fill 11 = .ok (.iload_n 2, 1) := by decide +kernel
theorem d_Ar_fill_12 : decode b_Ar_fill 12 = .ok (.iload_n 1, 1) := by decide +kernel
theorem d_Ar_fill_13 : decode b_Ar_fill 13 = .ok (.iastore, 1) := by decide +kernel
theorem d_Ar_fill_14 : decode b_Ar_fill 14 = .ok (.iinc 2 1, 3) := by decide +kernel
theorem d_Ar_fill_17 : decode b_Ar_fill 17 = .ok (.goto (-12), 3) := by decide +kernel
theorem d_Ar_fill_20 : decode b_Ar_fill 20 = .ok (.return_, 1) := by decide +kernel
set_option maxHeartbeats 4000000 in
set_option maxRecDepth 100000 in
theorem c_Ar_fill (l : Launch) (D : va_G) (h0 : Nat) (cz : ClassId) (f : Nat → Int32) (sz : Nat) : Met l y_Ar_fill (Cond.code y_Ar_fill b_Ar_fill 4 none :: bw) (xR 1 0 0) (va_Pc [.ref h0, .int 0] (xP D [(cz, .int)] sz [(h0, .inl (cz, 3, .inl f))])) (xQ (S := (Nat → Int32)) (fun u => none) (fun u => [(h0, .inl (cz, 3, .inl u))]) (fun u => [(cz, .int)]) D (va_A [(h0, .inl (cz, 3, .inl f))] sz)) 0 0 (va_A [(h0, .inl (cz, 3, .inl f))] sz) := by
  refine Met.ofW (cc := b_Ar_fill) (maxL := 4) (ret := none) (by decide) rfl ?_
  intro p e s m args below meth c s₁ B hml hv
  obtain ⟨rfl, hsz, hP, hK, hD0, hN, hZ⟩ := hv
  have hx := B.exec
  have hb := B.bytes
  have hr := B.returns
  have hlocks := B.notSynchronized
  have hts : ∀ w ∈ bw, w.before _ s = true := fun w h => atoms_spec (ws := Cond.code y_Ar_fill b_Ar_fill 4 none :: bw) B.pre w (List.mem_cons_of_mem _ h)
  have hown : s.vm.findClass "java/util/Arrays" = some m.cls := findClass_of_methodNamed B.named
  subst hsz
  have hP0 := hP
  have hD := hD0.self (sz := s.heap.size)
  generalize hAe : va_A [(h0, .inl (cz, 3, .inl f))] s.heap.size = A at hD hZ ⊢
  have hA : ∀ q : Nat, s.heap.size ≤ q → A q := fun q h => by rw [← hAe]; exact Or.inr h
  have hS : va_S A s.heap s.heap [] := va_S.rf
  have hl := lv_entry ([.ref h0, .int 0]) (n := 4) (Nat.le_of_ble_eq_true rfl)
  rw [lg_entry_eq]
  generalize (lg_sl ([.ref h0, .int 0]) ++ List.replicate (4 - (lg_sl ([.ref h0, .int 0])).length) Slot.unset).toArray = ls at hl ⊢
  have hl : lv_has ls 4 [(0, .ref h0), (1, .int 0)] := hl
  refine lv_iconst (v := 0) hx hb d_Ar_fill_0 (by decide) ?_
  refine lv_istore_n (lv' := [(2, .int 0), (0, .ref h0), (1, .int 0)]) hx hb d_Ar_fill_1 rfl hl (by decide) rfl (fun ls hl => ?_)
  refine lv_aload_n hx hb d_Ar_fill_2 rfl (lv_at hl 1 rfl) ?_
  refine va_alen (v := 3) hx hb hK hP 0 0 rfl rfl rfl d_Ar_fill_3 ?_
  refine lv_istore_n (lv' := [(3, .int 3), (2, .int 0), (0, .ref h0), (1, .int 0)]) hx hb d_Ar_fill_4 rfl hl (by decide) rfl (fun ls hl => ?_)
  refine lv_iload_n hx hb d_Ar_fill_5 rfl (lv_at hl 1 rfl) ?_
  refine lv_iload_n hx hb d_Ar_fill_6 rfl (lv_at hl 0 rfl) ?_
  refine lv_icmp_ge (tgt := 20) hx hb d_Ar_fill_7 (by decide) (fun q9 => absurd q9 (by decide : ¬ ((3 : Int32) ≤ 0))) (fun _ => ?_)
  refine lv_aload_n hx hb d_Ar_fill_10 rfl (lv_at hl 2 rfl) ?_
  refine lv_iload_n hx hb d_Ar_fill_11 rfl (lv_at hl 1 rfl) ?_
  refine lv_iload_n hx hb d_Ar_fill_12 rfl (lv_at hl 3 rfl) ?_
  refine va_iast hx hb hK hP hD hS 0 0 rfl rfl (by unfold vp_in; decide) d_Ar_fill_13 (fun H locs hP hD hS => ?_)
  obtain ⟨f1, ef1⟩ : ∃ z : Nat → Int32, z = (upd f (0 : Int32).toNatClampNeg 0) := ⟨_, rfl⟩
  have hP : va_P D cls [(h0, .inl (cz, 3, .inl f1))] H := by rw [ef1]; exact hP
  have hD : va_D A [(h0, .inl (cz, 3, .inl f1))] := by rw [ef1]; exact hD
  refine lv_iinc (v := 1) (lv' := [(2, .int 1), (3, .int 3), (0, .ref h0), (1, .int 0)]) hx hb d_Ar_fill_14 hl (k := 1) rfl (by decide) (by decide) rfl (fun ls hl => ?_)
  refine lv_goto (tgt := 5) hx hb d_Ar_fill_17 (by decide) ?_
  refine lv_iload_n hx hb d_Ar_fill_5 rfl (lv_at hl 0 rfl) ?_
  refine lv_iload_n hx hb d_Ar_fill_6 rfl (lv_at hl 1 rfl) ?_
  refine lv_icmp_ge (tgt := 20) hx hb d_Ar_fill_7 (by decide) (fun q9 => absurd q9 (by decide : ¬ ((3 : Int32) ≤ 1))) (fun _ => ?_)
  refine lv_aload_n hx hb d_Ar_fill_10 rfl (lv_at hl 2 rfl) ?_
  refine lv_iload_n hx hb d_Ar_fill_11 rfl (lv_at hl 0 rfl) ?_
  refine lv_iload_n hx hb d_Ar_fill_12 rfl (lv_at hl 3 rfl) ?_
  refine va_iast hx hb hK hP hD hS 0 0 rfl rfl (by unfold vp_in; decide) d_Ar_fill_13 (fun H locs hP hD hS => ?_)
  obtain ⟨f2, ef2⟩ : ∃ z : Nat → Int32, z = (upd f1 (1 : Int32).toNatClampNeg 0) := ⟨_, rfl⟩
  have hP : va_P D cls [(h0, .inl (cz, 3, .inl f2))] H := by rw [ef2]; exact hP
  have hD : va_D A [(h0, .inl (cz, 3, .inl f2))] := by rw [ef2]; exact hD
  refine lv_iinc (v := 2) (lv' := [(2, .int 2), (3, .int 3), (0, .ref h0), (1, .int 0)]) hx hb d_Ar_fill_14 hl (k := 0) rfl (by decide) (by decide) rfl (fun ls hl => ?_)
  refine lv_goto (tgt := 5) hx hb d_Ar_fill_17 (by decide) ?_
  refine lv_iload_n hx hb d_Ar_fill_5 rfl (lv_at hl 0 rfl) ?_
  refine lv_iload_n hx hb d_Ar_fill_6 rfl (lv_at hl 1 rfl) ?_
  refine lv_icmp_ge (tgt := 20) hx hb d_Ar_fill_7 (by decide) (fun q9 => absurd q9 (by decide : ¬ ((3 : Int32) ≤ 2))) (fun _ => ?_)
  refine lv_aload_n hx hb d_Ar_fill_10 rfl (lv_at hl 2 rfl) ?_
  refine lv_iload_n hx hb d_Ar_fill_11 rfl (lv_at hl 0 rfl) ?_
  refine lv_iload_n hx hb d_Ar_fill_12 rfl (lv_at hl 3 rfl) ?_
  refine va_iast hx hb hK hP hD hS 0 0 rfl rfl (by unfold vp_in; decide) d_Ar_fill_13 (fun H locs hP hD hS => ?_)
  obtain ⟨f3, ef3⟩ : ∃ z : Nat → Int32, z = (upd f2 (2 : Int32).toNatClampNeg 0) := ⟨_, rfl⟩
  have hP : va_P D cls [(h0, .inl (cz, 3, .inl f3))] H := by rw [ef3]; exact hP
  have hD : va_D A [(h0, .inl (cz, 3, .inl f3))] := by rw [ef3]; exact hD
  refine lv_iinc (v := 3) (lv' := [(2, .int 3), (3, .int 3), (0, .ref h0), (1, .int 0)]) hx hb d_Ar_fill_14 hl (k := 0) rfl (by decide) (by decide) rfl (fun ls hl => ?_)
  refine lv_goto (tgt := 5) hx hb d_Ar_fill_17 (by decide) ?_
  refine lv_iload_n hx hb d_Ar_fill_5 rfl (lv_at hl 0 rfl) ?_
  refine lv_iload_n hx hb d_Ar_fill_6 rfl (lv_at hl 1 rfl) ?_
  refine lv_icmp_ge (tgt := 20) hx hb d_Ar_fill_7 (by decide) (fun _ => ?_) (fun q9 => absurd (by decide : ((3 : Int32) ≤ 3)) q9)
  exact xr_v hx hb hr hlocks hP hD hK hS (f3) [0] rfl rfl (by decide) [0] rfl rfl d_Ar_fill_20

theorem d_Un_makeEmpty_0 : decode b_Un_makeEmpty 0 = .ok (.aload_n 0, 1) := by decide +kernel
theorem d_Un_makeEmpty_1 : decode b_Un_makeEmpty 1 = .ok (.getfield 16, 3) := by decide +kernel
theorem d_Un_makeEmpty_4 : decode b_Un_makeEmpty 4 = .ok (.iconst 0, 1) := by decide +kernel
theorem d_Un_makeEmpty_5 : decode b_Un_makeEmpty 5 = .ok (.invokestatic 37, 3) := by decide +kernel
theorem d_Un_makeEmpty_8 : decode b_Un_makeEmpty 8 = .ok (.aload_n 0, 1) := by decide +kernel
theorem d_Un_makeEmpty_9 : decode b_Un_makeEmpty 9 = .ok (.getfield 26, 3) := by decide +kernel
theorem d_Un_makeEmpty_12 : decode b_Un_makeEmpty 12 = .ok (.iconst 0, 1) := by decide +kernel
theorem d_Un_makeEmpty_13 : decode b_Un_makeEmpty 13 = .ok (.putfield 43, 3) := by decide +kernel
theorem d_Un_makeEmpty_16 : decode b_Un_makeEmpty 16 = .ok (.aload_n 0, 1) := by decide +kernel
theorem d_Un_makeEmpty_17 : decode b_Un_makeEmpty 17 = .ok (.getfield 33, 3) := by decide +kernel
theorem d_Un_makeEmpty_20 : decode b_Un_makeEmpty 20 = .ok (.iconst 0, 1) := by decide +kernel
theorem d_Un_makeEmpty_21 : decode b_Un_makeEmpty 21 = .ok (.putfield 47, 3) := by decide +kernel
theorem d_Un_makeEmpty_24 : decode b_Un_makeEmpty 24 = .ok (.return_, 1) := by decide +kernel
set_option maxHeartbeats 4000000 in
set_option maxRecDepth 100000 in
theorem c_Un_makeEmpty (l : Launch) (D : va_G) (h0 : Nat) (qa : Nat → Nat) (qk : Nat → ClassId) (sz : Nat) : Met l y_Un_makeEmpty (Cond.code y_Un_makeEmpty b_Un_makeEmpty 1 none :: bw) (xR 2 0 0) (va_Pc [.ref h0] (xP D [((qk 1), .int)] sz [(h0, .inr (6, [.ref (qa 9), .ref (qa 10), .ref (qa 11), .ref (qa 12), .ref (qa 13)])), ((qa 10), .inl ((qk 1), 3, .inl (fun _ => 0))), ((qa 12), .inr (5, [.ref (qa 14), .ref (qa 15), .ref (qa 16), .ref (qa 17), .ref (qa 18), .ref (qa 19), .ref (qa 20), .int 0])), ((qa 13), .inr (3, [.ref (qa 21), .ref (qa 22), .ref (qa 23), .ref (qa 24), .ref (qa 25), .ref (qa 26), .int 0]))])) (xQ (S := (Nat → Int32)) (fun u => none) (fun u => [(h0, .inr (6, [.ref (qa 9), .ref (qa 10), .ref (qa 11), .ref (qa 12), .ref (qa 13)])), ((qa 10), .inl ((qk 1), 3, .inl u)), ((qa 12), .inr (5, [.ref (qa 14), .ref (qa 15), .ref (qa 16), .ref (qa 17), .ref (qa 18), .ref (qa 19), .ref (qa 20), .int 0])), ((qa 13), .inr (3, [.ref (qa 21), .ref (qa 22), .ref (qa 23), .ref (qa 24), .ref (qa 25), .ref (qa 26), .int 0]))]) (fun u => [((qk 1), .int)]) D (va_A [(h0, .inr (6, [.ref (qa 9), .ref (qa 10), .ref (qa 11), .ref (qa 12), .ref (qa 13)])), ((qa 10), .inl ((qk 1), 3, .inl (fun _ => 0))), ((qa 12), .inr (5, [.ref (qa 14), .ref (qa 15), .ref (qa 16), .ref (qa 17), .ref (qa 18), .ref (qa 19), .ref (qa 20), .int 0])), ((qa 13), .inr (3, [.ref (qa 21), .ref (qa 22), .ref (qa 23), .ref (qa 24), .ref (qa 25), .ref (qa 26), .int 0]))] sz)) 0 0 (va_A [(h0, .inr (6, [.ref (qa 9), .ref (qa 10), .ref (qa 11), .ref (qa 12), .ref (qa 13)])), ((qa 10), .inl ((qk 1), 3, .inl (fun _ => 0))), ((qa 12), .inr (5, [.ref (qa 14), .ref (qa 15), .ref (qa 16), .ref (qa 17), .ref (qa 18), .ref (qa 19), .ref (qa 20), .int 0])), ((qa 13), .inr (3, [.ref (qa 21), .ref (qa 22), .ref (qa 23), .ref (qa 24), .ref (qa 25), .ref (qa 26), .int 0]))] sz) := by
  refine Met.ofW (cc := b_Un_makeEmpty) (maxL := 1) (ret := none) (by decide) rfl ?_
  intro p e s m args below meth c s₁ B hml hv
  obtain ⟨rfl, hsz, hP, hK, hD0, hN, hZ⟩ := hv
  have hx := B.exec
  have hb := B.bytes
  have hr := B.returns
  have hlocks := B.notSynchronized
  have hts : ∀ w ∈ bw, w.before _ s = true := fun w h => atoms_spec (ws := Cond.code y_Un_makeEmpty b_Un_makeEmpty 1 none :: bw) B.pre w (List.mem_cons_of_mem _ h)
  have hown : s.vm.findClass "ObjectForge$Unit" = some m.cls := findClass_of_methodNamed B.named
  subst hsz
  have hP0 := hP
  have hD := hD0.self (sz := s.heap.size)
  generalize hAe : va_A [(h0, .inr (6, [.ref (qa 9), .ref (qa 10), .ref (qa 11), .ref (qa 12), .ref (qa 13)])), ((qa 10), .inl ((qk 1), 3, .inl (fun _ => 0))), ((qa 12), .inr (5, [.ref (qa 14), .ref (qa 15), .ref (qa 16), .ref (qa 17), .ref (qa 18), .ref (qa 19), .ref (qa 20), .int 0])), ((qa 13), .inr (3, [.ref (qa 21), .ref (qa 22), .ref (qa 23), .ref (qa 24), .ref (qa 25), .ref (qa 26), .int 0]))] s.heap.size = A at hD hZ ⊢
  have hA : ∀ q : Nat, s.heap.size ≤ q → A q := fun q h => by rw [← hAe]; exact Or.inr h
  have hS : va_S A s.heap s.heap [] := va_S.rf
  have hl := lv_entry ([.ref h0]) (n := 1) (Nat.le_of_ble_eq_true rfl)
  rw [lg_entry_eq]
  generalize (lg_sl ([.ref h0]) ++ List.replicate (1 - (lg_sl ([.ref h0])).length) Slot.unset).toArray = ls at hl ⊢
  have hl : lv_has ls 1 [(0, .ref h0)] := hl
  refine lv_aload_n hx hb d_Un_makeEmpty_0 rfl (lv_at hl 0 rfl) ?_
  refine va_get (D := D) (ci := 6) (v := .ref (qa 10)) (C := R_Un) (T := F_Un) (N := 5) hx hb hts i_Un hown hK hP 0 rfl rfl 1 (by decide) (hts _ w_103) (fun _ h9 => h9) rfl d_Un_makeEmpty_1 ?_
  refine lv_iconst (v := 0) hx hb d_Un_makeEmpty_4 (by decide) ?_
  refine xc_S (As := [.ref (qa 10), .int 0]) (rest := []) (n := 2) (wc := [((qa 10), .inl ((qk 1), 3, .inl (fun _ => 0)))]) (wr := [(h0, .inr (6, [.ref (qa 9), .ref (qa 10), .ref (qa 11), .ref (qa 12), .ref (qa 13)])), ((qa 12), .inr (5, [.ref (qa 14), .ref (qa 15), .ref (qa 16), .ref (qa 17), .ref (qa 18), .ref (qa 19), .ref (qa 20), .int 0])), ((qa 13), .inr (3, [.ref (qa 21), .ref (qa 22), .ref (qa 23), .ref (qa 24), .ref (qa 25), .ref (qa 26), .int 0]))]) (tc := [((qk 1), .int)]) (tr := []) ⟨hx, hb, hml, hown, hts⟩ (c_Ar_fill l D (qa 10) (qk 1) (fun _ => 0) s.heap.size) rfl rfl w_261 w_259 w_260 w_14 (by decide +kernel) ⟨Nat.le_of_ble_eq_true rfl, Nat.le_of_ble_eq_true rfl⟩ hP hD hK hS hA hN hZ [1] [0, 2, 3] rfl rfl (by decide) (by decide) (by decide) [0] [] rfl rfl rfl hl.1 rfl (Nat.le_of_ble_eq_true rfl) d_Un_makeEmpty_5 ⟨Nat.le_of_ble_eq_true rfl, Nat.le_of_ble_eq_true rfl⟩ (fun u1 H locs hP hD hK hS => ?_)
  have hP : va_P D cls [(h0, .inr (6, [.ref (qa 9), .ref (qa 10), .ref (qa 11), .ref (qa 12), .ref (qa 13)])), ((qa 12), .inr (5, [.ref (qa 14), .ref (qa 15), .ref (qa 16), .ref (qa 17), .ref (qa 18), .ref (qa 19), .ref (qa 20), .int 0])), ((qa 13), .inr (3, [.ref (qa 21), .ref (qa 22), .ref (qa 23), .ref (qa 24), .ref (qa 25), .ref (qa 26), .int 0])), ((qa 10), .inl ((qk 1), 3, .inl u1))] H := hP
  have hD : va_D A [(h0, .inr (6, [.ref (qa 9), .ref (qa 10), .ref (qa 11), .ref (qa 12), .ref (qa 13)])), ((qa 12), .inr (5, [.ref (qa 14), .ref (qa 15), .ref (qa 16), .ref (qa 17), .ref (qa 18), .ref (qa 19), .ref (qa 20), .int 0])), ((qa 13), .inr (3, [.ref (qa 21), .ref (qa 22), .ref (qa 23), .ref (qa 24), .ref (qa 25), .ref (qa 26), .int 0])), ((qa 10), .inl ((qk 1), 3, .inl u1))] := hD
  have hK : va_K D cls [((qk 1), .int)] s := hK
  refine W.eq (g2 := F0 m 8 ls []) rfl ?_
  refine lv_aload_n hx hb d_Un_makeEmpty_8 rfl (lv_at hl 0 rfl) ?_
  refine va_get (D := D) (ci := 6) (v := .ref (qa 12)) (C := R_Un) (T := F_Un) (N := 5) hx hb hts i_Un hown hK hP 0 rfl rfl 3 (by decide) (hts _ w_107) (fun _ h9 => h9) rfl d_Un_makeEmpty_9 ?_
  refine lv_iconst (v := 0) hx hb d_Un_makeEmpty_12 (by decide) ?_
  refine va_put (D := D) (ci := 5) (v := .int 0) (ty := .int) (C := R_Sy) (T := F_Sy) (N := 8) hx hb hts i_Sy t_Sy t_Sy_ok n_Sy hown hK hP hD hS 1 rfl rfl 7 (by decide) (hts _ w_71) (fun _ h9 => h9) rfl (by decide +kernel) rfl rfl (Nat.le_of_ble_eq_true rfl) d_Un_makeEmpty_13 (fun H locs hP hD hS => ?_)
  have hP : va_P D cls [(h0, .inr (6, [.ref (qa 9), .ref (qa 10), .ref (qa 11), .ref (qa 12), .ref (qa 13)])), ((qa 12), .inr (5, [.ref (qa 14), .ref (qa 15), .ref (qa 16), .ref (qa 17), .ref (qa 18), .ref (qa 19), .ref (qa 20), .int 0])), ((qa 13), .inr (3, [.ref (qa 21), .ref (qa 22), .ref (qa 23), .ref (qa 24), .ref (qa 25), .ref (qa 26), .int 0])), ((qa 10), .inl ((qk 1), 3, .inl u1))] H := hP
  have hD : va_D A [(h0, .inr (6, [.ref (qa 9), .ref (qa 10), .ref (qa 11), .ref (qa 12), .ref (qa 13)])), ((qa 12), .inr (5, [.ref (qa 14), .ref (qa 15), .ref (qa 16), .ref (qa 17), .ref (qa 18), .ref (qa 19), .ref (qa 20), .int 0])), ((qa 13), .inr (3, [.ref (qa 21), .ref (qa 22), .ref (qa 23), .ref (qa 24), .ref (qa 25), .ref (qa 26), .int 0])), ((qa 10), .inl ((qk 1), 3, .inl u1))] := hD
  refine lv_aload_n hx hb d_Un_makeEmpty_16 rfl (lv_at hl 0 rfl) ?_
  refine va_get (D := D) (ci := 6) (v := .ref (qa 13)) (C := R_Un) (T := F_Un) (N := 5) hx hb hts i_Un hown hK hP 0 rfl rfl 4 (by decide) (hts _ w_110) (fun _ h9 => h9) rfl d_Un_makeEmpty_17 ?_
  refine lv_iconst (v := 0) hx hb d_Un_makeEmpty_20 (by decide) ?_
  refine va_put (D := D) (ci := 3) (v := .int 0) (ty := .int) (C := R_Re) (T := F_Re) (N := 7) hx hb hts i_Re t_Re t_Re_ok n_Re hown hK hP hD hS 2 rfl rfl 6 (by decide) (hts _ w_97) (fun _ h9 => h9) rfl (by decide +kernel) rfl rfl (Nat.le_of_ble_eq_true rfl) d_Un_makeEmpty_21 (fun H locs hP hD hS => ?_)
  have hP : va_P D cls [(h0, .inr (6, [.ref (qa 9), .ref (qa 10), .ref (qa 11), .ref (qa 12), .ref (qa 13)])), ((qa 12), .inr (5, [.ref (qa 14), .ref (qa 15), .ref (qa 16), .ref (qa 17), .ref (qa 18), .ref (qa 19), .ref (qa 20), .int 0])), ((qa 13), .inr (3, [.ref (qa 21), .ref (qa 22), .ref (qa 23), .ref (qa 24), .ref (qa 25), .ref (qa 26), .int 0])), ((qa 10), .inl ((qk 1), 3, .inl u1))] H := hP
  have hD : va_D A [(h0, .inr (6, [.ref (qa 9), .ref (qa 10), .ref (qa 11), .ref (qa 12), .ref (qa 13)])), ((qa 12), .inr (5, [.ref (qa 14), .ref (qa 15), .ref (qa 16), .ref (qa 17), .ref (qa 18), .ref (qa 19), .ref (qa 20), .int 0])), ((qa 13), .inr (3, [.ref (qa 21), .ref (qa 22), .ref (qa 23), .ref (qa 24), .ref (qa 25), .ref (qa 26), .int 0])), ((qa 10), .inl ((qk 1), 3, .inl u1))] := hD
  exact xr_v hx hb hr hlocks hP hD hK hS (u1) [0, 3, 1, 2] rfl rfl (by decide) [0] rfl rfl d_Un_makeEmpty_24

theorem d_So_kindOf_0 : decode b_So_kindOf 0 = .ok (.iload_n 1, 1) := by decide +kernel
theorem d_So_kindOf_1 : decode b_So_kindOf 1 = .ok (.ifCond .lt 20, 3) := by decide +kernel
theorem d_So_kindOf_4 : decode b_So_kindOf 4 = .ok (.iload_n 1, 1) := by decide +kernel
theorem d_So_kindOf_5 : decode b_So_kindOf 5 = .ok (.aload_n 0, 1) := by decide +kernel
theorem d_So_kindOf_6 : decode b_So_kindOf 6 = .ok (.getfield 29, 3) := by decide +kernel
theorem d_So_kindOf_9 : decode b_So_kindOf 9 = .ok (.if_icmp .ge 12, 3) := by decide +kernel
theorem d_So_kindOf_21 : decode b_So_kindOf 21 = .ok (.iconst 0, 1) := by decide +kernel
theorem d_So_kindOf_22 : decode b_So_kindOf 22 = .ok (.ireturn, 1) := by decide +kernel
set_option maxHeartbeats 4000000 in
set_option maxRecDepth 100000 in
theorem c_So_kindOf (l : Launch) (D : va_G) (h0 : Nat) (qa : Nat → Nat) (sz : Nat) : Met l y_So_kindOf (Cond.code y_So_kindOf b_So_kindOf 2 (some .int) :: bw) (xR 1 0 0) (va_Pc [.ref h0, .int 0] (xP D [] sz [(h0, .inr (4, [.ref (qa 5), .int 0, .int 0, .int 0, .ref (qa 6), .ref (qa 7), .ref (qa 8)]))])) (xQ (S := Unit) (fun _ => some (.int 0)) (fun _ => [(h0, .inr (4, [.ref (qa 5), .int 0, .int 0, .int 0, .ref (qa 6), .ref (qa 7), .ref (qa 8)]))]) (fun _ => []) D (va_A [(h0, .inr (4, [.ref (qa 5), .int 0, .int 0, .int 0, .ref (qa 6), .ref (qa 7), .ref (qa 8)]))] sz)) 0 0 (va_A [(h0, .inr (4, [.ref (qa 5), .int 0, .int 0, .int 0, .ref (qa 6), .ref (qa 7), .ref (qa 8)]))] sz) := by
  refine Met.ofW (cc := b_So_kindOf) (maxL := 2) (ret := (some .int)) (by decide) rfl ?_
  intro p e s m args below meth c s₁ B hml hv
  obtain ⟨rfl, hsz, hP, hK, hD0, hN, hZ⟩ := hv
  have hx := B.exec
  have hb := B.bytes
  have hr := B.returns
  have hlocks := B.notSynchronized
  have hts : ∀ w ∈ bw, w.before _ s = true := fun w h => atoms_spec (ws := Cond.code y_So_kindOf b_So_kindOf 2 (some .int) :: bw) B.pre w (List.mem_cons_of_mem _ h)
  have hown : s.vm.findClass "ObjectForge$Source" = some m.cls := findClass_of_methodNamed B.named
  subst hsz
  have hP0 := hP
  have hD := hD0.self (sz := s.heap.size)
  generalize hAe : va_A [(h0, .inr (4, [.ref (qa 5), .int 0, .int 0, .int 0, .ref (qa 6), .ref (qa 7), .ref (qa 8)]))] s.heap.size = A at hD hZ ⊢
  have hA : ∀ q : Nat, s.heap.size ≤ q → A q := fun q h => by rw [← hAe]; exact Or.inr h
  have hS : va_S A s.heap s.heap [] := va_S.rf
  have hl := lv_entry ([.ref h0, .int 0]) (n := 2) (Nat.le_of_ble_eq_true rfl)
  rw [lg_entry_eq]
  generalize (lg_sl ([.ref h0, .int 0]) ++ List.replicate (2 - (lg_sl ([.ref h0, .int 0])).length) Slot.unset).toArray = ls at hl ⊢
  have hl : lv_has ls 2 [(0, .ref h0), (1, .int 0)] := hl
  refine lv_iload_n hx hb d_So_kindOf_0 rfl (lv_at hl 1 rfl) ?_
  refine lv_if_lt (tgt := 21) hx hb d_So_kindOf_1 (by decide) (fun q9 => absurd q9 (by decide : ¬ ((0 : Int32) < 0))) (fun _ => ?_)
  refine lv_iload_n hx hb d_So_kindOf_4 rfl (lv_at hl 1 rfl) ?_
  refine lv_aload_n hx hb d_So_kindOf_5 rfl (lv_at hl 0 rfl) ?_
  refine va_get (D := D) (ci := 4) (v := .int 0) (C := R_So) (T := F_So) (N := 7) hx hb hts i_So hown hK hP 0 rfl rfl 2 (by decide) (hts _ w_40) (fun _ h9 => h9) rfl d_So_kindOf_6 ?_
  refine lv_icmp_ge (tgt := 21) hx hb d_So_kindOf_9 (by decide) (fun _ => ?_) (fun q9 => absurd (by decide : ((0 : Int32) ≤ 0)) q9)
  refine lv_iconst (v := 0) hx hb d_So_kindOf_21 (by decide) ?_
  exact xr_i hx hb hr hlocks hP hD hK hS (()) [0] rfl rfl (by decide) [] rfl rfl d_So_kindOf_22

theorem d_So_scanLine_0 : decode b_So_scanLine 0 = .ok (.aload_n 0, 1) := by decide +kernel
theorem d_So_scanLine_1 : decode b_So_scanLine 1 = .ok (.iconst 0, 1) := by decide +kernel
theorem d_So_scanLine_2 : decode b_So_scanLine 2 = .ok (.putfield 29, 3) := by decide +kernel
theorem d_So_scanLine_5 : decode b_So_scanLine 5 = .ok (.aload_n 0, 1) := by decide +kernel
theorem d_So_scanLine_6 : decode b_So_scanLine 6 = .ok (.iload_n 1, 1) := by decide +kernel
theorem d_So_scanLine_7 : decode b_So_scanLine 7 = .ok (.putfield 32, 3) := by decide +kernel
theorem d_So_scanLine_10 : decode b_So_scanLine 10 = .ok (.aload_n 0, 1) := by decide +kernel
theorem d_So_scanLine_11 : decode b_So_scanLine 11 = .ok (.getfield 32, 3) := by decide +kernel
theorem d_So_scanLine_14 : decode b_So_scanLine 14 = .ok (.iload_n 2, 1) := by decide +kernel
theorem d_So_scanLine_15 : decode b_So_scanLine 15 = .ok (.if_icmp .ge 40, 3) := by decide +kernel
theorem d_So_scanLine_55 : decode b_So_scanLine 55 = .ok (.iload_n 1, 1) := by decide +kernel
theorem d_So_scanLine_56 : decode b_So_scanLine 56 = .ok (.istore_n 3, 1) := by decide +kernel
theorem d_So_scanLine_57 : decode b_So_scanLine 57 = .ok (.iload_n 3, 1) := by decide +kernel
theorem d_So_scanLine_58 : decode b_So_scanLine 58 = .ok (.aload_n 0, 1) := by decide +kernel
theorem d_So_scanLine_59 : decode b_So_scanLine 59 = .ok (.getfield 32, 3) := by decide +kernel
theorem d_So_scanLine_62 : decode b_So_scanLine 62 = .ok (.if_icmp .ge 18, 3) := by decide +kernel
theorem d_So_scanLine_80 : decode b_So_scanLine 80 = .ok (.aload_n 0, 1) := by decide +kernel
theorem d_So_scanLine_81 : decode b_So_scanLine 81 = .ok (.getfield 32, 3) := by decide +kernel
theorem d_So_scanLine_84 : decode b_So_scanLine 84 = .ok (.ireturn, 1) := by decide +kernel
set_option maxHeartbeats 4000000 in
set_option maxRecDepth 100000 in
theorem c_So_scanLine (l : Launch) (D : va_G) (h0 : Nat) (qa : Nat → Nat) (sz : Nat) : Met l y_So_scanLine (Cond.code y_So_scanLine b_So_scanLine 4 (some .int) :: bw) (xR 1 0 0) (va_Pc [.ref h0, .int 0, .int 0] (xP D [] sz [(h0, .inr (4, [.ref (qa 5), .int 0, .int 0, .int 0, .ref (qa 6), .ref (qa 7), .ref (qa 8)]))])) (xQ (S := Unit) (fun _ => some (.int 0)) (fun _ => [(h0, .inr (4, [.ref (qa 5), .int 0, .int 0, .int 0, .ref (qa 6), .ref (qa 7), .ref (qa 8)]))]) (fun _ => []) D (va_A [(h0, .inr (4, [.ref (qa 5), .int 0, .int 0, .int 0, .ref (qa 6), .ref (qa 7), .ref (qa 8)]))] sz)) 0 0 (va_A [(h0, .inr (4, [.ref (qa 5), .int 0, .int 0, .int 0, .ref (qa 6), .ref (qa 7), .ref (qa 8)]))] sz) := by
  refine Met.ofW (cc := b_So_scanLine) (maxL := 4) (ret := (some .int)) (by decide) rfl ?_
  intro p e s m args below meth c s₁ B hml hv
  obtain ⟨rfl, hsz, hP, hK, hD0, hN, hZ⟩ := hv
  have hx := B.exec
  have hb := B.bytes
  have hr := B.returns
  have hlocks := B.notSynchronized
  have hts : ∀ w ∈ bw, w.before _ s = true := fun w h => atoms_spec (ws := Cond.code y_So_scanLine b_So_scanLine 4 (some .int) :: bw) B.pre w (List.mem_cons_of_mem _ h)
  have hown : s.vm.findClass "ObjectForge$Source" = some m.cls := findClass_of_methodNamed B.named
  subst hsz
  have hP0 := hP
  have hD := hD0.self (sz := s.heap.size)
  generalize hAe : va_A [(h0, .inr (4, [.ref (qa 5), .int 0, .int 0, .int 0, .ref (qa 6), .ref (qa 7), .ref (qa 8)]))] s.heap.size = A at hD hZ ⊢
  have hA : ∀ q : Nat, s.heap.size ≤ q → A q := fun q h => by rw [← hAe]; exact Or.inr h
  have hS : va_S A s.heap s.heap [] := va_S.rf
  have hl := lv_entry ([.ref h0, .int 0, .int 0]) (n := 4) (Nat.le_of_ble_eq_true rfl)
  rw [lg_entry_eq]
  generalize (lg_sl ([.ref h0, .int 0, .int 0]) ++ List.replicate (4 - (lg_sl ([.ref h0, .int 0, .int 0])).length) Slot.unset).toArray = ls at hl ⊢
  have hl : lv_has ls 4 [(0, .ref h0), (1, .int 0), (2, .int 0)] := hl
  refine lv_aload_n hx hb d_So_scanLine_0 rfl (lv_at hl 0 rfl) ?_
  refine lv_iconst (v := 0) hx hb d_So_scanLine_1 (by decide) ?_
  refine va_put (D := D) (ci := 4) (v := .int 0) (ty := .int) (C := R_So) (T := F_So) (N := 7) hx hb hts i_So t_So t_So_ok n_So hown hK hP hD hS 0 rfl rfl 2 (by decide) (hts _ w_40) (fun _ h9 => h9) rfl (by decide +kernel) rfl rfl (Nat.le_of_ble_eq_true rfl) d_So_scanLine_2 (fun H locs hP hD hS => ?_)
  have hP : va_P D cls [(h0, .inr (4, [.ref (qa 5), .int 0, .int 0, .int 0, .ref (qa 6), .ref (qa 7), .ref (qa 8)]))] H := hP
  have hD : va_D A [(h0, .inr (4, [.ref (qa 5), .int 0, .int 0, .int 0, .ref (qa 6), .ref (qa 7), .ref (qa 8)]))] := hD
  refine lv_aload_n hx hb d_So_scanLine_5 rfl (lv_at hl 0 rfl) ?_
  refine lv_iload_n hx hb d_So_scanLine_6 rfl (lv_at hl 1 rfl) ?_
  refine va_put (D := D) (ci := 4) (v := .int 0) (ty := .int) (C := R_So) (T := F_So) (N := 7) hx hb hts i_So t_So t_So_ok n_So hown hK hP hD hS 0 rfl rfl 3 (by decide) (hts _ w_41) (fun _ h9 => h9) rfl (by decide +kernel) rfl rfl (Nat.le_of_ble_eq_true rfl) d_So_scanLine_7 (fun H locs hP hD hS => ?_)
  have hP : va_P D cls [(h0, .inr (4, [.ref (qa 5), .int 0, .int 0, .int 0, .ref (qa 6), .ref (qa 7), .ref (qa 8)]))] H := hP
  have hD : va_D A [(h0, .inr (4, [.ref (qa 5), .int 0, .int 0, .int 0, .ref (qa 6), .ref (qa 7), .ref (qa 8)]))] := hD
  refine lv_aload_n hx hb d_So_scanLine_10 rfl (lv_at hl 0 rfl) ?_
  refine va_get (D := D) (ci := 4) (v := .int 0) (C := R_So) (T := F_So) (N := 7) hx hb hts i_So hown hK hP 0 rfl rfl 3 (by decide) (hts _ w_41) (fun _ h9 => h9) rfl d_So_scanLine_11 ?_
  refine lv_iload_n hx hb d_So_scanLine_14 rfl (lv_at hl 2 rfl) ?_
  refine lv_icmp_ge (tgt := 55) hx hb d_So_scanLine_15 (by decide) (fun _ => ?_) (fun q9 => absurd (by decide : ((0 : Int32) ≤ 0)) q9)
  refine lv_iload_n hx hb d_So_scanLine_55 rfl (lv_at hl 1 rfl) ?_
  refine lv_istore_n (lv' := [(3, .int 0), (0, .ref h0), (1, .int 0), (2, .int 0)]) hx hb d_So_scanLine_56 rfl hl (by decide) rfl (fun ls hl => ?_)
  refine lv_iload_n hx hb d_So_scanLine_57 rfl (lv_at hl 0 rfl) ?_
  refine lv_aload_n hx hb d_So_scanLine_58 rfl (lv_at hl 1 rfl) ?_
  refine va_get (D := D) (ci := 4) (v := .int 0) (C := R_So) (T := F_So) (N := 7) hx hb hts i_So hown hK hP 0 rfl rfl 3 (by decide) (hts _ w_41) (fun _ h9 => h9) rfl d_So_scanLine_59 ?_
  refine lv_icmp_ge (tgt := 80) hx hb d_So_scanLine_62 (by decide) (fun _ => ?_) (fun q9 => absurd (by decide : ((0 : Int32) ≤ 0)) q9)
  refine lv_aload_n hx hb d_So_scanLine_80 rfl (lv_at hl 1 rfl) ?_
  refine va_get (D := D) (ci := 4) (v := .int 0) (C := R_So) (T := F_So) (N := 7) hx hb hts i_So hown hK hP 0 rfl rfl 3 (by decide) (hts _ w_41) (fun _ h9 => h9) rfl d_So_scanLine_81 ?_
  exact xr_i hx hb hr hlocks hP hD hK hS (()) [0] rfl rfl (by decide) [] rfl rfl d_So_scanLine_84

theorem d_As_readLabels_0 : decode b_As_readLabels 0 = .ok (.iconst 0, 1) := by decide +kernel
theorem d_As_readLabels_1 : decode b_As_readLabels 1 = .ok (.istore_n 1, 1) := by decide +kernel
theorem d_As_readLabels_2 : decode b_As_readLabels 2 = .ok (.iload_n 1, 1) := by decide +kernel
theorem d_As_readLabels_3 : decode b_As_readLabels 3 = .ok (.sipush 8192, 3) := by decide +kernel
theorem d_As_readLabels_6 : decode b_As_readLabels 6 = .ok (.if_icmp .ge 143, 3) := by decide +kernel
theorem d_As_readLabels_9 : decode b_As_readLabels 9 = .ok (.aload_n 0, 1) := by decide +kernel
theorem d_As_readLabels_10 : decode b_As_readLabels 10 = .ok (.getfield 25, 3) := by decide +kernel
theorem d_As_readLabels_13 : decode b_As_readLabels 13 = .ok (.ifCond .ne 136, 3) := by decide +kernel
theorem d_As_readLabels_16 : decode b_As_readLabels 16 = .ok (.aload_n 0, 1) := by decide +kernel
theorem d_As_readLabels_17 : decode b_As_readLabels 17 = .ok (.getfield 12, 3) := by decide +kernel
theorem d_As_readLabels_20 : decode b_As_readLabels 20 = .ok (.aload_n 0, 1) := by decide +kernel
theorem d_As_readLabels_21 : decode b_As_readLabels 21 = .ok (.getfield 38, 3) := by decide +kernel
theorem d_As_readLabels_24 : decode b_As_readLabels 24 = .ok (.invokevirtual 82, 3) := by decide +kernel
theorem d_As_readLabels_27 : decode b_As_readLabels 27 = .ok (.iconst 2, 1) := by decide +kernel
theorem d_As_readLabels_28 : decode b_As_readLabels 28 = .ok (.if_icmp .ne 21, 3) := by decide +kernel
theorem d_As_readLabels_49 : decode b_As_readLabels 49 = .ok (.return_, 1) := by decide +kernel
set_option maxHeartbeats 4000000 in
set_option maxRecDepth 100000 in
theorem c_As_readLabels (l : Launch) (D : va_G) (h0 : Nat) (qa : Nat → Nat) (sz : Nat) : Met l y_As_readLabels (Cond.code y_As_readLabels b_As_readLabels 3 none :: bw) (xR 2 0 0) (va_Pc [.ref h0] (xP D [] sz [(h0, .inr (1, [.ref (qa 3), .ref (qa 4), .int 0, .int 0, .int 1, .int 0, .int 0, .int (-1), .long 0, .int 0, .int 0, .int 0, .int 0, .int (-1), .int (-1)])), ((qa 3), .inr (4, [.ref (qa 5), .int 0, .int 0, .int 0, .ref (qa 6), .ref (qa 7), .ref (qa 8)]))])) (xQ (S := Unit) (fun _ => none) (fun _ => [(h0, .inr (1, [.ref (qa 3), .ref (qa 4), .int 0, .int 0, .int 1, .int 0, .int 0, .int (-1), .long 0, .int 0, .int 0, .int 0, .int 0, .int (-1), .int (-1)])), ((qa 3), .inr (4, [.ref (qa 5), .int 0, .int 0, .int 0, .ref (qa 6), .ref (qa 7), .ref (qa 8)]))]) (fun _ => []) D (va_A [(h0, .inr (1, [.ref (qa 3), .ref (qa 4), .int 0, .int 0, .int 1, .int 0, .int 0, .int (-1), .long 0, .int 0, .int 0, .int 0, .int 0, .int (-1), .int (-1)])), ((qa 3), .inr (4, [.ref (qa 5), .int 0, .int 0, .int 0, .ref (qa 6), .ref (qa 7), .ref (qa 8)]))] sz)) 0 0 (va_A [(h0, .inr (1, [.ref (qa 3), .ref (qa 4), .int 0, .int 0, .int 1, .int 0, .int 0, .int (-1), .long 0, .int 0, .int 0, .int 0, .int 0, .int (-1), .int (-1)])), ((qa 3), .inr (4, [.ref (qa 5), .int 0, .int 0, .int 0, .ref (qa 6), .ref (qa 7), .ref (qa 8)]))] sz) := by
  refine Met.ofW (cc := b_As_readLabels) (maxL := 3) (ret := none) (by decide) rfl ?_
  intro p e s m args below meth c s₁ B hml hv
  obtain ⟨rfl, hsz, hP, hK, hD0, hN, hZ⟩ := hv
  have hx := B.exec
  have hb := B.bytes
  have hr := B.returns
  have hlocks := B.notSynchronized
  have hts : ∀ w ∈ bw, w.before _ s = true := fun w h => atoms_spec (ws := Cond.code y_As_readLabels b_As_readLabels 3 none :: bw) B.pre w (List.mem_cons_of_mem _ h)
  have hown : s.vm.findClass "ObjectForge$Assembler" = some m.cls := findClass_of_methodNamed B.named
  subst hsz
  have hP0 := hP
  have hD := hD0.self (sz := s.heap.size)
  generalize hAe : va_A [(h0, .inr (1, [.ref (qa 3), .ref (qa 4), .int 0, .int 0, .int 1, .int 0, .int 0, .int (-1), .long 0, .int 0, .int 0, .int 0, .int 0, .int (-1), .int (-1)])), ((qa 3), .inr (4, [.ref (qa 5), .int 0, .int 0, .int 0, .ref (qa 6), .ref (qa 7), .ref (qa 8)]))] s.heap.size = A at hD hZ ⊢
  have hA : ∀ q : Nat, s.heap.size ≤ q → A q := fun q h => by rw [← hAe]; exact Or.inr h
  have hS : va_S A s.heap s.heap [] := va_S.rf
  have hl := lv_entry ([.ref h0]) (n := 3) (Nat.le_of_ble_eq_true rfl)
  rw [lg_entry_eq]
  generalize (lg_sl ([.ref h0]) ++ List.replicate (3 - (lg_sl ([.ref h0])).length) Slot.unset).toArray = ls at hl ⊢
  have hl : lv_has ls 3 [(0, .ref h0)] := hl
  refine lv_iconst (v := 0) hx hb d_As_readLabels_0 (by decide) ?_
  refine lv_istore_n (lv' := [(1, .int 0), (0, .ref h0)]) hx hb d_As_readLabels_1 rfl hl (by decide) rfl (fun ls hl => ?_)
  refine lv_iload_n hx hb d_As_readLabels_2 rfl (lv_at hl 0 rfl) ?_
  refine lv_sipush (v := 8192) hx hb d_As_readLabels_3 (by decide) ?_
  refine lv_icmp_ge (tgt := 149) hx hb d_As_readLabels_6 (by decide) (fun q9 => absurd q9 (by decide : ¬ ((8192 : Int32) ≤ 0))) (fun _ => ?_)
  refine lv_aload_n hx hb d_As_readLabels_9 rfl (lv_at hl 1 rfl) ?_
  refine va_get (D := D) (ci := 1) (v := .int 0) (C := R_As) (T := F_As) (N := 15) hx hb hts i_As hown hK hP 0 rfl rfl 2 (by decide) (hts _ w_117) (fun _ h9 => h9) rfl d_As_readLabels_10 ?_
  refine lv_if_ne (tgt := 149) hx hb d_As_readLabels_13 (by decide) (fun q9 => absurd (by decide : ((0 : Int32) = 0)) q9) (fun _ => ?_)
  refine lv_aload_n hx hb d_As_readLabels_16 rfl (lv_at hl 1 rfl) ?_
  refine va_get (D := D) (ci := 1) (v := .ref (qa 3)) (C := R_As) (T := F_As) (N := 15) hx hb hts i_As hown hK hP 0 rfl rfl 0 (by decide) (hts _ w_113) (fun _ h9 => h9) rfl d_As_readLabels_17 ?_
  refine lv_aload_n hx hb d_As_readLabels_20 rfl (lv_at hl 1 rfl) ?_
  refine va_get (D := D) (ci := 1) (v := .int 0) (C := R_As) (T := F_As) (N := 15) hx hb hts i_As hown hK hP 0 rfl rfl 6 (by decide) (hts _ w_123) (fun _ h9 => h9) rfl d_As_readLabels_21 ?_
  refine xc_V (As := [.int 0]) (rest := []) (n := 1) (wc := [((qa 3), .inr (4, [.ref (qa 5), .int 0, .int 0, .int 0, .ref (qa 6), .ref (qa 7), .ref (qa 8)]))]) (wr := [(h0, .inr (1, [.ref (qa 3), .ref (qa 4), .int 0, .int 0, .int 1, .int 0, .int 0, .int (-1), .long 0, .int 0, .int 0, .int 0, .int 0, .int (-1), .int (-1)]))]) (tc := []) (tr := []) ⟨hx, hb, hml, hown, hts⟩ (c_So_kindOf l D (qa 3) qa s.heap.size) rfl rfl w_274 w_271 w_272 w_273 w_3 (by decide +kernel) ⟨Nat.le_of_ble_eq_true rfl, Nat.le_of_ble_eq_true rfl⟩ hP hD hK hS hA hN hZ [1] [0] rfl rfl (by decide) (by decide) (by decide) [] [] rfl rfl (ci := 4) (q0 := 0) (q := (R_So, F_So, 7)) rfl rfl rfl rfl hl.1 rfl (Nat.le_of_ble_eq_true rfl) d_As_readLabels_24 ⟨Nat.le_of_ble_eq_true rfl, Nat.le_of_ble_eq_true rfl⟩ (fun u1 H locs hP hD hK hS => ?_)
  have hP : va_P D cls [(h0, .inr (1, [.ref (qa 3), .ref (qa 4), .int 0, .int 0, .int 1, .int 0, .int 0, .int (-1), .long 0, .int 0, .int 0, .int 0, .int 0, .int (-1), .int (-1)])), ((qa 3), .inr (4, [.ref (qa 5), .int 0, .int 0, .int 0, .ref (qa 6), .ref (qa 7), .ref (qa 8)]))] H := hP
  have hD : va_D A [(h0, .inr (1, [.ref (qa 3), .ref (qa 4), .int 0, .int 0, .int 1, .int 0, .int 0, .int (-1), .long 0, .int 0, .int 0, .int 0, .int 0, .int (-1), .int (-1)])), ((qa 3), .inr (4, [.ref (qa 5), .int 0, .int 0, .int 0, .ref (qa 6), .ref (qa 7), .ref (qa 8)]))] := hD
  have hK : va_K D cls [] s := hK
  refine W.eq (g2 := F0 m 27 ls [.int 0]) rfl ?_
  refine lv_iconst (v := 2) hx hb d_As_readLabels_27 (by decide) ?_
  refine lv_icmp_ne (tgt := 49) hx hb d_As_readLabels_28 (by decide) (fun _ => ?_) (fun q9 => absurd q9 (by decide : ¬ ((0 : Int32) = 2)))
  exact xr_v hx hb hr hlocks hP hD hK hS (()) [0, 1] rfl rfl (by decide) [] rfl rfl d_As_readLabels_49

theorem d_As_readStatement_0 : decode b_As_readStatement 0 = .ok (.aload_n 0, 1) := by decide +kernel
theorem d_As_readStatement_1 : decode b_As_readStatement 1 = .ok (.getfield 12, 3) := by decide +kernel
theorem d_As_readStatement_4 : decode b_As_readStatement 4 = .ok (.aload_n 0, 1) := by decide +kernel
theorem d_As_readStatement_5 : decode b_As_readStatement 5 = .ok (.getfield 38, 3) := by decide +kernel
theorem d_As_readStatement_8 : decode b_As_readStatement 8 = .ok (.invokevirtual 82, 3) := by decide +kernel
theorem d_As_readStatement_11 : decode b_As_readStatement 11 = .ok (.istore_n 1, 1) := by decide +kernel
theorem d_As_readStatement_12 : decode b_As_readStatement 12 = .ok (.iload_n 1, 1) := by decide +kernel
theorem d_As_readStatement_13 : decode b_As_readStatement 13 = .ok (.iconst 2, 1) := by decide +kernel
theorem d_As_readStatement_14 : decode b_As_readStatement 14 = .ok (.if_icmp .eq 20, 3) := by decide +kernel
theorem d_As_readStatement_17 : decode b_As_readStatement 17 = .ok (.aload_n 0, 1) := by decide +kernel
theorem d_As_readStatement_18 : decode b_As_readStatement 18 = .ok (.iload_n 1, 1) := by decide +kernel
theorem d_As_readStatement_19 : decode b_As_readStatement 19 = .ok (.ifCond .ne 7, 3) := by decide +kernel
theorem d_As_readStatement_22 : decode b_As_readStatement 22 = .ok (.iconst 0, 1) := by decide +kernel
theorem d_As_readStatement_23 : decode b_As_readStatement 23 = .ok (.goto 7, 3) := by decide +kernel
theorem d_As_readStatement_30 : decode b_As_readStatement 30 = .ok (.putfield 25, 3) := by decide +kernel
theorem d_As_readStatement_33 : decode b_As_readStatement 33 = .ok (.return_, 1) := by decide +kernel
set_option maxHeartbeats 4000000 in
set_option maxRecDepth 100000 in
theorem c_As_readStatement (l : Launch) (D : va_G) (h0 : Nat) (qa : Nat → Nat) (sz : Nat) : Met l y_As_readStatement (Cond.code y_As_readStatement b_As_readStatement 5 none :: bw) (xR 2 0 0) (va_Pc [.ref h0] (xP D [] sz [(h0, .inr (1, [.ref (qa 3), .ref (qa 4), .int 0, .int 0, .int 1, .int 0, .int 0, .int (-1), .long 0, .int 0, .int 0, .int 0, .int 0, .int (-1), .int (-1)])), ((qa 3), .inr (4, [.ref (qa 5), .int 0, .int 0, .int 0, .ref (qa 6), .ref (qa 7), .ref (qa 8)]))])) (xQ (S := Unit) (fun _ => none) (fun _ => [(h0, .inr (1, [.ref (qa 3), .ref (qa 4), .int 0, .int 0, .int 1, .int 0, .int 0, .int (-1), .long 0, .int 0, .int 0, .int 0, .int 0, .int (-1), .int (-1)])), ((qa 3), .inr (4, [.ref (qa 5), .int 0, .int 0, .int 0, .ref (qa 6), .ref (qa 7), .ref (qa 8)]))]) (fun _ => []) D (va_A [(h0, .inr (1, [.ref (qa 3), .ref (qa 4), .int 0, .int 0, .int 1, .int 0, .int 0, .int (-1), .long 0, .int 0, .int 0, .int 0, .int 0, .int (-1), .int (-1)])), ((qa 3), .inr (4, [.ref (qa 5), .int 0, .int 0, .int 0, .ref (qa 6), .ref (qa 7), .ref (qa 8)]))] sz)) 0 0 (va_A [(h0, .inr (1, [.ref (qa 3), .ref (qa 4), .int 0, .int 0, .int 1, .int 0, .int 0, .int (-1), .long 0, .int 0, .int 0, .int 0, .int 0, .int (-1), .int (-1)])), ((qa 3), .inr (4, [.ref (qa 5), .int 0, .int 0, .int 0, .ref (qa 6), .ref (qa 7), .ref (qa 8)]))] sz) := by
  refine Met.ofW (cc := b_As_readStatement) (maxL := 5) (ret := none) (by decide) rfl ?_
  intro p e s m args below meth c s₁ B hml hv
  obtain ⟨rfl, hsz, hP, hK, hD0, hN, hZ⟩ := hv
  have hx := B.exec
  have hb := B.bytes
  have hr := B.returns
  have hlocks := B.notSynchronized
  have hts : ∀ w ∈ bw, w.before _ s = true := fun w h => atoms_spec (ws := Cond.code y_As_readStatement b_As_readStatement 5 none :: bw) B.pre w (List.mem_cons_of_mem _ h)
  have hown : s.vm.findClass "ObjectForge$Assembler" = some m.cls := findClass_of_methodNamed B.named
  subst hsz
  have hP0 := hP
  have hD := hD0.self (sz := s.heap.size)
  generalize hAe : va_A [(h0, .inr (1, [.ref (qa 3), .ref (qa 4), .int 0, .int 0, .int 1, .int 0, .int 0, .int (-1), .long 0, .int 0, .int 0, .int 0, .int 0, .int (-1), .int (-1)])), ((qa 3), .inr (4, [.ref (qa 5), .int 0, .int 0, .int 0, .ref (qa 6), .ref (qa 7), .ref (qa 8)]))] s.heap.size = A at hD hZ ⊢
  have hA : ∀ q : Nat, s.heap.size ≤ q → A q := fun q h => by rw [← hAe]; exact Or.inr h
  have hS : va_S A s.heap s.heap [] := va_S.rf
  have hl := lv_entry ([.ref h0]) (n := 5) (Nat.le_of_ble_eq_true rfl)
  rw [lg_entry_eq]
  generalize (lg_sl ([.ref h0]) ++ List.replicate (5 - (lg_sl ([.ref h0])).length) Slot.unset).toArray = ls at hl ⊢
  have hl : lv_has ls 5 [(0, .ref h0)] := hl
  refine lv_aload_n hx hb d_As_readStatement_0 rfl (lv_at hl 0 rfl) ?_
  refine va_get (D := D) (ci := 1) (v := .ref (qa 3)) (C := R_As) (T := F_As) (N := 15) hx hb hts i_As hown hK hP 0 rfl rfl 0 (by decide) (hts _ w_113) (fun _ h9 => h9) rfl d_As_readStatement_1 ?_
  refine lv_aload_n hx hb d_As_readStatement_4 rfl (lv_at hl 0 rfl) ?_
  refine va_get (D := D) (ci := 1) (v := .int 0) (C := R_As) (T := F_As) (N := 15) hx hb hts i_As hown hK hP 0 rfl rfl 6 (by decide) (hts _ w_123) (fun _ h9 => h9) rfl d_As_readStatement_5 ?_
  refine xc_V (As := [.int 0]) (rest := []) (n := 1) (wc := [((qa 3), .inr (4, [.ref (qa 5), .int 0, .int 0, .int 0, .ref (qa 6), .ref (qa 7), .ref (qa 8)]))]) (wr := [(h0, .inr (1, [.ref (qa 3), .ref (qa 4), .int 0, .int 0, .int 1, .int 0, .int 0, .int (-1), .long 0, .int 0, .int 0, .int 0, .int 0, .int (-1), .int (-1)]))]) (tc := []) (tr := []) ⟨hx, hb, hml, hown, hts⟩ (c_So_kindOf l D (qa 3) qa s.heap.size) rfl rfl w_274 w_271 w_272 w_273 w_3 (by decide +kernel) ⟨Nat.le_of_ble_eq_true rfl, Nat.le_of_ble_eq_true rfl⟩ hP hD hK hS hA hN hZ [1] [0] rfl rfl (by decide) (by decide) (by decide) [] [] rfl rfl (ci := 4) (q0 := 0) (q := (R_So, F_So, 7)) rfl rfl rfl rfl hl.1 rfl (Nat.le_of_ble_eq_true rfl) d_As_readStatement_8 ⟨Nat.le_of_ble_eq_true rfl, Nat.le_of_ble_eq_true rfl⟩ (fun u1 H locs hP hD hK hS => ?_)
  have hP : va_P D cls [(h0, .inr (1, [.ref (qa 3), .ref (qa 4), .int 0, .int 0, .int 1, .int 0, .int 0, .int (-1), .long 0, .int 0, .int 0, .int 0, .int 0, .int (-1), .int (-1)])), ((qa 3), .inr (4, [.ref (qa 5), .int 0, .int 0, .int 0, .ref (qa 6), .ref (qa 7), .ref (qa 8)]))] H := hP
  have hD : va_D A [(h0, .inr (1, [.ref (qa 3), .ref (qa 4), .int 0, .int 0, .int 1, .int 0, .int 0, .int (-1), .long 0, .int 0, .int 0, .int 0, .int 0, .int (-1), .int (-1)])), ((qa 3), .inr (4, [.ref (qa 5), .int 0, .int 0, .int 0, .ref (qa 6), .ref (qa 7), .ref (qa 8)]))] := hD
  have hK : va_K D cls [] s := hK
  refine W.eq (g2 := F0 m 11 ls [.int 0]) rfl ?_
  refine lv_istore_n (lv' := [(1, .int 0), (0, .ref h0)]) hx hb d_As_readStatement_11 rfl hl (by decide) rfl (fun ls hl => ?_)
  refine lv_iload_n hx hb d_As_readStatement_12 rfl (lv_at hl 0 rfl) ?_
  refine lv_iconst (v := 2) hx hb d_As_readStatement_13 (by decide) ?_
  refine lv_icmp_eq (tgt := 34) hx hb d_As_readStatement_14 (by decide) (fun q9 => absurd q9 (by decide : ¬ ((0 : Int32) = 2))) (fun _ => ?_)
  refine lv_aload_n hx hb d_As_readStatement_17 rfl (lv_at hl 1 rfl) ?_
  refine lv_iload_n hx hb d_As_readStatement_18 rfl (lv_at hl 0 rfl) ?_
  refine lv_if_ne (tgt := 26) hx hb d_As_readStatement_19 (by decide) (fun q9 => absurd (by decide : ((0 : Int32) = 0)) q9) (fun _ => ?_)
  refine lv_iconst (v := 0) hx hb d_As_readStatement_22 (by decide) ?_
  refine lv_goto (tgt := 30) hx hb d_As_readStatement_23 (by decide) ?_
  refine va_put (D := D) (ci := 1) (v := .int 0) (ty := .int) (C := R_As) (T := F_As) (N := 15) hx hb hts i_As t_As t_As_ok n_As hown hK hP hD hS 0 rfl rfl 2 (by decide) (hts _ w_117) (fun _ h9 => h9) rfl (by decide +kernel) rfl rfl (Nat.le_of_ble_eq_true rfl) d_As_readStatement_30 (fun H locs hP hD hS => ?_)
  have hP : va_P D cls [(h0, .inr (1, [.ref (qa 3), .ref (qa 4), .int 0, .int 0, .int 1, .int 0, .int 0, .int (-1), .long 0, .int 0, .int 0, .int 0, .int 0, .int (-1), .int (-1)])), ((qa 3), .inr (4, [.ref (qa 5), .int 0, .int 0, .int 0, .ref (qa 6), .ref (qa 7), .ref (qa 8)]))] H := hP
  have hD : va_D A [(h0, .inr (1, [.ref (qa 3), .ref (qa 4), .int 0, .int 0, .int 1, .int 0, .int 0, .int (-1), .long 0, .int 0, .int 0, .int 0, .int 0, .int (-1), .int (-1)])), ((qa 3), .inr (4, [.ref (qa 5), .int 0, .int 0, .int 0, .ref (qa 6), .ref (qa 7), .ref (qa 8)]))] := hD
  exact xr_v hx hb hr hlocks hP hD hK hS (()) [0, 1] rfl rfl (by decide) [] rfl rfl d_As_readStatement_33

theorem d_As_settleBranches_0 : decode b_As_settleBranches 0 = .ok (.aload_n 0, 1) := by decide +kernel
theorem d_As_settleBranches_1 : decode b_As_settleBranches 1 = .ok (.getfield 21, 3) := by decide +kernel
theorem d_As_settleBranches_4 : decode b_As_settleBranches 4 = .ok (.getfield 305, 3) := by decide +kernel
theorem d_As_settleBranches_7 : decode b_As_settleBranches 7 = .ok (.astore_n 1, 1) := by decide +kernel
theorem d_As_settleBranches_8 : decode b_As_settleBranches 8 = .ok (.iconst 0, 1) := by decide +kernel
theorem d_As_settleBranches_9 : decode b_As_settleBranches 9 = .ok (.istore_n 2, 1) := by decide +kernel
theorem d_As_settleBranches_10 : decode b_As_settleBranches 10 = .ok (.iconst 0, 1) := by decide +kernel
theorem d_As_settleBranches_11 : decode b_As_settleBranches 11 = .ok (.istore_n 3, 1) := by decide +kernel
theorem d_As_settleBranches_12 : decode b_As_settleBranches 12 = .ok (.iload_n 3, 1) := by decide +kernel
theorem d_As_settleBranches_13 : decode b_As_settleBranches 13 = .ok (.aload_n 1, 1) := by decide +kernel
theorem d_As_settleBranches_14 : decode b_As_settleBranches 14 = .ok (.getfield 309, 3) := by decide +kernel
theorem d_As_settleBranches_17 : decode b_As_settleBranches 17 = .ok (.if_icmp .ge 132, 3) := by decide +kernel
theorem d_As_settleBranches_149 : decode b_As_settleBranches 149 = .ok (.aload_n 1, 1) := by decide +kernel
theorem d_As_settleBranches_150 : decode b_As_settleBranches 150 = .ok (.iload_n 2, 1) := by decide +kernel
theorem d_As_settleBranches_151 : decode b_As_settleBranches 151 = .ok (.putfield 309, 3) := by decide +kernel
theorem d_As_settleBranches_154 : decode b_As_settleBranches 154 = .ok (.return_, 1) := by decide +kernel
set_option maxHeartbeats 4000000 in
set_option maxRecDepth 100000 in
theorem c_As_settleBranches (l : Launch) (D : va_G) (h0 : Nat) (qa : Nat → Nat) (sz : Nat) : Met l y_As_settleBranches (Cond.code y_As_settleBranches b_As_settleBranches 6 none :: bw) (xR 1 0 0) (va_Pc [.ref h0] (xP D [] sz [(h0, .inr (1, [.ref (qa 3), .ref (qa 4), .int 0, .int 0, .int 1, .int 0, .int 0, .int (-1), .long 0, .int 0, .int 0, .int 0, .int 0, .int (-1), .int (-1)])), ((qa 4), .inr (6, [.ref (qa 9), .ref (qa 10), .ref (qa 11), .ref (qa 12), .ref (qa 13)])), ((qa 13), .inr (3, [.ref (qa 21), .ref (qa 22), .ref (qa 23), .ref (qa 24), .ref (qa 25), .ref (qa 26), .int 0]))])) (xQ (S := Unit) (fun _ => none) (fun _ => [(h0, .inr (1, [.ref (qa 3), .ref (qa 4), .int 0, .int 0, .int 1, .int 0, .int 0, .int (-1), .long 0, .int 0, .int 0, .int 0, .int 0, .int (-1), .int (-1)])), ((qa 4), .inr (6, [.ref (qa 9), .ref (qa 10), .ref (qa 11), .ref (qa 12), .ref (qa 13)])), ((qa 13), .inr (3, [.ref (qa 21), .ref (qa 22), .ref (qa 23), .ref (qa 24), .ref (qa 25), .ref (qa 26), .int 0]))]) (fun _ => []) D (va_A [(h0, .inr (1, [.ref (qa 3), .ref (qa 4), .int 0, .int 0, .int 1, .int 0, .int 0, .int (-1), .long 0, .int 0, .int 0, .int 0, .int 0, .int (-1), .int (-1)])), ((qa 4), .inr (6, [.ref (qa 9), .ref (qa 10), .ref (qa 11), .ref (qa 12), .ref (qa 13)])), ((qa 13), .inr (3, [.ref (qa 21), .ref (qa 22), .ref (qa 23), .ref (qa 24), .ref (qa 25), .ref (qa 26), .int 0]))] sz)) 0 0 (va_A [(h0, .inr (1, [.ref (qa 3), .ref (qa 4), .int 0, .int 0, .int 1, .int 0, .int 0, .int (-1), .long 0, .int 0, .int 0, .int 0, .int 0, .int (-1), .int (-1)])), ((qa 4), .inr (6, [.ref (qa 9), .ref (qa 10), .ref (qa 11), .ref (qa 12), .ref (qa 13)])), ((qa 13), .inr (3, [.ref (qa 21), .ref (qa 22), .ref (qa 23), .ref (qa 24), .ref (qa 25), .ref (qa 26), .int 0]))] sz) := by
  refine Met.ofW (cc := b_As_settleBranches) (maxL := 6) (ret := none) (by decide) rfl ?_
  intro p e s m args below meth c s₁ B hml hv
  obtain ⟨rfl, hsz, hP, hK, hD0, hN, hZ⟩ := hv
  have hx := B.exec
  have hb := B.bytes
  have hr := B.returns
  have hlocks := B.notSynchronized
  have hts : ∀ w ∈ bw, w.before _ s = true := fun w h => atoms_spec (ws := Cond.code y_As_settleBranches b_As_settleBranches 6 none :: bw) B.pre w (List.mem_cons_of_mem _ h)
  have hown : s.vm.findClass "ObjectForge$Assembler" = some m.cls := findClass_of_methodNamed B.named
  subst hsz
  have hP0 := hP
  have hD := hD0.self (sz := s.heap.size)
  generalize hAe : va_A [(h0, .inr (1, [.ref (qa 3), .ref (qa 4), .int 0, .int 0, .int 1, .int 0, .int 0, .int (-1), .long 0, .int 0, .int 0, .int 0, .int 0, .int (-1), .int (-1)])), ((qa 4), .inr (6, [.ref (qa 9), .ref (qa 10), .ref (qa 11), .ref (qa 12), .ref (qa 13)])), ((qa 13), .inr (3, [.ref (qa 21), .ref (qa 22), .ref (qa 23), .ref (qa 24), .ref (qa 25), .ref (qa 26), .int 0]))] s.heap.size = A at hD hZ ⊢
  have hA : ∀ q : Nat, s.heap.size ≤ q → A q := fun q h => by rw [← hAe]; exact Or.inr h
  have hS : va_S A s.heap s.heap [] := va_S.rf
  have hl := lv_entry ([.ref h0]) (n := 6) (Nat.le_of_ble_eq_true rfl)
  rw [lg_entry_eq]
  generalize (lg_sl ([.ref h0]) ++ List.replicate (6 - (lg_sl ([.ref h0])).length) Slot.unset).toArray = ls at hl ⊢
  have hl : lv_has ls 6 [(0, .ref h0)] := hl
  refine lv_aload_n hx hb d_As_settleBranches_0 rfl (lv_at hl 0 rfl) ?_
  refine va_get (D := D) (ci := 1) (v := .ref (qa 4)) (C := R_As) (T := F_As) (N := 15) hx hb hts i_As hown hK hP 0 rfl rfl 1 (by decide) (hts _ w_115) (fun _ h9 => h9) rfl d_As_settleBranches_1 ?_
  refine va_get (D := D) (ci := 6) (v := .ref (qa 13)) (C := R_Un) (T := F_Un) (N := 5) hx hb hts i_Un hown hK hP 1 rfl rfl 4 (by decide) (hts _ w_112) (fun _ h9 => h9) rfl d_As_settleBranches_4 ?_
  refine lv_astore_n (lv' := [(1, .ref (qa 13)), (0, .ref h0)]) hx hb d_As_settleBranches_7 rfl hl (by decide) rfl (fun ls hl => ?_)
  refine lv_iconst (v := 0) hx hb d_As_settleBranches_8 (by decide) ?_
  refine lv_istore_n (lv' := [(2, .int 0), (1, .ref (qa 13)), (0, .ref h0)]) hx hb d_As_settleBranches_9 rfl hl (by decide) rfl (fun ls hl => ?_)
  refine lv_iconst (v := 0) hx hb d_As_settleBranches_10 (by decide) ?_
  refine lv_istore_n (lv' := [(3, .int 0), (2, .int 0), (1, .ref (qa 13)), (0, .ref h0)]) hx hb d_As_settleBranches_11 rfl hl (by decide) rfl (fun ls hl => ?_)
  refine lv_iload_n hx hb d_As_settleBranches_12 rfl (lv_at hl 0 rfl) ?_
  refine lv_aload_n hx hb d_As_settleBranches_13 rfl (lv_at hl 2 rfl) ?_
  refine va_get (D := D) (ci := 3) (v := .int 0) (C := R_Re) (T := F_Re) (N := 7) hx hb hts i_Re hown hK hP 2 rfl rfl 6 (by decide) (hts _ w_99) (fun _ h9 => h9) rfl d_As_settleBranches_14 ?_
  refine lv_icmp_ge (tgt := 149) hx hb d_As_settleBranches_17 (by decide) (fun _ => ?_) (fun q9 => absurd (by decide : ((0 : Int32) ≤ 0)) q9)
  refine lv_aload_n hx hb d_As_settleBranches_149 rfl (lv_at hl 2 rfl) ?_
  refine lv_iload_n hx hb d_As_settleBranches_150 rfl (lv_at hl 1 rfl) ?_
  refine va_put (D := D) (ci := 3) (v := .int 0) (ty := .int) (C := R_Re) (T := F_Re) (N := 7) hx hb hts i_Re t_Re t_Re_ok n_Re hown hK hP hD hS 2 rfl rfl 6 (by decide) (hts _ w_99) (fun _ h9 => h9) rfl (by decide +kernel) rfl rfl (Nat.le_of_ble_eq_true rfl) d_As_settleBranches_151 (fun H locs hP hD hS => ?_)
  have hP : va_P D cls [(h0, .inr (1, [.ref (qa 3), .ref (qa 4), .int 0, .int 0, .int 1, .int 0, .int 0, .int (-1), .long 0, .int 0, .int 0, .int 0, .int 0, .int (-1), .int (-1)])), ((qa 4), .inr (6, [.ref (qa 9), .ref (qa 10), .ref (qa 11), .ref (qa 12), .ref (qa 13)])), ((qa 13), .inr (3, [.ref (qa 21), .ref (qa 22), .ref (qa 23), .ref (qa 24), .ref (qa 25), .ref (qa 26), .int 0]))] H := hP
  have hD : va_D A [(h0, .inr (1, [.ref (qa 3), .ref (qa 4), .int 0, .int 0, .int 1, .int 0, .int 0, .int (-1), .long 0, .int 0, .int 0, .int 0, .int 0, .int (-1), .int (-1)])), ((qa 4), .inr (6, [.ref (qa 9), .ref (qa 10), .ref (qa 11), .ref (qa 12), .ref (qa 13)])), ((qa 13), .inr (3, [.ref (qa 21), .ref (qa 22), .ref (qa 23), .ref (qa 24), .ref (qa 25), .ref (qa 26), .int 0]))] := hD
  exact xr_v hx hb hr hlocks hP hD hK hS (()) [0, 1, 2] rfl rfl (by decide) [] rfl rfl d_As_settleBranches_154

theorem d_As_translate_0 : decode b_As_translate 0 = .ok (.aload_n 0, 1) := by decide +kernel
theorem d_As_translate_1 : decode b_As_translate 1 = .ok (.getfield 21, 3) := by decide +kernel
theorem d_As_translate_4 : decode b_As_translate 4 = .ok (.invokevirtual 66, 3) := by decide +kernel
theorem d_As_translate_7 : decode b_As_translate 7 = .ok (.aload_n 0, 1) := by decide +kernel
theorem d_As_translate_8 : decode b_As_translate 8 = .ok (.iconst 0, 1) := by decide +kernel
theorem d_As_translate_9 : decode b_As_translate 9 = .ok (.putfield 35, 3) := by decide +kernel
theorem d_As_translate_12 : decode b_As_translate 12 = .ok (.aload_n 0, 1) := by decide +kernel
theorem d_As_translate_13 : decode b_As_translate 13 = .ok (.iconst 0, 1) := by decide +kernel
theorem d_As_translate_14 : decode b_As_translate 14 = .ok (.putfield 25, 3) := by decide +kernel
theorem d_As_translate_17 : decode b_As_translate 17 = .ok (.aload_n 0, 1) := by decide +kernel
theorem d_As_translate_18 : decode b_As_translate 18 = .ok (.iconst 0, 1) := by decide +kernel
theorem d_As_translate_19 : decode b_As_translate 19 = .ok (.putfield 29, 3) := by decide +kernel
theorem d_As_translate_22 : decode b_As_translate 22 = .ok (.aload_n 0, 1) := by decide +kernel
theorem d_As_translate_23 : decode b_As_translate 23 = .ok (.iconst 0, 1) := by decide +kernel
theorem d_As_translate_24 : decode b_As_translate 24 = .ok (.putfield 32, 3) := by decide +kernel
theorem d_As_translate_27 : decode b_As_translate 27 = .ok (.iconst 0, 1) := by decide +kernel
theorem d_As_translate_28 : decode b_As_translate 28 = .ok (.istore_n 2, 1) := by decide +kernel
theorem d_As_translate_29 : decode b_As_translate 29 = .ok (.iconst 0, 1) := by decide +kernel
theorem d_As_translate_30 : decode b_As_translate 30 = .ok (.istore_n 3, 1) := by decide +kernel
theorem d_As_translate_31 : decode b_As_translate 31 = .ok (.iload_n 3, 1) := by decide +kernel
theorem d_As_translate_32 : decode b_As_translate 32 = .ok (.sipush 8192, 3) := by decide +kernel
theorem d_As_translate_35 : decode b_As_translate 35 = .ok (.if_icmp .gt 63, 3) := by decide +kernel
theorem d_As_translate_38 : decode b_As_translate 38 = .ok (.iload_n 2, 1) := by decide +kernel
theorem d_As_translate_39 : decode b_As_translate 39 = .ok (.iload_n 1, 1) := by decide +kernel
theorem d_As_translate_40 : decode b_As_translate 40 = .ok (.if_icmp .gt 58, 3) := by decide +kernel
theorem d_As_translate_43 : decode b_As_translate 43 = .ok (.aload_n 0, 1) := by decide +kernel
theorem d_As_translate_44 : decode b_As_translate 44 = .ok (.getfield 25, 3) := by decide +kernel
theorem d_As_translate_47 : decode b_As_translate 47 = .ok (.ifCond .ne 51, 3) := by decide +kernel
theorem d_As_translate_50 : decode b_As_translate 50 = .ok (.aload_n 0, 1) := by decide +kernel
theorem d_As_translate_51 : decode b_As_translate 51 = .ok (.dup, 1) := by decide +kernel
theorem d_As_translate_52 : decode b_As_translate 52 = .ok (.getfield 32, 3) := by decide +kernel
theorem d_As_translate_55 : decode b_As_translate 55 = .ok (.iconst 1, 1) := by decide +kernel
theorem d_As_translate_56 : decode b_As_translate 56 = .ok (.iadd, 1) := by decide +kernel
theorem d_As_translate_57 : decode b_As_translate 57 = .ok (.putfield 32, 3) := by decide +kernel
theorem d_As_translate_60 : decode b_As_translate 60 = .ok (.aload_n 0, 1) := by decide +kernel
theorem d_As_translate_61 : decode b_As_translate 61 = .ok (.getfield 12, 3) := by decide +kernel
theorem d_As_translate_64 : decode b_As_translate 64 = .ok (.iload_n 2, 1) := by decide +kernel
theorem d_As_translate_65 : decode b_As_translate 65 = .ok (.iload_n 1, 1) := by decide +kernel
theorem d_As_translate_66 : decode b_As_translate 66 = .ok (.invokevirtual 69, 3) := by decide +kernel
theorem d_As_translate_69 : decode b_As_translate 69 = .ok (.iconst 1, 1) := by decide +kernel
theorem d_As_translate_70 : decode b_As_translate 70 = .ok (.iadd, 1) := by decide +kernel
theorem d_As_translate_71 : decode b_As_translate 71 = .ok (.istore_n 2, 1) := by decide +kernel
theorem d_As_translate_72 : decode b_As_translate 72 = .ok (.aload_n 0, 1) := by decide +kernel
theorem d_As_translate_73 : decode b_As_translate 73 = .ok (.iconst 0, 1) := by decide +kernel
theorem d_As_translate_74 : decode b_As_translate 74 = .ok (.putfield 38, 3) := by decide +kernel
theorem d_As_translate_77 : decode b_As_translate 77 = .ok (.aload_n 0, 1) := by decide +kernel
theorem d_As_translate_78 : decode b_As_translate 78 = .ok (.invokevirtual 73, 3) := by decide +kernel
theorem d_As_translate_81 : decode b_As_translate 81 = .ok (.aload_n 0, 1) := by decide +kernel
theorem d_As_translate_82 : decode b_As_translate 82 = .ok (.getfield 25, 3) := by decide +kernel
theorem d_As_translate_85 : decode b_As_translate 85 = .ok (.ifCond .ne 7, 3) := by decide +kernel
theorem d_As_translate_88 : decode b_As_translate 88 = .ok (.aload_n 0, 1) := by decide +kernel
theorem d_As_translate_89 : decode b_As_translate 89 = .ok (.invokevirtual 76, 3) := by decide +kernel
theorem d_As_translate_92 : decode b_As_translate 92 = .ok (.iinc 3 1, 3) := by decide +kernel
theorem d_As_translate_95 : decode b_As_translate 95 = .ok (.goto (-64), 3) := by decide +kernel
theorem d_As_translate_98 : decode b_As_translate 98 = .ok (.aload_n 0, 1) := by decide +kernel
theorem d_As_translate_99 : decode b_As_translate 99 = .ok (.getfield 25, 3) := by decide +kernel
theorem d_As_translate_102 : decode b_As_translate 102 = .ok (.ifCond .ne 7, 3) := by decide +kernel
theorem d_As_translate_105 : decode b_As_translate 105 = .ok (.aload_n 0, 1) := by decide +kernel
theorem d_As_translate_106 : decode b_As_translate 106 = .ok (.invokevirtual 79, 3) := by decide +kernel
theorem d_As_translate_109 : decode b_As_translate 109 = .ok (.aload_n 0, 1) := by decide +kernel
theorem d_As_translate_110 : decode b_As_translate 110 = .ok (.getfield 25, 3) := by decide +kernel
theorem d_As_translate_113 : decode b_As_translate 113 = .ok (.ifCond .eq 11, 3) := by decide +kernel
theorem d_As_translate_124 : decode b_As_translate 124 = .ok (.aload_n 0, 1) := by decide +kernel
theorem d_As_translate_125 : decode b_As_translate 125 = .ok (.getfield 25, 3) := by decide +kernel
theorem d_As_translate_128 : decode b_As_translate 128 = .ok (.ifCond .ne 7, 3) := by decide +kernel
theorem d_As_translate_131 : decode b_As_translate 131 = .ok (.iconst 1, 1) := by decide +kernel
theorem d_As_translate_132 : decode b_As_translate 132 = .ok (.goto 4, 3) := by decide +kernel
theorem d_As_translate_136 : decode b_As_translate 136 = .ok (.ireturn, 1) := by decide +kernel
set_option maxHeartbeats 4000000 in
set_option maxRecDepth 100000 in
theorem c_As_translate (l : Launch) (D : va_G) (h0 : Nat) (qa : Nat → Nat) (qk : Nat → ClassId) (sz : Nat) : Met l y_As_translate (Cond.code y_As_translate b_As_translate 4 (some .boolean) :: bw) (xR 3 0 0) (va_Pc [.ref h0, .int 0] (xP D [((qk 1), .int)] sz [(h0, .inr (1, [.ref (qa 3), .ref (qa 4), .int 0, .int 0, .int 0, .int 0, .int 0, .int (-1), .long 0, .int 0, .int 0, .int 0, .int 0, .int (-1), .int (-1)])), ((qa 3), .inr (4, [.ref (qa 5), .int 0, .int 0, .int 0, .ref (qa 6), .ref (qa 7), .ref (qa 8)])), ((qa 4), .inr (6, [.ref (qa 9), .ref (qa 10), .ref (qa 11), .ref (qa 12), .ref (qa 13)])), ((qa 10), .inl ((qk 1), 3, .inl (fun _ => 0))), ((qa 12), .inr (5, [.ref (qa 14), .ref (qa 15), .ref (qa 16), .ref (qa 17), .ref (qa 18), .ref (qa 19), .ref (qa 20), .int 0])), ((qa 13), .inr (3, [.ref (qa 21), .ref (qa 22), .ref (qa 23), .ref (qa 24), .ref (qa 25), .ref (qa 26), .int 0]))])) (xQ (S := Unit) (fun _ => some (.int 1)) (fun _ => [(h0, .inr (1, [.ref (qa 3), .ref (qa 4), .int 0, .int 0, .int 1, .int 0, .int 0, .int (-1), .long 0, .int 0, .int 0, .int 0, .int 0, .int (-1), .int (-1)])), ((qa 3), .inr (4, [.ref (qa 5), .int 0, .int 0, .int 0, .ref (qa 6), .ref (qa 7), .ref (qa 8)])), ((qa 4), .inr (6, [.ref (qa 9), .ref (qa 10), .ref (qa 11), .ref (qa 12), .ref (qa 13)]))]) (fun _ => []) D (va_A [(h0, .inr (1, [.ref (qa 3), .ref (qa 4), .int 0, .int 0, .int 0, .int 0, .int 0, .int (-1), .long 0, .int 0, .int 0, .int 0, .int 0, .int (-1), .int (-1)])), ((qa 3), .inr (4, [.ref (qa 5), .int 0, .int 0, .int 0, .ref (qa 6), .ref (qa 7), .ref (qa 8)])), ((qa 4), .inr (6, [.ref (qa 9), .ref (qa 10), .ref (qa 11), .ref (qa 12), .ref (qa 13)])), ((qa 10), .inl ((qk 1), 3, .inl (fun _ => 0))), ((qa 12), .inr (5, [.ref (qa 14), .ref (qa 15), .ref (qa 16), .ref (qa 17), .ref (qa 18), .ref (qa 19), .ref (qa 20), .int 0])), ((qa 13), .inr (3, [.ref (qa 21), .ref (qa 22), .ref (qa 23), .ref (qa 24), .ref (qa 25), .ref (qa 26), .int 0]))] sz)) 0 0 (va_A [(h0, .inr (1, [.ref (qa 3), .ref (qa 4), .int 0, .int 0, .int 0, .int 0, .int 0, .int (-1), .long 0, .int 0, .int 0, .int 0, .int 0, .int (-1), .int (-1)])), ((qa 3), .inr (4, [.ref (qa 5), .int 0, .int 0, .int 0, .ref (qa 6), .ref (qa 7), .ref (qa 8)])), ((qa 4), .inr (6, [.ref (qa 9), .ref (qa 10), .ref (qa 11), .ref (qa 12), .ref (qa 13)])), ((qa 10), .inl ((qk 1), 3, .inl (fun _ => 0))), ((qa 12), .inr (5, [.ref (qa 14), .ref (qa 15), .ref (qa 16), .ref (qa 17), .ref (qa 18), .ref (qa 19), .ref (qa 20), .int 0])), ((qa 13), .inr (3, [.ref (qa 21), .ref (qa 22), .ref (qa 23), .ref (qa 24), .ref (qa 25), .ref (qa 26), .int 0]))] sz) := by
  refine Met.ofW (cc := b_As_translate) (maxL := 4) (ret := (some .boolean)) (by decide) rfl ?_
  intro p e s m args below meth c s₁ B hml hv
  obtain ⟨rfl, hsz, hP, hK, hD0, hN, hZ⟩ := hv
  have hx := B.exec
  have hb := B.bytes
  have hr := B.returns
  have hlocks := B.notSynchronized
  have hts : ∀ w ∈ bw, w.before _ s = true := fun w h => atoms_spec (ws := Cond.code y_As_translate b_As_translate 4 (some .boolean) :: bw) B.pre w (List.mem_cons_of_mem _ h)
  have hown : s.vm.findClass "ObjectForge$Assembler" = some m.cls := findClass_of_methodNamed B.named
  subst hsz
  have hP0 := hP
  have hD := hD0.self (sz := s.heap.size)
  generalize hAe : va_A [(h0, .inr (1, [.ref (qa 3), .ref (qa 4), .int 0, .int 0, .int 0, .int 0, .int 0, .int (-1), .long 0, .int 0, .int 0, .int 0, .int 0, .int (-1), .int (-1)])), ((qa 3), .inr (4, [.ref (qa 5), .int 0, .int 0, .int 0, .ref (qa 6), .ref (qa 7), .ref (qa 8)])), ((qa 4), .inr (6, [.ref (qa 9), .ref (qa 10), .ref (qa 11), .ref (qa 12), .ref (qa 13)])), ((qa 10), .inl ((qk 1), 3, .inl (fun _ => 0))), ((qa 12), .inr (5, [.ref (qa 14), .ref (qa 15), .ref (qa 16), .ref (qa 17), .ref (qa 18), .ref (qa 19), .ref (qa 20), .int 0])), ((qa 13), .inr (3, [.ref (qa 21), .ref (qa 22), .ref (qa 23), .ref (qa 24), .ref (qa 25), .ref (qa 26), .int 0]))] s.heap.size = A at hD hZ ⊢
  have hA : ∀ q : Nat, s.heap.size ≤ q → A q := fun q h => by rw [← hAe]; exact Or.inr h
  have hS : va_S A s.heap s.heap [] := va_S.rf
  have hl := lv_entry ([.ref h0, .int 0]) (n := 4) (Nat.le_of_ble_eq_true rfl)
  rw [lg_entry_eq]
  generalize (lg_sl ([.ref h0, .int 0]) ++ List.replicate (4 - (lg_sl ([.ref h0, .int 0])).length) Slot.unset).toArray = ls at hl ⊢
  have hl : lv_has ls 4 [(0, .ref h0), (1, .int 0)] := hl
  refine lv_aload_n hx hb d_As_translate_0 rfl (lv_at hl 0 rfl) ?_
  refine va_get (D := D) (ci := 1) (v := .ref (qa 4)) (C := R_As) (T := F_As) (N := 15) hx hb hts i_As hown hK hP 0 rfl rfl 1 (by decide) (hts _ w_115) (fun _ h9 => h9) rfl d_As_translate_1 ?_
  refine xc_V (As := []) (rest := []) (n := 0) (wc := [((qa 4), .inr (6, [.ref (qa 9), .ref (qa 10), .ref (qa 11), .ref (qa 12), .ref (qa 13)])), ((qa 10), .inl ((qk 1), 3, .inl (fun _ => 0))), ((qa 12), .inr (5, [.ref (qa 14), .ref (qa 15), .ref (qa 16), .ref (qa 17), .ref (qa 18), .ref (qa 19), .ref (qa 20), .int 0])), ((qa 13), .inr (3, [.ref (qa 21), .ref (qa 22), .ref (qa 23), .ref (qa 24), .ref (qa 25), .ref (qa 26), .int 0]))]) (wr := [(h0, .inr (1, [.ref (qa 3), .ref (qa 4), .int 0, .int 0, .int 0, .int 0, .int 0, .int (-1), .long 0, .int 0, .int 0, .int 0, .int 0, .int (-1), .int (-1)])), ((qa 3), .inr (4, [.ref (qa 5), .int 0, .int 0, .int 0, .ref (qa 6), .ref (qa 7), .ref (qa 8)]))]) (tc := [((qk 1), .int)]) (tr := []) ⟨hx, hb, hml, hown, hts⟩ (c_Un_makeEmpty l D (qa 4) qa qk s.heap.size) rfl rfl w_258 w_255 w_256 w_257 w_4 (by decide +kernel) ⟨Nat.le_of_ble_eq_true rfl, Nat.le_of_ble_eq_true rfl⟩ hP hD hK hS hA hN hZ [2, 3, 4, 5] [0, 1] rfl rfl (by decide) (by decide) (by decide) [0] [] rfl rfl (ci := 6) (q0 := 0) (q := (R_Un, F_Un, 5)) rfl rfl rfl rfl hl.1 rfl (Nat.le_of_ble_eq_true rfl) d_As_translate_4 ⟨Nat.le_of_ble_eq_true rfl, Nat.le_of_ble_eq_true rfl⟩ (fun u1 H locs hP hD hK hS => ?_)
  have hP : va_P D cls [(h0, .inr (1, [.ref (qa 3), .ref (qa 4), .int 0, .int 0, .int 0, .int 0, .int 0, .int (-1), .long 0, .int 0, .int 0, .int 0, .int 0, .int (-1), .int (-1)])), ((qa 3), .inr (4, [.ref (qa 5), .int 0, .int 0, .int 0, .ref (qa 6), .ref (qa 7), .ref (qa 8)])), ((qa 4), .inr (6, [.ref (qa 9), .ref (qa 10), .ref (qa 11), .ref (qa 12), .ref (qa 13)])), ((qa 10), .inl ((qk 1), 3, .inl u1)), ((qa 12), .inr (5, [.ref (qa 14), .ref (qa 15), .ref (qa 16), .ref (qa 17), .ref (qa 18), .ref (qa 19), .ref (qa 20), .int 0])), ((qa 13), .inr (3, [.ref (qa 21), .ref (qa 22), .ref (qa 23), .ref (qa 24), .ref (qa 25), .ref (qa 26), .int 0]))] H := hP
  have hD : va_D A [(h0, .inr (1, [.ref (qa 3), .ref (qa 4), .int 0, .int 0, .int 0, .int 0, .int 0, .int (-1), .long 0, .int 0, .int 0, .int 0, .int 0, .int (-1), .int (-1)])), ((qa 3), .inr (4, [.ref (qa 5), .int 0, .int 0, .int 0, .ref (qa 6), .ref (qa 7), .ref (qa 8)])), ((qa 4), .inr (6, [.ref (qa 9), .ref (qa 10), .ref (qa 11), .ref (qa 12), .ref (qa 13)])), ((qa 10), .inl ((qk 1), 3, .inl u1)), ((qa 12), .inr (5, [.ref (qa 14), .ref (qa 15), .ref (qa 16), .ref (qa 17), .ref (qa 18), .ref (qa 19), .ref (qa 20), .int 0])), ((qa 13), .inr (3, [.ref (qa 21), .ref (qa 22), .ref (qa 23), .ref (qa 24), .ref (qa 25), .ref (qa 26), .int 0]))] := hD
  have hK : va_K D cls [((qk 1), .int)] s := hK
  refine W.eq (g2 := F0 m 7 ls []) rfl ?_
  refine lv_aload_n hx hb d_As_translate_7 rfl (lv_at hl 0 rfl) ?_
  refine lv_iconst (v := 0) hx hb d_As_translate_8 (by decide) ?_
  refine va_put (D := D) (ci := 1) (v := .int 0) (ty := .int) (C := R_As) (T := F_As) (N := 15) hx hb hts i_As t_As t_As_ok n_As hown hK hP hD hS 0 rfl rfl 5 (by decide) (hts _ w_122) (fun _ h9 => h9) rfl (by decide +kernel) rfl rfl (Nat.le_of_ble_eq_true rfl) d_As_translate_9 (fun H locs hP hD hS => ?_)
  have hP : va_P D cls [(h0, .inr (1, [.ref (qa 3), .ref (qa 4), .int 0, .int 0, .int 0, .int 0, .int 0, .int (-1), .long 0, .int 0, .int 0, .int 0, .int 0, .int (-1), .int (-1)])), ((qa 3), .inr (4, [.ref (qa 5), .int 0, .int 0, .int 0, .ref (qa 6), .ref (qa 7), .ref (qa 8)])), ((qa 4), .inr (6, [.ref (qa 9), .ref (qa 10), .ref (qa 11), .ref (qa 12), .ref (qa 13)])), ((qa 10), .inl ((qk 1), 3, .inl u1)), ((qa 12), .inr (5, [.ref (qa 14), .ref (qa 15), .ref (qa 16), .ref (qa 17), .ref (qa 18), .ref (qa 19), .ref (qa 20), .int 0])), ((qa 13), .inr (3, [.ref (qa 21), .ref (qa 22), .ref (qa 23), .ref (qa 24), .ref (qa 25), .ref (qa 26), .int 0]))] H := hP
  have hD : va_D A [(h0, .inr (1, [.ref (qa 3), .ref (qa 4), .int 0, .int 0, .int 0, .int 0, .int 0, .int (-1), .long 0, .int 0, .int 0, .int 0, .int 0, .int (-1), .int (-1)])), ((qa 3), .inr (4, [.ref (qa 5), .int 0, .int 0, .int 0, .ref (qa 6), .ref (qa 7), .ref (qa 8)])), ((qa 4), .inr (6, [.ref (qa 9), .ref (qa 10), .ref (qa 11), .ref (qa 12), .ref (qa 13)])), ((qa 10), .inl ((qk 1), 3, .inl u1)), ((qa 12), .inr (5, [.ref (qa 14), .ref (qa 15), .ref (qa 16), .ref (qa 17), .ref (qa 18), .ref (qa 19), .ref (qa 20), .int 0])), ((qa 13), .inr (3, [.ref (qa 21), .ref (qa 22), .ref (qa 23), .ref (qa 24), .ref (qa 25), .ref (qa 26), .int 0]))] := hD
  refine lv_aload_n hx hb d_As_translate_12 rfl (lv_at hl 0 rfl) ?_
  refine lv_iconst (v := 0) hx hb d_As_translate_13 (by decide) ?_
  refine va_put (D := D) (ci := 1) (v := .int 0) (ty := .int) (C := R_As) (T := F_As) (N := 15) hx hb hts i_As t_As t_As_ok n_As hown hK hP hD hS 0 rfl rfl 2 (by decide) (hts _ w_117) (fun _ h9 => h9) rfl (by decide +kernel) rfl rfl (Nat.le_of_ble_eq_true rfl) d_As_translate_14 (fun H locs hP hD hS => ?_)
  have hP : va_P D cls [(h0, .inr (1, [.ref (qa 3), .ref (qa 4), .int 0, .int 0, .int 0, .int 0, .int 0, .int (-1), .long 0, .int 0, .int 0, .int 0, .int 0, .int (-1), .int (-1)])), ((qa 3), .inr (4, [.ref (qa 5), .int 0, .int 0, .int 0, .ref (qa 6), .ref (qa 7), .ref (qa 8)])), ((qa 4), .inr (6, [.ref (qa 9), .ref (qa 10), .ref (qa 11), .ref (qa 12), .ref (qa 13)])), ((qa 10), .inl ((qk 1), 3, .inl u1)), ((qa 12), .inr (5, [.ref (qa 14), .ref (qa 15), .ref (qa 16), .ref (qa 17), .ref (qa 18), .ref (qa 19), .ref (qa 20), .int 0])), ((qa 13), .inr (3, [.ref (qa 21), .ref (qa 22), .ref (qa 23), .ref (qa 24), .ref (qa 25), .ref (qa 26), .int 0]))] H := hP
  have hD : va_D A [(h0, .inr (1, [.ref (qa 3), .ref (qa 4), .int 0, .int 0, .int 0, .int 0, .int 0, .int (-1), .long 0, .int 0, .int 0, .int 0, .int 0, .int (-1), .int (-1)])), ((qa 3), .inr (4, [.ref (qa 5), .int 0, .int 0, .int 0, .ref (qa 6), .ref (qa 7), .ref (qa 8)])), ((qa 4), .inr (6, [.ref (qa 9), .ref (qa 10), .ref (qa 11), .ref (qa 12), .ref (qa 13)])), ((qa 10), .inl ((qk 1), 3, .inl u1)), ((qa 12), .inr (5, [.ref (qa 14), .ref (qa 15), .ref (qa 16), .ref (qa 17), .ref (qa 18), .ref (qa 19), .ref (qa 20), .int 0])), ((qa 13), .inr (3, [.ref (qa 21), .ref (qa 22), .ref (qa 23), .ref (qa 24), .ref (qa 25), .ref (qa 26), .int 0]))] := hD
  refine lv_aload_n hx hb d_As_translate_17 rfl (lv_at hl 0 rfl) ?_
  refine lv_iconst (v := 0) hx hb d_As_translate_18 (by decide) ?_
  refine va_put (D := D) (ci := 1) (v := .int 0) (ty := .int) (C := R_As) (T := F_As) (N := 15) hx hb hts i_As t_As t_As_ok n_As hown hK hP hD hS 0 rfl rfl 3 (by decide) (hts _ w_119) (fun _ h9 => h9) rfl (by decide +kernel) rfl rfl (Nat.le_of_ble_eq_true rfl) d_As_translate_19 (fun H locs hP hD hS => ?_)
  have hP : va_P D cls [(h0, .inr (1, [.ref (qa 3), .ref (qa 4), .int 0, .int 0, .int 0, .int 0, .int 0, .int (-1), .long 0, .int 0, .int 0, .int 0, .int 0, .int (-1), .int (-1)])), ((qa 3), .inr (4, [.ref (qa 5), .int 0, .int 0, .int 0, .ref (qa 6), .ref (qa 7), .ref (qa 8)])), ((qa 4), .inr (6, [.ref (qa 9), .ref (qa 10), .ref (qa 11), .ref (qa 12), .ref (qa 13)])), ((qa 10), .inl ((qk 1), 3, .inl u1)), ((qa 12), .inr (5, [.ref (qa 14), .ref (qa 15), .ref (qa 16), .ref (qa 17), .ref (qa 18), .ref (qa 19), .ref (qa 20), .int 0])), ((qa 13), .inr (3, [.ref (qa 21), .ref (qa 22), .ref (qa 23), .ref (qa 24), .ref (qa 25), .ref (qa 26), .int 0]))] H := hP
  have hD : va_D A [(h0, .inr (1, [.ref (qa 3), .ref (qa 4), .int 0, .int 0, .int 0, .int 0, .int 0, .int (-1), .long 0, .int 0, .int 0, .int 0, .int 0, .int (-1), .int (-1)])), ((qa 3), .inr (4, [.ref (qa 5), .int 0, .int 0, .int 0, .ref (qa 6), .ref (qa 7), .ref (qa 8)])), ((qa 4), .inr (6, [.ref (qa 9), .ref (qa 10), .ref (qa 11), .ref (qa 12), .ref (qa 13)])), ((qa 10), .inl ((qk 1), 3, .inl u1)), ((qa 12), .inr (5, [.ref (qa 14), .ref (qa 15), .ref (qa 16), .ref (qa 17), .ref (qa 18), .ref (qa 19), .ref (qa 20), .int 0])), ((qa 13), .inr (3, [.ref (qa 21), .ref (qa 22), .ref (qa 23), .ref (qa 24), .ref (qa 25), .ref (qa 26), .int 0]))] := hD
  refine lv_aload_n hx hb d_As_translate_22 rfl (lv_at hl 0 rfl) ?_
  refine lv_iconst (v := 0) hx hb d_As_translate_23 (by decide) ?_
  refine va_put (D := D) (ci := 1) (v := .int 0) (ty := .int) (C := R_As) (T := F_As) (N := 15) hx hb hts i_As t_As t_As_ok n_As hown hK hP hD hS 0 rfl rfl 4 (by decide) (hts _ w_121) (fun _ h9 => h9) rfl (by decide +kernel) rfl rfl (Nat.le_of_ble_eq_true rfl) d_As_translate_24 (fun H locs hP hD hS => ?_)
  have hP : va_P D cls [(h0, .inr (1, [.ref (qa 3), .ref (qa 4), .int 0, .int 0, .int 0, .int 0, .int 0, .int (-1), .long 0, .int 0, .int 0, .int 0, .int 0, .int (-1), .int (-1)])), ((qa 3), .inr (4, [.ref (qa 5), .int 0, .int 0, .int 0, .ref (qa 6), .ref (qa 7), .ref (qa 8)])), ((qa 4), .inr (6, [.ref (qa 9), .ref (qa 10), .ref (qa 11), .ref (qa 12), .ref (qa 13)])), ((qa 10), .inl ((qk 1), 3, .inl u1)), ((qa 12), .inr (5, [.ref (qa 14), .ref (qa 15), .ref (qa 16), .ref (qa 17), .ref (qa 18), .ref (qa 19), .ref (qa 20), .int 0])), ((qa 13), .inr (3, [.ref (qa 21), .ref (qa 22), .ref (qa 23), .ref (qa 24), .ref (qa 25), .ref (qa 26), .int 0]))] H := hP
  have hD : va_D A [(h0, .inr (1, [.ref (qa 3), .ref (qa 4), .int 0, .int 0, .int 0, .int 0, .int 0, .int (-1), .long 0, .int 0, .int 0, .int 0, .int 0, .int (-1), .int (-1)])), ((qa 3), .inr (4, [.ref (qa 5), .int 0, .int 0, .int 0, .ref (qa 6), .ref (qa 7), .ref (qa 8)])), ((qa 4), .inr (6, [.ref (qa 9), .ref (qa 10), .ref (qa 11), .ref (qa 12), .ref (qa 13)])), ((qa 10), .inl ((qk 1), 3, .inl u1)), ((qa 12), .inr (5, [.ref (qa 14), .ref (qa 15), .ref (qa 16), .ref (qa 17), .ref (qa 18), .ref (qa 19), .ref (qa 20), .int 0])), ((qa 13), .inr (3, [.ref (qa 21), .ref (qa 22), .ref (qa 23), .ref (qa 24), .ref (qa 25), .ref (qa 26), .int 0]))] := hD
  refine lv_iconst (v := 0) hx hb d_As_translate_27 (by decide) ?_
  refine lv_istore_n (lv' := [(2, .int 0), (0, .ref h0), (1, .int 0)]) hx hb d_As_translate_28 rfl hl (by decide) rfl (fun ls hl => ?_)
  refine lv_iconst (v := 0) hx hb d_As_translate_29 (by decide) ?_
  refine lv_istore_n (lv' := [(3, .int 0), (2, .int 0), (0, .ref h0), (1, .int 0)]) hx hb d_As_translate_30 rfl hl (by decide) rfl (fun ls hl => ?_)
  refine lv_iload_n hx hb d_As_translate_31 rfl (lv_at hl 0 rfl) ?_
  refine lv_sipush (v := 8192) hx hb d_As_translate_32 (by decide) ?_
  refine lv_icmp_gt (tgt := 98) hx hb d_As_translate_35 (by decide) (fun q9 => absurd q9 (by decide : ¬ ((8192 : Int32) < 0))) (fun _ => ?_)
  refine lv_iload_n hx hb d_As_translate_38 rfl (lv_at hl 1 rfl) ?_
  refine lv_iload_n hx hb d_As_translate_39 rfl (lv_at hl 3 rfl) ?_
  refine lv_icmp_gt (tgt := 98) hx hb d_As_translate_40 (by decide) (fun q9 => absurd q9 (by decide : ¬ ((0 : Int32) < 0))) (fun _ => ?_)
  refine lv_aload_n hx hb d_As_translate_43 rfl (lv_at hl 2 rfl) ?_
  refine va_get (D := D) (ci := 1) (v := .int 0) (C := R_As) (T := F_As) (N := 15) hx hb hts i_As hown hK hP 0 rfl rfl 2 (by decide) (hts _ w_117) (fun _ h9 => h9) rfl d_As_translate_44 ?_
  refine lv_if_ne (tgt := 98) hx hb d_As_translate_47 (by decide) (fun q9 => absurd (by decide : ((0 : Int32) = 0)) q9) (fun _ => ?_)
  refine lv_aload_n hx hb d_As_translate_50 rfl (lv_at hl 2 rfl) ?_
  refine lv_dup hx hb d_As_translate_51 rfl ?_
  refine va_get (D := D) (ci := 1) (v := .int 0) (C := R_As) (T := F_As) (N := 15) hx hb hts i_As hown hK hP 0 rfl rfl 4 (by decide) (hts _ w_121) (fun _ h9 => h9) rfl d_As_translate_52 ?_
  refine lv_iconst (v := 1) hx hb d_As_translate_55 (by decide) ?_
  refine lv_iadd hx hb d_As_translate_56 ?_
  refine lv_topi (fun z2 ez2 => ?_)
  obtain rfl : z2 = 1 := ez2.trans (by decide)
  refine va_put (D := D) (ci := 1) (v := .int 1) (ty := .int) (C := R_As) (T := F_As) (N := 15) hx hb hts i_As t_As t_As_ok n_As hown hK hP hD hS 0 rfl rfl 4 (by decide) (hts _ w_121) (fun _ h9 => h9) rfl (by decide +kernel) rfl rfl (Nat.le_of_ble_eq_true rfl) d_As_translate_57 (fun H locs hP hD hS => ?_)
  have hP : va_P D cls [(h0, .inr (1, [.ref (qa 3), .ref (qa 4), .int 0, .int 0, .int 1, .int 0, .int 0, .int (-1), .long 0, .int 0, .int 0, .int 0, .int 0, .int (-1), .int (-1)])), ((qa 3), .inr (4, [.ref (qa 5), .int 0, .int 0, .int 0, .ref (qa 6), .ref (qa 7), .ref (qa 8)])), ((qa 4), .inr (6, [.ref (qa 9), .ref (qa 10), .ref (qa 11), .ref (qa 12), .ref (qa 13)])), ((qa 10), .inl ((qk 1), 3, .inl u1)), ((qa 12), .inr (5, [.ref (qa 14), .ref (qa 15), .ref (qa 16), .ref (qa 17), .ref (qa 18), .ref (qa 19), .ref (qa 20), .int 0])), ((qa 13), .inr (3, [.ref (qa 21), .ref (qa 22), .ref (qa 23), .ref (qa 24), .ref (qa 25), .ref (qa 26), .int 0]))] H := hP
  have hD : va_D A [(h0, .inr (1, [.ref (qa 3), .ref (qa 4), .int 0, .int 0, .int 1, .int 0, .int 0, .int (-1), .long 0, .int 0, .int 0, .int 0, .int 0, .int (-1), .int (-1)])), ((qa 3), .inr (4, [.ref (qa 5), .int 0, .int 0, .int 0, .ref (qa 6), .ref (qa 7), .ref (qa 8)])), ((qa 4), .inr (6, [.ref (qa 9), .ref (qa 10), .ref (qa 11), .ref (qa 12), .ref (qa 13)])), ((qa 10), .inl ((qk 1), 3, .inl u1)), ((qa 12), .inr (5, [.ref (qa 14), .ref (qa 15), .ref (qa 16), .ref (qa 17), .ref (qa 18), .ref (qa 19), .ref (qa 20), .int 0])), ((qa 13), .inr (3, [.ref (qa 21), .ref (qa 22), .ref (qa 23), .ref (qa 24), .ref (qa 25), .ref (qa 26), .int 0]))] := hD
  refine lv_aload_n hx hb d_As_translate_60 rfl (lv_at hl 2 rfl) ?_
  refine va_get (D := D) (ci := 1) (v := .ref (qa 3)) (C := R_As) (T := F_As) (N := 15) hx hb hts i_As hown hK hP 0 rfl rfl 0 (by decide) (hts _ w_113) (fun _ h9 => h9) rfl d_As_translate_61 ?_
  refine lv_iload_n hx hb d_As_translate_64 rfl (lv_at hl 1 rfl) ?_
  refine lv_iload_n hx hb d_As_translate_65 rfl (lv_at hl 3 rfl) ?_
  refine xc_V (As := [.int 0, .int 0]) (rest := []) (n := 2) (wc := [((qa 3), .inr (4, [.ref (qa 5), .int 0, .int 0, .int 0, .ref (qa 6), .ref (qa 7), .ref (qa 8)]))]) (wr := [(h0, .inr (1, [.ref (qa 3), .ref (qa 4), .int 0, .int 0, .int 1, .int 0, .int 0, .int (-1), .long 0, .int 0, .int 0, .int 0, .int 0, .int (-1), .int (-1)])), ((qa 4), .inr (6, [.ref (qa 9), .ref (qa 10), .ref (qa 11), .ref (qa 12), .ref (qa 13)])), ((qa 10), .inl ((qk 1), 3, .inl u1)), ((qa 12), .inr (5, [.ref (qa 14), .ref (qa 15), .ref (qa 16), .ref (qa 17), .ref (qa 18), .ref (qa 19), .ref (qa 20), .int 0])), ((qa 13), .inr (3, [.ref (qa 21), .ref (qa 22), .ref (qa 23), .ref (qa 24), .ref (qa 25), .ref (qa 26), .int 0]))]) (tc := []) (tr := [((qk 1), .int)]) ⟨hx, hb, hml, hown, hts⟩ (c_So_scanLine l D (qa 3) qa H.size) rfl rfl w_265 w_262 w_263 w_264 w_3 (by decide +kernel) ⟨Nat.le_of_ble_eq_true rfl, Nat.le_of_ble_eq_true rfl⟩ hP hD hK hS hA hN hZ [1] [0, 2, 3, 4, 5] rfl rfl (by decide) (by decide) (by decide) [] [0] rfl rfl (ci := 4) (q0 := 0) (q := (R_So, F_So, 7)) rfl rfl rfl rfl hl.1 rfl (Nat.le_of_ble_eq_true rfl) d_As_translate_66 ⟨Nat.le_of_ble_eq_true rfl, Nat.le_of_ble_eq_true rfl⟩ (fun u3 H locs hP hD hK hS => ?_)
  have hP : va_P D cls [(h0, .inr (1, [.ref (qa 3), .ref (qa 4), .int 0, .int 0, .int 1, .int 0, .int 0, .int (-1), .long 0, .int 0, .int 0, .int 0, .int 0, .int (-1), .int (-1)])), ((qa 4), .inr (6, [.ref (qa 9), .ref (qa 10), .ref (qa 11), .ref (qa 12), .ref (qa 13)])), ((qa 10), .inl ((qk 1), 3, .inl u1)), ((qa 12), .inr (5, [.ref (qa 14), .ref (qa 15), .ref (qa 16), .ref (qa 17), .ref (qa 18), .ref (qa 19), .ref (qa 20), .int 0])), ((qa 13), .inr (3, [.ref (qa 21), .ref (qa 22), .ref (qa 23), .ref (qa 24), .ref (qa 25), .ref (qa 26), .int 0])), ((qa 3), .inr (4, [.ref (qa 5), .int 0, .int 0, .int 0, .ref (qa 6), .ref (qa 7), .ref (qa 8)]))] H := hP
  have hD : va_D A [(h0, .inr (1, [.ref (qa 3), .ref (qa 4), .int 0, .int 0, .int 1, .int 0, .int 0, .int (-1), .long 0, .int 0, .int 0, .int 0, .int 0, .int (-1), .int (-1)])), ((qa 4), .inr (6, [.ref (qa 9), .ref (qa 10), .ref (qa 11), .ref (qa 12), .ref (qa 13)])), ((qa 10), .inl ((qk 1), 3, .inl u1)), ((qa 12), .inr (5, [.ref (qa 14), .ref (qa 15), .ref (qa 16), .ref (qa 17), .ref (qa 18), .ref (qa 19), .ref (qa 20), .int 0])), ((qa 13), .inr (3, [.ref (qa 21), .ref (qa 22), .ref (qa 23), .ref (qa 24), .ref (qa 25), .ref (qa 26), .int 0])), ((qa 3), .inr (4, [.ref (qa 5), .int 0, .int 0, .int 0, .ref (qa 6), .ref (qa 7), .ref (qa 8)]))] := hD
  have hK : va_K D cls [((qk 1), .int)] s := hK
  refine W.eq (g2 := F0 m 69 ls [.int 0]) rfl ?_
  refine lv_iconst (v := 1) hx hb d_As_translate_69 (by decide) ?_
  refine lv_iadd hx hb d_As_translate_70 ?_
  refine lv_topi (fun z4 ez4 => ?_)
  obtain rfl : z4 = 1 := ez4.trans (by decide)
  refine lv_istore_n (lv' := [(2, .int 1), (3, .int 0), (0, .ref h0), (1, .int 0)]) hx hb d_As_translate_71 rfl hl (by decide) rfl (fun ls hl => ?_)
  refine lv_aload_n hx hb d_As_translate_72 rfl (lv_at hl 2 rfl) ?_
  refine lv_iconst (v := 0) hx hb d_As_translate_73 (by decide) ?_
  refine va_put (D := D) (ci := 1) (v := .int 0) (ty := .int) (C := R_As) (T := F_As) (N := 15) hx hb hts i_As t_As t_As_ok n_As hown hK hP hD hS 0 rfl rfl 6 (by decide) (hts _ w_123) (fun _ h9 => h9) rfl (by decide +kernel) rfl rfl (Nat.le_of_ble_eq_true rfl) d_As_translate_74 (fun H locs hP hD hS => ?_)
  have hP : va_P D cls [(h0, .inr (1, [.ref (qa 3), .ref (qa 4), .int 0, .int 0, .int 1, .int 0, .int 0, .int (-1), .long 0, .int 0, .int 0, .int 0, .int 0, .int (-1), .int (-1)])), ((qa 4), .inr (6, [.ref (qa 9), .ref (qa 10), .ref (qa 11), .ref (qa 12), .ref (qa 13)])), ((qa 10), .inl ((qk 1), 3, .inl u1)), ((qa 12), .inr (5, [.ref (qa 14), .ref (qa 15), .ref (qa 16), .ref (qa 17), .ref (qa 18), .ref (qa 19), .ref (qa 20), .int 0])), ((qa 13), .inr (3, [.ref (qa 21), .ref (qa 22), .ref (qa 23), .ref (qa 24), .ref (qa 25), .ref (qa 26), .int 0])), ((qa 3), .inr (4, [.ref (qa 5), .int 0, .int 0, .int 0, .ref (qa 6), .ref (qa 7), .ref (qa 8)]))] H := hP
  have hD : va_D A [(h0, .inr (1, [.ref (qa 3), .ref (qa 4), .int 0, .int 0, .int 1, .int 0, .int 0, .int (-1), .long 0, .int 0, .int 0, .int 0, .int 0, .int (-1), .int (-1)])), ((qa 4), .inr (6, [.ref (qa 9), .ref (qa 10), .ref (qa 11), .ref (qa 12), .ref (qa 13)])), ((qa 10), .inl ((qk 1), 3, .inl u1)), ((qa 12), .inr (5, [.ref (qa 14), .ref (qa 15), .ref (qa 16), .ref (qa 17), .ref (qa 18), .ref (qa 19), .ref (qa 20), .int 0])), ((qa 13), .inr (3, [.ref (qa 21), .ref (qa 22), .ref (qa 23), .ref (qa 24), .ref (qa 25), .ref (qa 26), .int 0])), ((qa 3), .inr (4, [.ref (qa 5), .int 0, .int 0, .int 0, .ref (qa 6), .ref (qa 7), .ref (qa 8)]))] := hD
  refine lv_aload_n hx hb d_As_translate_77 rfl (lv_at hl 2 rfl) ?_
  refine xc_V (As := []) (rest := []) (n := 0) (wc := [(h0, .inr (1, [.ref (qa 3), .ref (qa 4), .int 0, .int 0, .int 1, .int 0, .int 0, .int (-1), .long 0, .int 0, .int 0, .int 0, .int 0, .int (-1), .int (-1)])), ((qa 3), .inr (4, [.ref (qa 5), .int 0, .int 0, .int 0, .ref (qa 6), .ref (qa 7), .ref (qa 8)]))]) (wr := [((qa 4), .inr (6, [.ref (qa 9), .ref (qa 10), .ref (qa 11), .ref (qa 12), .ref (qa 13)])), ((qa 10), .inl ((qk 1), 3, .inl u1)), ((qa 12), .inr (5, [.ref (qa 14), .ref (qa 15), .ref (qa 16), .ref (qa 17), .ref (qa 18), .ref (qa 19), .ref (qa 20), .int 0])), ((qa 13), .inr (3, [.ref (qa 21), .ref (qa 22), .ref (qa 23), .ref (qa 24), .ref (qa 25), .ref (qa 26), .int 0]))]) (tc := []) (tr := [((qk 1), .int)]) ⟨hx, hb, hml, hown, hts⟩ (c_As_readLabels l D h0 qa H.size) rfl rfl w_270 w_268 w_269 w_553 w_2 (by decide +kernel) ⟨Nat.le_of_ble_eq_true rfl, Nat.le_of_ble_eq_true rfl⟩ hP hD hK hS hA hN hZ [0, 5] [1, 2, 3, 4] rfl rfl (by decide) (by decide) (by decide) [] [0] rfl rfl (ci := 1) (q0 := 0) (q := (R_As, F_As, 15)) rfl rfl rfl rfl hl.1 rfl (Nat.le_of_ble_eq_true rfl) d_As_translate_78 ⟨Nat.le_of_ble_eq_true rfl, Nat.le_of_ble_eq_true rfl⟩ (fun u5 H locs hP hD hK hS => ?_)
  have hP : va_P D cls [((qa 4), .inr (6, [.ref (qa 9), .ref (qa 10), .ref (qa 11), .ref (qa 12), .ref (qa 13)])), ((qa 10), .inl ((qk 1), 3, .inl u1)), ((qa 12), .inr (5, [.ref (qa 14), .ref (qa 15), .ref (qa 16), .ref (qa 17), .ref (qa 18), .ref (qa 19), .ref (qa 20), .int 0])), ((qa 13), .inr (3, [.ref (qa 21), .ref (qa 22), .ref (qa 23), .ref (qa 24), .ref (qa 25), .ref (qa 26), .int 0])), (h0, .inr (1, [.ref (qa 3), .ref (qa 4), .int 0, .int 0, .int 1, .int 0, .int 0, .int (-1), .long 0, .int 0, .int 0, .int 0, .int 0, .int (-1), .int (-1)])), ((qa 3), .inr (4, [.ref (qa 5), .int 0, .int 0, .int 0, .ref (qa 6), .ref (qa 7), .ref (qa 8)]))] H := hP
  have hD : va_D A [((qa 4), .inr (6, [.ref (qa 9), .ref (qa 10), .ref (qa 11), .ref (qa 12), .ref (qa 13)])), ((qa 10), .inl ((qk 1), 3, .inl u1)), ((qa 12), .inr (5, [.ref (qa 14), .ref (qa 15), .ref (qa 16), .ref (qa 17), .ref (qa 18), .ref (qa 19), .ref (qa 20), .int 0])), ((qa 13), .inr (3, [.ref (qa 21), .ref (qa 22), .ref (qa 23), .ref (qa 24), .ref (qa 25), .ref (qa 26), .int 0])), (h0, .inr (1, [.ref (qa 3), .ref (qa 4), .int 0, .int 0, .int 1, .int 0, .int 0, .int (-1), .long 0, .int 0, .int 0, .int 0, .int 0, .int (-1), .int (-1)])), ((qa 3), .inr (4, [.ref (qa 5), .int 0, .int 0, .int 0, .ref (qa 6), .ref (qa 7), .ref (qa 8)]))] := hD
  have hK : va_K D cls [((qk 1), .int)] s := hK
  refine W.eq (g2 := F0 m 81 ls []) rfl ?_
  refine lv_aload_n hx hb d_As_translate_81 rfl (lv_at hl 2 rfl) ?_
  refine va_get (D := D) (ci := 1) (v := .int 0) (C := R_As) (T := F_As) (N := 15) hx hb hts i_As hown hK hP 4 rfl rfl 2 (by decide) (hts _ w_117) (fun _ h9 => h9) rfl d_As_translate_82 ?_
  refine lv_if_ne (tgt := 92) hx hb d_As_translate_85 (by decide) (fun q9 => absurd (by decide : ((0 : Int32) = 0)) q9) (fun _ => ?_)
  refine lv_aload_n hx hb d_As_translate_88 rfl (lv_at hl 2 rfl) ?_
  refine xc_V (As := []) (rest := []) (n := 0) (wc := [(h0, .inr (1, [.ref (qa 3), .ref (qa 4), .int 0, .int 0, .int 1, .int 0, .int 0, .int (-1), .long 0, .int 0, .int 0, .int 0, .int 0, .int (-1), .int (-1)])), ((qa 3), .inr (4, [.ref (qa 5), .int 0, .int 0, .int 0, .ref (qa 6), .ref (qa 7), .ref (qa 8)]))]) (wr := [((qa 4), .inr (6, [.ref (qa 9), .ref (qa 10), .ref (qa 11), .ref (qa 12), .ref (qa 13)])), ((qa 10), .inl ((qk 1), 3, .inl u1)), ((qa 12), .inr (5, [.ref (qa 14), .ref (qa 15), .ref (qa 16), .ref (qa 17), .ref (qa 18), .ref (qa 19), .ref (qa 20), .int 0])), ((qa 13), .inr (3, [.ref (qa 21), .ref (qa 22), .ref (qa 23), .ref (qa 24), .ref (qa 25), .ref (qa 26), .int 0]))]) (tc := []) (tr := [((qk 1), .int)]) ⟨hx, hb, hml, hown, hts⟩ (c_As_readStatement l D h0 qa H.size) rfl rfl w_278 w_276 w_277 w_554 w_2 (by decide +kernel) ⟨Nat.le_of_ble_eq_true rfl, Nat.le_of_ble_eq_true rfl⟩ hP hD hK hS hA hN hZ [4, 5] [0, 1, 2, 3] rfl rfl (by decide) (by decide) (by decide) [] [0] rfl rfl (ci := 1) (q0 := 0) (q := (R_As, F_As, 15)) rfl rfl rfl rfl hl.1 rfl (Nat.le_of_ble_eq_true rfl) d_As_translate_89 ⟨Nat.le_of_ble_eq_true rfl, Nat.le_of_ble_eq_true rfl⟩ (fun u6 H locs hP hD hK hS => ?_)
  have hP : va_P D cls [((qa 4), .inr (6, [.ref (qa 9), .ref (qa 10), .ref (qa 11), .ref (qa 12), .ref (qa 13)])), ((qa 10), .inl ((qk 1), 3, .inl u1)), ((qa 12), .inr (5, [.ref (qa 14), .ref (qa 15), .ref (qa 16), .ref (qa 17), .ref (qa 18), .ref (qa 19), .ref (qa 20), .int 0])), ((qa 13), .inr (3, [.ref (qa 21), .ref (qa 22), .ref (qa 23), .ref (qa 24), .ref (qa 25), .ref (qa 26), .int 0])), (h0, .inr (1, [.ref (qa 3), .ref (qa 4), .int 0, .int 0, .int 1, .int 0, .int 0, .int (-1), .long 0, .int 0, .int 0, .int 0, .int 0, .int (-1), .int (-1)])), ((qa 3), .inr (4, [.ref (qa 5), .int 0, .int 0, .int 0, .ref (qa 6), .ref (qa 7), .ref (qa 8)]))] H := hP
  have hD : va_D A [((qa 4), .inr (6, [.ref (qa 9), .ref (qa 10), .ref (qa 11), .ref (qa 12), .ref (qa 13)])), ((qa 10), .inl ((qk 1), 3, .inl u1)), ((qa 12), .inr (5, [.ref (qa 14), .ref (qa 15), .ref (qa 16), .ref (qa 17), .ref (qa 18), .ref (qa 19), .ref (qa 20), .int 0])), ((qa 13), .inr (3, [.ref (qa 21), .ref (qa 22), .ref (qa 23), .ref (qa 24), .ref (qa 25), .ref (qa 26), .int 0])), (h0, .inr (1, [.ref (qa 3), .ref (qa 4), .int 0, .int 0, .int 1, .int 0, .int 0, .int (-1), .long 0, .int 0, .int 0, .int 0, .int 0, .int (-1), .int (-1)])), ((qa 3), .inr (4, [.ref (qa 5), .int 0, .int 0, .int 0, .ref (qa 6), .ref (qa 7), .ref (qa 8)]))] := hD
  have hK : va_K D cls [((qk 1), .int)] s := hK
  refine W.eq (g2 := F0 m 92 ls []) rfl ?_
  refine lv_iinc (v := 1) (lv' := [(3, .int 1), (2, .int 1), (0, .ref h0), (1, .int 0)]) hx hb d_As_translate_92 hl (k := 1) rfl (by decide) (by decide) rfl (fun ls hl => ?_)
  refine lv_goto (tgt := 31) hx hb d_As_translate_95 (by decide) ?_
  refine lv_iload_n hx hb d_As_translate_31 rfl (lv_at hl 0 rfl) ?_
  refine lv_sipush (v := 8192) hx hb d_As_translate_32 (by decide) ?_
  refine lv_icmp_gt (tgt := 98) hx hb d_As_translate_35 (by decide) (fun q9 => absurd q9 (by decide : ¬ ((8192 : Int32) < 1))) (fun _ => ?_)
  refine lv_iload_n hx hb d_As_translate_38 rfl (lv_at hl 1 rfl) ?_
  refine lv_iload_n hx hb d_As_translate_39 rfl (lv_at hl 3 rfl) ?_
  refine lv_icmp_gt (tgt := 98) hx hb d_As_translate_40 (by decide) (fun _ => ?_) (fun q9 => absurd (by decide : ((0 : Int32) < 1)) q9)
  refine lv_aload_n hx hb d_As_translate_98 rfl (lv_at hl 2 rfl) ?_
  refine va_get (D := D) (ci := 1) (v := .int 0) (C := R_As) (T := F_As) (N := 15) hx hb hts i_As hown hK hP 4 rfl rfl 2 (by decide) (hts _ w_117) (fun _ h9 => h9) rfl d_As_translate_99 ?_
  refine lv_if_ne (tgt := 109) hx hb d_As_translate_102 (by decide) (fun q9 => absurd (by decide : ((0 : Int32) = 0)) q9) (fun _ => ?_)
  refine lv_aload_n hx hb d_As_translate_105 rfl (lv_at hl 2 rfl) ?_
  refine xc_V (As := []) (rest := []) (n := 0) (wc := [(h0, .inr (1, [.ref (qa 3), .ref (qa 4), .int 0, .int 0, .int 1, .int 0, .int 0, .int (-1), .long 0, .int 0, .int 0, .int 0, .int 0, .int (-1), .int (-1)])), ((qa 4), .inr (6, [.ref (qa 9), .ref (qa 10), .ref (qa 11), .ref (qa 12), .ref (qa 13)])), ((qa 13), .inr (3, [.ref (qa 21), .ref (qa 22), .ref (qa 23), .ref (qa 24), .ref (qa 25), .ref (qa 26), .int 0]))]) (wr := [((qa 10), .inl ((qk 1), 3, .inl u1)), ((qa 12), .inr (5, [.ref (qa 14), .ref (qa 15), .ref (qa 16), .ref (qa 17), .ref (qa 18), .ref (qa 19), .ref (qa 20), .int 0])), ((qa 3), .inr (4, [.ref (qa 5), .int 0, .int 0, .int 0, .ref (qa 6), .ref (qa 7), .ref (qa 8)]))]) (tc := []) (tr := [((qk 1), .int)]) ⟨hx, hb, hml, hown, hts⟩ (c_As_settleBranches l D h0 qa H.size) rfl rfl w_292 w_290 w_291 w_555 w_2 (by decide +kernel) ⟨Nat.le_of_ble_eq_true rfl, Nat.le_of_ble_eq_true rfl⟩ hP hD hK hS hA hN hZ [4, 0, 3] [1, 2, 5] rfl rfl (by decide) (by decide) (by decide) [] [0] rfl rfl (ci := 1) (q0 := 0) (q := (R_As, F_As, 15)) rfl rfl rfl rfl hl.1 rfl (Nat.le_of_ble_eq_true rfl) d_As_translate_106 ⟨Nat.le_of_ble_eq_true rfl, Nat.le_of_ble_eq_true rfl⟩ (fun u7 H locs hP hD hK hS => ?_)
  have hP : va_P D cls [((qa 10), .inl ((qk 1), 3, .inl u1)), ((qa 12), .inr (5, [.ref (qa 14), .ref (qa 15), .ref (qa 16), .ref (qa 17), .ref (qa 18), .ref (qa 19), .ref (qa 20), .int 0])), ((qa 3), .inr (4, [.ref (qa 5), .int 0, .int 0, .int 0, .ref (qa 6), .ref (qa 7), .ref (qa 8)])), (h0, .inr (1, [.ref (qa 3), .ref (qa 4), .int 0, .int 0, .int 1, .int 0, .int 0, .int (-1), .long 0, .int 0, .int 0, .int 0, .int 0, .int (-1), .int (-1)])), ((qa 4), .inr (6, [.ref (qa 9), .ref (qa 10), .ref (qa 11), .ref (qa 12), .ref (qa 13)])), ((qa 13), .inr (3, [.ref (qa 21), .ref (qa 22), .ref (qa 23), .ref (qa 24), .ref (qa 25), .ref (qa 26), .int 0]))] H := hP
  have hD : va_D A [((qa 10), .inl ((qk 1), 3, .inl u1)), ((qa 12), .inr (5, [.ref (qa 14), .ref (qa 15), .ref (qa 16), .ref (qa 17), .ref (qa 18), .ref (qa 19), .ref (qa 20), .int 0])), ((qa 3), .inr (4, [.ref (qa 5), .int 0, .int 0, .int 0, .ref (qa 6), .ref (qa 7), .ref (qa 8)])), (h0, .inr (1, [.ref (qa 3), .ref (qa 4), .int 0, .int 0, .int 1, .int 0, .int 0, .int (-1), .long 0, .int 0, .int 0, .int 0, .int 0, .int (-1), .int (-1)])), ((qa 4), .inr (6, [.ref (qa 9), .ref (qa 10), .ref (qa 11), .ref (qa 12), .ref (qa 13)])), ((qa 13), .inr (3, [.ref (qa 21), .ref (qa 22), .ref (qa 23), .ref (qa 24), .ref (qa 25), .ref (qa 26), .int 0]))] := hD
  have hK : va_K D cls [((qk 1), .int)] s := hK
  refine W.eq (g2 := F0 m 109 ls []) rfl ?_
  refine lv_aload_n hx hb d_As_translate_109 rfl (lv_at hl 2 rfl) ?_
  refine va_get (D := D) (ci := 1) (v := .int 0) (C := R_As) (T := F_As) (N := 15) hx hb hts i_As hown hK hP 3 rfl rfl 2 (by decide) (hts _ w_117) (fun _ h9 => h9) rfl d_As_translate_110 ?_
  refine lv_if_eq (tgt := 124) hx hb d_As_translate_113 (by decide) (fun _ => ?_) (fun q9 => absurd (by decide : ((0 : Int32) = 0)) q9)
  refine lv_aload_n hx hb d_As_translate_124 rfl (lv_at hl 2 rfl) ?_
  refine va_get (D := D) (ci := 1) (v := .int 0) (C := R_As) (T := F_As) (N := 15) hx hb hts i_As hown hK hP 3 rfl rfl 2 (by decide) (hts _ w_117) (fun _ h9 => h9) rfl d_As_translate_125 ?_
  refine lv_if_ne (tgt := 135) hx hb d_As_translate_128 (by decide) (fun q9 => absurd (by decide : ((0 : Int32) = 0)) q9) (fun _ => ?_)
  refine lv_iconst (v := 1) hx hb d_As_translate_131 (by decide) ?_
  refine lv_goto (tgt := 136) hx hb d_As_translate_132 (by decide) ?_
  exact xr_z hx hb hr rfl hlocks hP hD hK hS (()) [3, 2, 4] rfl rfl (by decide) [] rfl rfl d_As_translate_136

theorem d_OF_assemble_0 : decode b_OF_assemble 0 = .ok (.aload_n 0, 1) := by decide +kernel
theorem d_OF_assemble_1 : decode b_OF_assemble 1 = .ok (.getfield 10, 3) := by decide +kernel
theorem d_OF_assemble_4 : decode b_OF_assemble 4 = .ok (.getfield 34, 3) := by decide +kernel
theorem d_OF_assemble_7 : decode b_OF_assemble 7 = .ok (.getfield 38, 3) := by decide +kernel
theorem d_OF_assemble_10 : decode b_OF_assemble 10 = .ok (.istore_n 1, 1) := by decide +kernel
theorem d_OF_assemble_11 : decode b_OF_assemble 11 = .ok (.aload_n 0, 1) := by decide +kernel
theorem d_OF_assemble_12 : decode b_OF_assemble 12 = .ok (.getfield 10, 3) := by decide +kernel
theorem d_OF_assemble_15 : decode b_OF_assemble 15 = .ok (.getfield 34, 3) := by decide +kernel
theorem d_OF_assemble_18 : decode b_OF_assemble 18 = .ok (.iconst 0, 1) := by decide +kernel
theorem d_OF_assemble_19 : decode b_OF_assemble 19 = .ok (.putfield 38, 3) := by decide +kernel
theorem d_OF_assemble_22 : decode b_OF_assemble 22 = .ok (.aload_n 0, 1) := by decide +kernel
theorem d_OF_assemble_23 : decode b_OF_assemble 23 = .ok (.getfield 29, 3) := by decide +kernel
theorem d_OF_assemble_26 : decode b_OF_assemble 26 = .ok (.bipush 8, 2) := by decide +kernel
theorem d_OF_assemble_28 : decode b_OF_assemble 28 = .ok (.if_icmp .lt 13, 3) := by decide +kernel
theorem d_OF_assemble_41 : decode b_OF_assemble 41 = .ok (.aload_n 0, 1) := by decide +kernel
theorem d_OF_assemble_42 : decode b_OF_assemble 42 = .ok (.getfield 10, 3) := by decide +kernel
theorem d_OF_assemble_45 : decode b_OF_assemble 45 = .ok (.iload_n 1, 1) := by decide +kernel
theorem d_OF_assemble_46 : decode b_OF_assemble 46 = .ok (.invokevirtual 61, 3) := by decide +kernel
theorem d_OF_assemble_49 : decode b_OF_assemble 49 = .ok (.ifCond .ne 5, 3) := by decide +kernel
theorem d_OF_assemble_54 : decode b_OF_assemble 54 = .ok (.aload_n 0, 1) := by decide +kernel
theorem d_OF_assemble_55 : decode b_OF_assemble 55 = .ok (.getfield 10, 3) := by decide +kernel
theorem d_OF_assemble_58 : decode b_OF_assemble 58 = .ok (.getfield 65, 3) := by decide +kernel
theorem d_OF_assemble_61 : decode b_OF_assemble 61 = .ok (.astore_n 2, 1) := by decide +kernel
theorem d_OF_assemble_62 : decode b_OF_assemble 62 = .ok (.aload_n 0, 1) := by decide +kernel
theorem d_OF_assemble_63 : decode b_OF_assemble 63 = .ok (.getfield 10, 3) := by decide +kernel
theorem d_OF_assemble_66 : decode b_OF_assemble 66 = .ok (.aload_n 0, 1) := by decide +kernel
theorem d_OF_assemble_67 : decode b_OF_assemble 67 = .ok (.getfield 25, 3) := by decide +kernel
theorem d_OF_assemble_70 : decode b_OF_assemble 70 = .ok (.aload_n 0, 1) := by decide +kernel
theorem d_OF_assemble_71 : decode b_OF_assemble 71 = .ok (.getfield 29, 3) := by decide +kernel
theorem d_OF_assemble_74 : decode b_OF_assemble 74 = .ok (.aaload, 1) := by decide +kernel
theorem d_OF_assemble_75 : decode b_OF_assemble 75 = .ok (.putfield 65, 3) := by decide +kernel
theorem d_OF_assemble_78 : decode b_OF_assemble 78 = .ok (.aload_n 0, 1) := by decide +kernel
theorem d_OF_assemble_79 : decode b_OF_assemble 79 = .ok (.getfield 25, 3) := by decide +kernel
theorem d_OF_assemble_82 : decode b_OF_assemble 82 = .ok (.aload_n 0, 1) := by decide +kernel
theorem d_OF_assemble_83 : decode b_OF_assemble 83 = .ok (.getfield 29, 3) := by decide +kernel
theorem d_OF_assemble_86 : decode b_OF_assemble 86 = .ok (.aload_n 2, 1) := by decide +kernel
theorem d_OF_assemble_87 : decode b_OF_assemble 87 = .ok (.aastore, 1) := by decide +kernel
theorem d_OF_assemble_88 : decode b_OF_assemble 88 = .ok (.aload_n 0, 1) := by decide +kernel
theorem d_OF_assemble_89 : decode b_OF_assemble 89 = .ok (.dup, 1) := by decide +kernel
theorem d_OF_assemble_90 : decode b_OF_assemble 90 = .ok (.getfield 29, 3) := by decide +kernel
theorem d_OF_assemble_93 : decode b_OF_assemble 93 = .ok (.iconst 1, 1) := by decide +kernel
theorem d_OF_assemble_94 : decode b_OF_assemble 94 = .ok (.iadd, 1) := by decide +kernel
theorem d_OF_assemble_95 : decode b_OF_assemble 95 = .ok (.putfield 29, 3) := by decide +kernel
theorem d_OF_assemble_98 : decode b_OF_assemble 98 = .ok (.aload_n 0, 1) := by decide +kernel
theorem d_OF_assemble_99 : decode b_OF_assemble 99 = .ok (.getfield 29, 3) := by decide +kernel
theorem d_OF_assemble_102 : decode b_OF_assemble 102 = .ok (.iconst 1, 1) := by decide +kernel
theorem d_OF_assemble_103 : decode b_OF_assemble 103 = .ok (.isub, 1) := by decide +kernel
theorem d_OF_assemble_104 : decode b_OF_assemble 104 = .ok (.ireturn, 1) := by decide +kernel
set_option maxHeartbeats 4000000 in
set_option maxRecDepth 100000 in
theorem c_OF_assemble (l : Launch) (D : va_G) (h0 : Nat) (qa : Nat → Nat) (qk : Nat → ClassId) (uf : Nat → Option Nat) (sz : Nat) : Met l y_OF_assemble (Cond.code y_OF_assemble b_OF_assemble 3 (some .int) :: bw) (xR 4 0 0) (va_Pc [.ref h0] (xP D [((qk 1), .int), ((qk 2), .object "ObjectForge$Unit")] sz [(h0, .inr (0, [.ref (qa 0), .ref (qa 1), .ref (qa 2), .int 0])), ((qa 0), .inr (1, [.ref (qa 3), .ref (qa 4), .int 0, .int 0, .int 0, .int 0, .int 0, .int (-1), .long 0, .int 0, .int 0, .int 0, .int 0, .int (-1), .int (-1)])), ((qa 3), .inr (4, [.ref (qa 5), .int 0, .int 0, .int 0, .ref (qa 6), .ref (qa 7), .ref (qa 8)])), ((qa 4), .inr (6, [.ref (qa 9), .ref (qa 10), .ref (qa 11), .ref (qa 12), .ref (qa 13)])), ((qa 10), .inl ((qk 1), 3, .inl (fun _ => 0))), ((qa 12), .inr (5, [.ref (qa 14), .ref (qa 15), .ref (qa 16), .ref (qa 17), .ref (qa 18), .ref (qa 19), .ref (qa 20), .int 0])), ((qa 13), .inr (3, [.ref (qa 21), .ref (qa 22), .ref (qa 23), .ref (qa 24), .ref (qa 25), .ref (qa 26), .int 0])), ((qa 2), .inl ((qk 2), 8, .inr (.inr (.inr (.inr uf)))))])) (xQ (S := Unit) (fun _ => some (.int 0)) (fun _ => [(h0, .inr (0, [.ref (qa 0), .ref (qa 1), .ref (qa 2), .int 1]))]) (fun _ => []) D (va_A [(h0, .inr (0, [.ref (qa 0), .ref (qa 1), .ref (qa 2), .int 0])), ((qa 0), .inr (1, [.ref (qa 3), .ref (qa 4), .int 0, .int 0, .int 0, .int 0, .int 0, .int (-1), .long 0, .int 0, .int 0, .int 0, .int 0, .int (-1), .int (-1)])), ((qa 3), .inr (4, [.ref (qa 5), .int 0, .int 0, .int 0, .ref (qa 6), .ref (qa 7), .ref (qa 8)])), ((qa 4), .inr (6, [.ref (qa 9), .ref (qa 10), .ref (qa 11), .ref (qa 12), .ref (qa 13)])), ((qa 10), .inl ((qk 1), 3, .inl (fun _ => 0))), ((qa 12), .inr (5, [.ref (qa 14), .ref (qa 15), .ref (qa 16), .ref (qa 17), .ref (qa 18), .ref (qa 19), .ref (qa 20), .int 0])), ((qa 13), .inr (3, [.ref (qa 21), .ref (qa 22), .ref (qa 23), .ref (qa 24), .ref (qa 25), .ref (qa 26), .int 0])), ((qa 2), .inl ((qk 2), 8, .inr (.inr (.inr (.inr uf)))))] sz)) 0 0 (va_A [(h0, .inr (0, [.ref (qa 0), .ref (qa 1), .ref (qa 2), .int 0])), ((qa 0), .inr (1, [.ref (qa 3), .ref (qa 4), .int 0, .int 0, .int 0, .int 0, .int 0, .int (-1), .long 0, .int 0, .int 0, .int 0, .int 0, .int (-1), .int (-1)])), ((qa 3), .inr (4, [.ref (qa 5), .int 0, .int 0, .int 0, .ref (qa 6), .ref (qa 7), .ref (qa 8)])), ((qa 4), .inr (6, [.ref (qa 9), .ref (qa 10), .ref (qa 11), .ref (qa 12), .ref (qa 13)])), ((qa 10), .inl ((qk 1), 3, .inl (fun _ => 0))), ((qa 12), .inr (5, [.ref (qa 14), .ref (qa 15), .ref (qa 16), .ref (qa 17), .ref (qa 18), .ref (qa 19), .ref (qa 20), .int 0])), ((qa 13), .inr (3, [.ref (qa 21), .ref (qa 22), .ref (qa 23), .ref (qa 24), .ref (qa 25), .ref (qa 26), .int 0])), ((qa 2), .inl ((qk 2), 8, .inr (.inr (.inr (.inr uf)))))] sz) := by
  refine Met.ofW (cc := b_OF_assemble) (maxL := 3) (ret := (some .int)) (by decide) rfl ?_
  intro p e s m args below meth c s₁ B hml hv
  obtain ⟨rfl, hsz, hP, hK, hD0, hN, hZ⟩ := hv
  have hx := B.exec
  have hb := B.bytes
  have hr := B.returns
  have hlocks := B.notSynchronized
  have hts : ∀ w ∈ bw, w.before _ s = true := fun w h => atoms_spec (ws := Cond.code y_OF_assemble b_OF_assemble 3 (some .int) :: bw) B.pre w (List.mem_cons_of_mem _ h)
  have hown : s.vm.findClass "ObjectForge" = some m.cls := findClass_of_methodNamed B.named
  subst hsz
  have hP0 := hP
  have hD := hD0.self (sz := s.heap.size)
  generalize hAe : va_A [(h0, .inr (0, [.ref (qa 0), .ref (qa 1), .ref (qa 2), .int 0])), ((qa 0), .inr (1, [.ref (qa 3), .ref (qa 4), .int 0, .int 0, .int 0, .int 0, .int 0, .int (-1), .long 0, .int 0, .int 0, .int 0, .int 0, .int (-1), .int (-1)])), ((qa 3), .inr (4, [.ref (qa 5), .int 0, .int 0, .int 0, .ref (qa 6), .ref (qa 7), .ref (qa 8)])), ((qa 4), .inr (6, [.ref (qa 9), .ref (qa 10), .ref (qa 11), .ref (qa 12), .ref (qa 13)])), ((qa 10), .inl ((qk 1), 3, .inl (fun _ => 0))), ((qa 12), .inr (5, [.ref (qa 14), .ref (qa 15), .ref (qa 16), .ref (qa 17), .ref (qa 18), .ref (qa 19), .ref (qa 20), .int 0])), ((qa 13), .inr (3, [.ref (qa 21), .ref (qa 22), .ref (qa 23), .ref (qa 24), .ref (qa 25), .ref (qa 26), .int 0])), ((qa 2), .inl ((qk 2), 8, .inr (.inr (.inr (.inr uf)))))] s.heap.size = A at hD hZ ⊢
  have hA : ∀ q : Nat, s.heap.size ≤ q → A q := fun q h => by rw [← hAe]; exact Or.inr h
  have hS : va_S A s.heap s.heap [] := va_S.rf
  have hl := lv_entry ([.ref h0]) (n := 3) (Nat.le_of_ble_eq_true rfl)
  rw [lg_entry_eq]
  generalize (lg_sl ([.ref h0]) ++ List.replicate (3 - (lg_sl ([.ref h0])).length) Slot.unset).toArray = ls at hl ⊢
  have hl : lv_has ls 3 [(0, .ref h0)] := hl
  refine lv_aload_n hx hb d_OF_assemble_0 rfl (lv_at hl 0 rfl) ?_
  refine va_get (D := D) (ci := 0) (v := .ref (qa 0)) (C := R_OF) (T := F_OF) (N := 4) hx hb hts i_OF hown hK hP 0 rfl rfl 0 (by decide) (hts _ w_150) (fun _ h9 => h9) rfl d_OF_assemble_1 ?_
  refine va_get (D := D) (ci := 1) (v := .ref (qa 3)) (C := R_As) (T := F_As) (N := 15) hx hb hts i_As hown hK hP 1 rfl rfl 0 (by decide) (hts _ w_114) (fun _ h9 => h9) rfl d_OF_assemble_4 ?_
  refine va_get (D := D) (ci := 4) (v := .int 0) (C := R_So) (T := F_So) (N := 7) hx hb hts i_So hown hK hP 2 rfl rfl 1 (by decide) (hts _ w_36) (fun _ h9 => h9) rfl d_OF_assemble_7 ?_
  refine lv_istore_n (lv' := [(1, .int 0), (0, .ref h0)]) hx hb d_OF_assemble_10 rfl hl (by decide) rfl (fun ls hl => ?_)
  refine lv_aload_n hx hb d_OF_assemble_11 rfl (lv_at hl 1 rfl) ?_
  refine va_get (D := D) (ci := 0) (v := .ref (qa 0)) (C := R_OF) (T := F_OF) (N := 4) hx hb hts i_OF hown hK hP 0 rfl rfl 0 (by decide) (hts _ w_150) (fun _ h9 => h9) rfl d_OF_assemble_12 ?_
  refine va_get (D := D) (ci := 1) (v := .ref (qa 3)) (C := R_As) (T := F_As) (N := 15) hx hb hts i_As hown hK hP 1 rfl rfl 0 (by decide) (hts _ w_114) (fun _ h9 => h9) rfl d_OF_assemble_15 ?_
  refine lv_iconst (v := 0) hx hb d_OF_assemble_18 (by decide) ?_
  refine va_put (D := D) (ci := 4) (v := .int 0) (ty := .int) (C := R_So) (T := F_So) (N := 7) hx hb hts i_So t_So t_So_ok n_So hown hK hP hD hS 2 rfl rfl 1 (by decide) (hts _ w_36) (fun _ h9 => h9) rfl (by decide +kernel) rfl rfl (Nat.le_of_ble_eq_true rfl) d_OF_assemble_19 (fun H locs hP hD hS => ?_)
  have hP : va_P D cls [(h0, .inr (0, [.ref (qa 0), .ref (qa 1), .ref (qa 2), .int 0])), ((qa 0), .inr (1, [.ref (qa 3), .ref (qa 4), .int 0, .int 0, .int 0, .int 0, .int 0, .int (-1), .long 0, .int 0, .int 0, .int 0, .int 0, .int (-1), .int (-1)])), ((qa 3), .inr (4, [.ref (qa 5), .int 0, .int 0, .int 0, .ref (qa 6), .ref (qa 7), .ref (qa 8)])), ((qa 4), .inr (6, [.ref (qa 9), .ref (qa 10), .ref (qa 11), .ref (qa 12), .ref (qa 13)])), ((qa 10), .inl ((qk 1), 3, .inl (fun _ => 0))), ((qa 12), .inr (5, [.ref (qa 14), .ref (qa 15), .ref (qa 16), .ref (qa 17), .ref (qa 18), .ref (qa 19), .ref (qa 20), .int 0])), ((qa 13), .inr (3, [.ref (qa 21), .ref (qa 22), .ref (qa 23), .ref (qa 24), .ref (qa 25), .ref (qa 26), .int 0])), ((qa 2), .inl ((qk 2), 8, .inr (.inr (.inr (.inr uf)))))] H := hP
  have hD : va_D A [(h0, .inr (0, [.ref (qa 0), .ref (qa 1), .ref (qa 2), .int 0])), ((qa 0), .inr (1, [.ref (qa 3), .ref (qa 4), .int 0, .int 0, .int 0, .int 0, .int 0, .int (-1), .long 0, .int 0, .int 0, .int 0, .int 0, .int (-1), .int (-1)])), ((qa 3), .inr (4, [.ref (qa 5), .int 0, .int 0, .int 0, .ref (qa 6), .ref (qa 7), .ref (qa 8)])), ((qa 4), .inr (6, [.ref (qa 9), .ref (qa 10), .ref (qa 11), .ref (qa 12), .ref (qa 13)])), ((qa 10), .inl ((qk 1), 3, .inl (fun _ => 0))), ((qa 12), .inr (5, [.ref (qa 14), .ref (qa 15), .ref (qa 16), .ref (qa 17), .ref (qa 18), .ref (qa 19), .ref (qa 20), .int 0])), ((qa 13), .inr (3, [.ref (qa 21), .ref (qa 22), .ref (qa 23), .ref (qa 24), .ref (qa 25), .ref (qa 26), .int 0])), ((qa 2), .inl ((qk 2), 8, .inr (.inr (.inr (.inr uf)))))] := hD
  refine lv_aload_n hx hb d_OF_assemble_22 rfl (lv_at hl 1 rfl) ?_
  refine va_get (D := D) (ci := 0) (v := .int 0) (C := R_OF) (T := F_OF) (N := 4) hx hb hts i_OF hown hK hP 0 rfl rfl 3 (by decide) (hts _ w_153) (fun _ h9 => h9) rfl d_OF_assemble_23 ?_
  refine lv_bipush (v := 8) hx hb d_OF_assemble_26 (by decide) ?_
  refine lv_icmp_lt (tgt := 41) hx hb d_OF_assemble_28 (by decide) (fun _ => ?_) (fun q9 => absurd (by decide : ((0 : Int32) < 8)) q9)
  refine lv_aload_n hx hb d_OF_assemble_41 rfl (lv_at hl 1 rfl) ?_
  refine va_get (D := D) (ci := 0) (v := .ref (qa 0)) (C := R_OF) (T := F_OF) (N := 4) hx hb hts i_OF hown hK hP 0 rfl rfl 0 (by decide) (hts _ w_150) (fun _ h9 => h9) rfl d_OF_assemble_42 ?_
  refine lv_iload_n hx hb d_OF_assemble_45 rfl (lv_at hl 0 rfl) ?_
  refine xc_V (As := [.int 0]) (rest := []) (n := 1) (wc := [((qa 0), .inr (1, [.ref (qa 3), .ref (qa 4), .int 0, .int 0, .int 0, .int 0, .int 0, .int (-1), .long 0, .int 0, .int 0, .int 0, .int 0, .int (-1), .int (-1)])), ((qa 3), .inr (4, [.ref (qa 5), .int 0, .int 0, .int 0, .ref (qa 6), .ref (qa 7), .ref (qa 8)])), ((qa 4), .inr (6, [.ref (qa 9), .ref (qa 10), .ref (qa 11), .ref (qa 12), .ref (qa 13)])), ((qa 10), .inl ((qk 1), 3, .inl (fun _ => 0))), ((qa 12), .inr (5, [.ref (qa 14), .ref (qa 15), .ref (qa 16), .ref (qa 17), .ref (qa 18), .ref (qa 19), .ref (qa 20), .int 0])), ((qa 13), .inr (3, [.ref (qa 21), .ref (qa 22), .ref (qa 23), .ref (qa 24), .ref (qa 25), .ref (qa 26), .int 0]))]) (wr := [(h0, .inr (0, [.ref (qa 0), .ref (qa 1), .ref (qa 2), .int 0])), ((qa 2), .inl ((qk 2), 8, .inr (.inr (.inr (.inr uf)))))]) (tc := [((qk 1), .int)]) (tr := [((qk 2), .object "ObjectForge$Unit")]) ⟨hx, hb, hml, hown, hts⟩ (c_As_translate l D (qa 0) qa qk H.size) rfl rfl w_254 w_251 w_252 w_253 w_2 (by decide +kernel) ⟨Nat.le_of_ble_eq_true rfl, Nat.le_of_ble_eq_true rfl⟩ hP hD hK hS hA hN hZ [1, 2, 3, 4, 5, 6] [0, 7] rfl rfl (by decide) (by decide) (by decide) [0] [1] rfl rfl (ci := 1) (q0 := 0) (q := (R_As, F_As, 15)) rfl rfl rfl rfl hl.1 rfl (Nat.le_of_ble_eq_true rfl) d_OF_assemble_46 ⟨Nat.le_of_ble_eq_true rfl, Nat.le_of_ble_eq_true rfl⟩ (fun u1 H locs hP hD hK hS => ?_)
  have hP : va_P D cls [(h0, .inr (0, [.ref (qa 0), .ref (qa 1), .ref (qa 2), .int 0])), ((qa 2), .inl ((qk 2), 8, .inr (.inr (.inr (.inr uf))))), ((qa 0), .inr (1, [.ref (qa 3), .ref (qa 4), .int 0, .int 0, .int 1, .int 0, .int 0, .int (-1), .long 0, .int 0, .int 0, .int 0, .int 0, .int (-1), .int (-1)])), ((qa 3), .inr (4, [.ref (qa 5), .int 0, .int 0, .int 0, .ref (qa 6), .ref (qa 7), .ref (qa 8)])), ((qa 4), .inr (6, [.ref (qa 9), .ref (qa 10), .ref (qa 11), .ref (qa 12), .ref (qa 13)]))] H := hP
  have hD : va_D A [(h0, .inr (0, [.ref (qa 0), .ref (qa 1), .ref (qa 2), .int 0])), ((qa 2), .inl ((qk 2), 8, .inr (.inr (.inr (.inr uf))))), ((qa 0), .inr (1, [.ref (qa 3), .ref (qa 4), .int 0, .int 0, .int 1, .int 0, .int 0, .int (-1), .long 0, .int 0, .int 0, .int 0, .int 0, .int (-1), .int (-1)])), ((qa 3), .inr (4, [.ref (qa 5), .int 0, .int 0, .int 0, .ref (qa 6), .ref (qa 7), .ref (qa 8)])), ((qa 4), .inr (6, [.ref (qa 9), .ref (qa 10), .ref (qa 11), .ref (qa 12), .ref (qa 13)]))] := hD
  have hK : va_K D cls [((qk 2), .object "ObjectForge$Unit")] s := hK
  refine W.eq (g2 := F0 m 49 ls [.int 1]) rfl ?_
  refine lv_if_ne (tgt := 54) hx hb d_OF_assemble_49 (by decide) (fun _ => ?_) (fun q9 => absurd q9 (by decide : ¬ ((1 : Int32) = 0)))
  refine lv_aload_n hx hb d_OF_assemble_54 rfl (lv_at hl 1 rfl) ?_
  refine va_get (D := D) (ci := 0) (v := .ref (qa 0)) (C := R_OF) (T := F_OF) (N := 4) hx hb hts i_OF hown hK hP 0 rfl rfl 0 (by decide) (hts _ w_150) (fun _ h9 => h9) rfl d_OF_assemble_55 ?_
  refine va_get (D := D) (ci := 1) (v := .ref (qa 4)) (C := R_As) (T := F_As) (N := 15) hx hb hts i_As hown hK hP 2 rfl rfl 1 (by decide) (hts _ w_116) (fun _ h9 => h9) rfl d_OF_assemble_58 ?_
  refine lv_astore_n (lv' := [(2, .ref (qa 4)), (1, .int 0), (0, .ref h0)]) hx hb d_OF_assemble_61 rfl hl (by decide) rfl (fun ls hl => ?_)
  refine lv_aload_n hx hb d_OF_assemble_62 rfl (lv_at hl 2 rfl) ?_
  refine va_get (D := D) (ci := 0) (v := .ref (qa 0)) (C := R_OF) (T := F_OF) (N := 4) hx hb hts i_OF hown hK hP 0 rfl rfl 0 (by decide) (hts _ w_150) (fun _ h9 => h9) rfl d_OF_assemble_63 ?_
  refine lv_aload_n hx hb d_OF_assemble_66 rfl (lv_at hl 2 rfl) ?_
  refine va_get (D := D) (ci := 0) (v := .ref (qa 2)) (C := R_OF) (T := F_OF) (N := 4) hx hb hts i_OF hown hK hP 0 rfl rfl 2 (by decide) (hts _ w_152) (fun _ h9 => h9) rfl d_OF_assemble_67 ?_
  refine lv_aload_n hx hb d_OF_assemble_70 rfl (lv_at hl 2 rfl) ?_
  refine va_get (D := D) (ci := 0) (v := .int 0) (C := R_OF) (T := F_OF) (N := 4) hx hb hts i_OF hown hK hP 0 rfl rfl 3 (by decide) (hts _ w_153) (fun _ h9 => h9) rfl d_OF_assemble_71 ?_
  refine va_aldq hx hb hK hP 1 0 rfl rfl (by unfold vp_in; decide) d_OF_assemble_74 ?_
  refine va_put (D := D) (ci := 1) (v := va_rf (uf (0 : Int32).toNatClampNeg)) (ty := .object "ObjectForge$Unit") (C := R_As) (T := F_As) (N := 15) hx hb hts i_As t_As t_As_ok n_As hown hK hP hD hS 2 rfl rfl 1 (by decide) (hts _ w_116) (fun _ h9 => h9) rfl (by decide +kernel) (narrow_rf _ _) (fits_rf _ _) (Nat.le_of_ble_eq_true rfl) d_OF_assemble_75 (fun H locs hP hD hS => ?_)
  have hP : va_P D cls [(h0, .inr (0, [.ref (qa 0), .ref (qa 1), .ref (qa 2), .int 0])), ((qa 2), .inl ((qk 2), 8, .inr (.inr (.inr (.inr uf))))), ((qa 0), .inr (1, [.ref (qa 3), va_rf (uf (0 : Int32).toNatClampNeg), .int 0, .int 0, .int 1, .int 0, .int 0, .int (-1), .long 0, .int 0, .int 0, .int 0, .int 0, .int (-1), .int (-1)])), ((qa 3), .inr (4, [.ref (qa 5), .int 0, .int 0, .int 0, .ref (qa 6), .ref (qa 7), .ref (qa 8)])), ((qa 4), .inr (6, [.ref (qa 9), .ref (qa 10), .ref (qa 11), .ref (qa 12), .ref (qa 13)]))] H := hP
  have hD : va_D A [(h0, .inr (0, [.ref (qa 0), .ref (qa 1), .ref (qa 2), .int 0])), ((qa 2), .inl ((qk 2), 8, .inr (.inr (.inr (.inr uf))))), ((qa 0), .inr (1, [.ref (qa 3), va_rf (uf (0 : Int32).toNatClampNeg), .int 0, .int 0, .int 1, .int 0, .int 0, .int (-1), .long 0, .int 0, .int 0, .int 0, .int 0, .int (-1), .int (-1)])), ((qa 3), .inr (4, [.ref (qa 5), .int 0, .int 0, .int 0, .ref (qa 6), .ref (qa 7), .ref (qa 8)])), ((qa 4), .inr (6, [.ref (qa 9), .ref (qa 10), .ref (qa 11), .ref (qa 12), .ref (qa 13)]))] := hD
  refine lv_aload_n hx hb d_OF_assemble_78 rfl (lv_at hl 2 rfl) ?_
  refine va_get (D := D) (ci := 0) (v := .ref (qa 2)) (C := R_OF) (T := F_OF) (N := 4) hx hb hts i_OF hown hK hP 0 rfl rfl 2 (by decide) (hts _ w_152) (fun _ h9 => h9) rfl d_OF_assemble_79 ?_
  refine lv_aload_n hx hb d_OF_assemble_82 rfl (lv_at hl 2 rfl) ?_
  refine va_get (D := D) (ci := 0) (v := .int 0) (C := R_OF) (T := F_OF) (N := 4) hx hb hts i_OF hown hK hP 0 rfl rfl 3 (by decide) (hts _ w_153) (fun _ h9 => h9) rfl d_OF_assemble_83 ?_
  refine lv_aload_n hx hb d_OF_assemble_86 rfl (lv_at hl 0 rfl) ?_
  refine va_astq hx hb hK hP hD hS 1 0 4 6 rfl rfl rfl rfl (by unfold vp_in; decide) d_OF_assemble_87 (fun H locs hP hD hS => ?_)
  obtain ⟨f2, ef2⟩ : ∃ z : Nat → Option Nat, z = (va_up uf (0 : Int32).toNatClampNeg (some (qa 4))) := ⟨_, rfl⟩
  have hP : va_P D cls [(h0, .inr (0, [.ref (qa 0), .ref (qa 1), .ref (qa 2), .int 0])), ((qa 2), .inl ((qk 2), 8, .inr (.inr (.inr (.inr f2))))), ((qa 0), .inr (1, [.ref (qa 3), va_rf (uf (0 : Int32).toNatClampNeg), .int 0, .int 0, .int 1, .int 0, .int 0, .int (-1), .long 0, .int 0, .int 0, .int 0, .int 0, .int (-1), .int (-1)])), ((qa 3), .inr (4, [.ref (qa 5), .int 0, .int 0, .int 0, .ref (qa 6), .ref (qa 7), .ref (qa 8)])), ((qa 4), .inr (6, [.ref (qa 9), .ref (qa 10), .ref (qa 11), .ref (qa 12), .ref (qa 13)]))] H := by rw [ef2]; exact hP
  have hD : va_D A [(h0, .inr (0, [.ref (qa 0), .ref (qa 1), .ref (qa 2), .int 0])), ((qa 2), .inl ((qk 2), 8, .inr (.inr (.inr (.inr f2))))), ((qa 0), .inr (1, [.ref (qa 3), va_rf (uf (0 : Int32).toNatClampNeg), .int 0, .int 0, .int 1, .int 0, .int 0, .int (-1), .long 0, .int 0, .int 0, .int 0, .int 0, .int (-1), .int (-1)])), ((qa 3), .inr (4, [.ref (qa 5), .int 0, .int 0, .int 0, .ref (qa 6), .ref (qa 7), .ref (qa 8)])), ((qa 4), .inr (6, [.ref (qa 9), .ref (qa 10), .ref (qa 11), .ref (qa 12), .ref (qa 13)]))] := by rw [ef2]; exact hD
  refine lv_aload_n hx hb d_OF_assemble_88 rfl (lv_at hl 2 rfl) ?_
  refine lv_dup hx hb d_OF_assemble_89 rfl ?_
  refine va_get (D := D) (ci := 0) (v := .int 0) (C := R_OF) (T := F_OF) (N := 4) hx hb hts i_OF hown hK hP 0 rfl rfl 3 (by decide) (hts _ w_153) (fun _ h9 => h9) rfl d_OF_assemble_90 ?_
  refine lv_iconst (v := 1) hx hb d_OF_assemble_93 (by decide) ?_
  refine lv_iadd hx hb d_OF_assemble_94 ?_
  refine lv_topi (fun z3 ez3 => ?_)
  obtain rfl : z3 = 1 := ez3.trans (by decide)
  refine va_put (D := D) (ci := 0) (v := .int 1) (ty := .int) (C := R_OF) (T := F_OF) (N := 4) hx hb hts i_OF t_OF t_OF_ok n_OF hown hK hP hD hS 0 rfl rfl 3 (by decide) (hts _ w_153) (fun _ h9 => h9) rfl (by decide +kernel) rfl rfl (Nat.le_of_ble_eq_true rfl) d_OF_assemble_95 (fun H locs hP hD hS => ?_)
  have hP : va_P D cls [(h0, .inr (0, [.ref (qa 0), .ref (qa 1), .ref (qa 2), .int 1])), ((qa 2), .inl ((qk 2), 8, .inr (.inr (.inr (.inr f2))))), ((qa 0), .inr (1, [.ref (qa 3), va_rf (uf (0 : Int32).toNatClampNeg), .int 0, .int 0, .int 1, .int 0, .int 0, .int (-1), .long 0, .int 0, .int 0, .int 0, .int 0, .int (-1), .int (-1)])), ((qa 3), .inr (4, [.ref (qa 5), .int 0, .int 0, .int 0, .ref (qa 6), .ref (qa 7), .ref (qa 8)])), ((qa 4), .inr (6, [.ref (qa 9), .ref (qa 10), .ref (qa 11), .ref (qa 12), .ref (qa 13)]))] H := hP
  have hD : va_D A [(h0, .inr (0, [.ref (qa 0), .ref (qa 1), .ref (qa 2), .int 1])), ((qa 2), .inl ((qk 2), 8, .inr (.inr (.inr (.inr f2))))), ((qa 0), .inr (1, [.ref (qa 3), va_rf (uf (0 : Int32).toNatClampNeg), .int 0, .int 0, .int 1, .int 0, .int 0, .int (-1), .long 0, .int 0, .int 0, .int 0, .int 0, .int (-1), .int (-1)])), ((qa 3), .inr (4, [.ref (qa 5), .int 0, .int 0, .int 0, .ref (qa 6), .ref (qa 7), .ref (qa 8)])), ((qa 4), .inr (6, [.ref (qa 9), .ref (qa 10), .ref (qa 11), .ref (qa 12), .ref (qa 13)]))] := hD
  refine lv_aload_n hx hb d_OF_assemble_98 rfl (lv_at hl 2 rfl) ?_
  refine va_get (D := D) (ci := 0) (v := .int 1) (C := R_OF) (T := F_OF) (N := 4) hx hb hts i_OF hown hK hP 0 rfl rfl 3 (by decide) (hts _ w_153) (fun _ h9 => h9) rfl d_OF_assemble_99 ?_
  refine lv_iconst (v := 1) hx hb d_OF_assemble_102 (by decide) ?_
  refine lv_isub hx hb d_OF_assemble_103 ?_
  refine lv_topi (fun z4 ez4 => ?_)
  obtain rfl : z4 = 0 := ez4.trans (by decide)
  exact xr_i hx hb hr hlocks hP hD hK hS (()) [0] rfl rfl (by decide) [] rfl rfl d_OF_assemble_104
