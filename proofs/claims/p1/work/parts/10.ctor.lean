theorem d_Re_init_0 : decode b_Re_init 0 = .ok (.aload_n 0, 1) := by decide +kernel
theorem d_Re_init_1 : decode b_Re_init 1 = .ok (.invokespecial 3, 3) := by decide +kernel
theorem d_Re_init_4 : decode b_Re_init 4 = .ok (.aload_n 0, 1) := by decide +kernel
theorem d_Re_init_5 : decode b_Re_init 5 = .ok (.sipush 256, 3) := by decide +kernel
theorem d_Re_init_8 : decode b_Re_init 8 = .ok (.newarray .int, 2) := by decide +kernel
theorem d_Re_init_10 : decode b_Re_init 10 = .ok (.putfield 9, 3) := by decide +kernel
theorem d_Re_init_13 : decode b_Re_init 13 = .ok (.aload_n 0, 1) := by decide +kernel
theorem d_Re_init_14 : decode b_Re_init 14 = .ok (.sipush 256, 3) := by decide +kernel
theorem d_Re_init_17 : decode b_Re_init 17 = .ok (.newarray .int, 2) := by decide +kernel
theorem d_Re_init_19 : decode b_Re_init 19 = .ok (.putfield 15, 3) := by decide +kernel
theorem d_Re_init_22 : decode b_Re_init 22 = .ok (.aload_n 0, 1) := by decide +kernel
theorem d_Re_init_23 : decode b_Re_init 23 = .ok (.sipush 256, 3) := by decide +kernel
theorem d_Re_init_26 : decode b_Re_init 26 = .ok (.newarray .int, 2) := by decide +kernel
theorem d_Re_init_28 : decode b_Re_init 28 = .ok (.putfield 18, 3) := by decide +kernel
theorem d_Re_init_31 : decode b_Re_init 31 = .ok (.aload_n 0, 1) := by decide +kernel
theorem d_Re_init_32 : decode b_Re_init 32 = .ok (.sipush 256, 3) := by decide +kernel
theorem d_Re_init_35 : decode b_Re_init 35 = .ok (.newarray .int, 2) := by decide +kernel
theorem d_Re_init_37 : decode b_Re_init 37 = .ok (.putfield 21, 3) := by decide +kernel
theorem d_Re_init_40 : decode b_Re_init 40 = .ok (.aload_n 0, 1) := by decide +kernel
theorem d_Re_init_41 : decode b_Re_init 41 = .ok (.sipush 256, 3) := by decide +kernel
theorem d_Re_init_44 : decode b_Re_init 44 = .ok (.newarray .long, 2) := by decide +kernel
theorem d_Re_init_46 : decode b_Re_init 46 = .ok (.putfield 24, 3) := by decide +kernel
theorem d_Re_init_49 : decode b_Re_init 49 = .ok (.aload_n 0, 1) := by decide +kernel
theorem d_Re_init_50 : decode b_Re_init 50 = .ok (.sipush 256, 3) := by decide +kernel
theorem d_Re_init_53 : decode b_Re_init 53 = .ok (.newarray .int, 2) := by decide +kernel
theorem d_Re_init_55 : decode b_Re_init 55 = .ok (.putfield 28, 3) := by decide +kernel
theorem d_Re_init_58 : decode b_Re_init 58 = .ok (.aload_n 0, 1) := by decide +kernel
theorem d_Re_init_59 : decode b_Re_init 59 = .ok (.iconst 0, 1) := by decide +kernel
theorem d_Re_init_60 : decode b_Re_init 60 = .ok (.putfield 31, 3) := by decide +kernel
theorem d_Re_init_63 : decode b_Re_init 63 = .ok (.return_, 1) := by decide +kernel
set_option maxHeartbeats 4000000 in
set_option maxRecDepth 100000 in
theorem c_Re_init (l : Launch) (D : va_G) (h0 : Nat) (sz : Nat) : Met l y_Re_init (Cond.code y_Re_init b_Re_init 1 none :: bw) (xR 1 6 1536) (va_Pc [.ref h0] (xP D [] sz [(h0, .inr (3, [.null, .null, .null, .null, .null, .null, .int 0]))])) (xQ (S := ((Nat → Nat) × (Nat → ClassId))) (fun u => none) (fun u => [(h0, .inr (3, [.ref (u.1 0), .ref (u.1 1), .ref (u.1 2), .ref (u.1 3), .ref (u.1 4), .ref (u.1 5), .int 0]))]) (fun u => []) D (va_A [(h0, .inr (3, [.null, .null, .null, .null, .null, .null, .int 0]))] sz)) 6 1536 (va_A [(h0, .inr (3, [.null, .null, .null, .null, .null, .null, .int 0]))] sz) := by
  refine Met.ofW (cc := b_Re_init) (maxL := 1) (ret := none) (by decide) rfl ?_
  intro p e s m args below meth c s₁ B hml hv
  obtain ⟨rfl, hsz, hP, hK, hD0, hN, hZ⟩ := hv
  have hx := B.exec
  have hb := B.bytes
  have hr := B.returns
  have hlocks := B.notSynchronized
  have hts : ∀ w ∈ bw, w.before _ s = true := fun w h => atoms_spec (ws := Cond.code y_Re_init b_Re_init 1 none :: bw) B.pre w (List.mem_cons_of_mem _ h)
  have hown : s.vm.findClass "ObjectForge$Relocations" = some m.cls := findClass_of_methodNamed B.named
  have hin : meth.name = "<init>" := (name_of_methodNamed B.named B.method).1
  subst hsz
  have hP0 := hP
  have hD := hD0.self (sz := s.heap.size)
  generalize hAe : va_A [(h0, .inr (3, [.null, .null, .null, .null, .null, .null, .int 0]))] s.heap.size = A at hD hZ ⊢
  have hA : ∀ q : Nat, s.heap.size ≤ q → A q := fun q h => by rw [← hAe]; exact Or.inr h
  have hS : va_S A s.heap s.heap [] := va_S.rf
  have hl := lv_entry ([.ref h0]) (n := 1) (Nat.le_of_ble_eq_true rfl)
  rw [lg_entry_eq]
  generalize (lg_sl ([.ref h0]) ++ List.replicate (1 - (lg_sl ([.ref h0])).length) Slot.unset).toArray = ls at hl ⊢
  have hl : lv_has ls 1 [(0, .ref h0)] := hl
  refine lv_aload_n hx hb d_Re_init_0 rfl (lv_at hl 0 rfl) ?_
  refine W.objInit hx hb hown (hts _ w_79) (hts _ w_22) (hts _ w_23) rfl (by rw [hml]; exact hl.1) rfl d_Re_init_1 (Nat.le_of_ble_eq_true rfl) (Nat.le_of_ble_eq_true rfl) ?_
  refine W.eq (g2 := F0 m 4 ls []) rfl ?_
  refine lv_aload_n hx hb d_Re_init_4 rfl (lv_at hl 0 rfl) ?_
  refine lv_sipush (v := 256) hx hb d_Re_init_5 (by decide) ?_
  refine x_newa (atype := .int) (ty := .int) (n := 256) (N' := 256) (a0 := (256, .inl (fun _ => 0))) hx hb (hts _ w_43) rfl hK hP hD hS hA (fun _ => rfl) (by decide) (by decide) (by decide) (Nat.le_of_ble_eq_true rfl) (Nat.le_of_ble_eq_true rfl) d_Re_init_8 (fun q1 H hP hD hS => ?_)
  refine W.widen (k := 1) (n := 256) (by omega) (by omega) ?_
  refine va_putF (D := D) (ci := 3) (v := .ref q1) (ty := .array .int) (C := R_Re) (T := F_Re) (N := 7) hx hb hts i_Re t_Re t_Re_ok n_Re hown hK hP hD hS 0 rfl rfl 0 (by decide) (hts _ w_80) (fun _ h9 => h9) rfl hin rfl (by decide +kernel) rfl rfl (Nat.le_of_ble_eq_true rfl) d_Re_init_10 (fun H locs hP hD hS => ?_)
  have hP : va_P D cls [(h0, .inr (3, [.ref q1, .null, .null, .null, .null, .null, .int 0]))] H := hP
  have hD : va_D A [(h0, .inr (3, [.ref q1, .null, .null, .null, .null, .null, .int 0]))] := hD
  refine lv_aload_n hx hb d_Re_init_13 rfl (lv_at hl 0 rfl) ?_
  refine lv_sipush (v := 256) hx hb d_Re_init_14 (by decide) ?_
  refine x_newa (atype := .int) (ty := .int) (n := 256) (N' := 256) (a0 := (256, .inl (fun _ => 0))) hx hb (hts _ w_43) rfl hK hP hD hS hA (fun _ => rfl) (by decide) (by decide) (by decide) (Nat.le_of_ble_eq_true rfl) (Nat.le_of_ble_eq_true rfl) d_Re_init_17 (fun q2 H hP hD hS => ?_)
  refine W.widen (k := 2) (n := 512) (by omega) (by omega) ?_
  refine va_putF (D := D) (ci := 3) (v := .ref q2) (ty := .array .int) (C := R_Re) (T := F_Re) (N := 7) hx hb hts i_Re t_Re t_Re_ok n_Re hown hK hP hD hS 0 rfl rfl 1 (by decide) (hts _ w_82) (fun _ h9 => h9) rfl hin rfl (by decide +kernel) rfl rfl (Nat.le_of_ble_eq_true rfl) d_Re_init_19 (fun H locs hP hD hS => ?_)
  have hP : va_P D cls [(h0, .inr (3, [.ref q1, .ref q2, .null, .null, .null, .null, .int 0]))] H := hP
  have hD : va_D A [(h0, .inr (3, [.ref q1, .ref q2, .null, .null, .null, .null, .int 0]))] := hD
  refine lv_aload_n hx hb d_Re_init_22 rfl (lv_at hl 0 rfl) ?_
  refine lv_sipush (v := 256) hx hb d_Re_init_23 (by decide) ?_
  refine x_newa (atype := .int) (ty := .int) (n := 256) (N' := 256) (a0 := (256, .inl (fun _ => 0))) hx hb (hts _ w_43) rfl hK hP hD hS hA (fun _ => rfl) (by decide) (by decide) (by decide) (Nat.le_of_ble_eq_true rfl) (Nat.le_of_ble_eq_true rfl) d_Re_init_26 (fun q3 H hP hD hS => ?_)
  refine W.widen (k := 3) (n := 768) (by omega) (by omega) ?_
  refine va_putF (D := D) (ci := 3) (v := .ref q3) (ty := .array .int) (C := R_Re) (T := F_Re) (N := 7) hx hb hts i_Re t_Re t_Re_ok n_Re hown hK hP hD hS 0 rfl rfl 2 (by decide) (hts _ w_85) (fun _ h9 => h9) rfl hin rfl (by decide +kernel) rfl rfl (Nat.le_of_ble_eq_true rfl) d_Re_init_28 (fun H locs hP hD hS => ?_)
  have hP : va_P D cls [(h0, .inr (3, [.ref q1, .ref q2, .ref q3, .null, .null, .null, .int 0]))] H := hP
  have hD : va_D A [(h0, .inr (3, [.ref q1, .ref q2, .ref q3, .null, .null, .null, .int 0]))] := hD
  refine lv_aload_n hx hb d_Re_init_31 rfl (lv_at hl 0 rfl) ?_
  refine lv_sipush (v := 256) hx hb d_Re_init_32 (by decide) ?_
  refine x_newa (atype := .int) (ty := .int) (n := 256) (N' := 256) (a0 := (256, .inl (fun _ => 0))) hx hb (hts _ w_43) rfl hK hP hD hS hA (fun _ => rfl) (by decide) (by decide) (by decide) (Nat.le_of_ble_eq_true rfl) (Nat.le_of_ble_eq_true rfl) d_Re_init_35 (fun q4 H hP hD hS => ?_)
  refine W.widen (k := 4) (n := 1024) (by omega) (by omega) ?_
  refine va_putF (D := D) (ci := 3) (v := .ref q4) (ty := .array .int) (C := R_Re) (T := F_Re) (N := 7) hx hb hts i_Re t_Re t_Re_ok n_Re hown hK hP hD hS 0 rfl rfl 3 (by decide) (hts _ w_88) (fun _ h9 => h9) rfl hin rfl (by decide +kernel) rfl rfl (Nat.le_of_ble_eq_true rfl) d_Re_init_37 (fun H locs hP hD hS => ?_)
  have hP : va_P D cls [(h0, .inr (3, [.ref q1, .ref q2, .ref q3, .ref q4, .null, .null, .int 0]))] H := hP
  have hD : va_D A [(h0, .inr (3, [.ref q1, .ref q2, .ref q3, .ref q4, .null, .null, .int 0]))] := hD
  refine lv_aload_n hx hb d_Re_init_40 rfl (lv_at hl 0 rfl) ?_
  refine lv_sipush (v := 256) hx hb d_Re_init_41 (by decide) ?_
  refine x_newa (atype := .long) (ty := .long) (n := 256) (N' := 256) (a0 := (256, .inr (.inl (fun _ => 0)))) hx hb (hts _ w_100) rfl hK hP hD hS hA (fun _ => rfl) (by decide) (by decide) (by decide) (Nat.le_of_ble_eq_true rfl) (Nat.le_of_ble_eq_true rfl) d_Re_init_44 (fun q5 H hP hD hS => ?_)
  refine W.widen (k := 5) (n := 1280) (by omega) (by omega) ?_
  refine va_putF (D := D) (ci := 3) (v := .ref q5) (ty := .array .long) (C := R_Re) (T := F_Re) (N := 7) hx hb hts i_Re t_Re t_Re_ok n_Re hown hK hP hD hS 0 rfl rfl 4 (by decide) (hts _ w_91) (fun _ h9 => h9) rfl hin rfl (by decide +kernel) rfl rfl (Nat.le_of_ble_eq_true rfl) d_Re_init_46 (fun H locs hP hD hS => ?_)
  have hP : va_P D cls [(h0, .inr (3, [.ref q1, .ref q2, .ref q3, .ref q4, .ref q5, .null, .int 0]))] H := hP
  have hD : va_D A [(h0, .inr (3, [.ref q1, .ref q2, .ref q3, .ref q4, .ref q5, .null, .int 0]))] := hD
  refine lv_aload_n hx hb d_Re_init_49 rfl (lv_at hl 0 rfl) ?_
  refine lv_sipush (v := 256) hx hb d_Re_init_50 (by decide) ?_
  refine x_newa (atype := .int) (ty := .int) (n := 256) (N' := 256) (a0 := (256, .inl (fun _ => 0))) hx hb (hts _ w_43) rfl hK hP hD hS hA (fun _ => rfl) (by decide) (by decide) (by decide) (Nat.le_of_ble_eq_true rfl) (Nat.le_of_ble_eq_true rfl) d_Re_init_53 (fun q6 H hP hD hS => ?_)
  refine W.widen (k := 6) (n := 1536) (by omega) (by omega) ?_
  refine va_putF (D := D) (ci := 3) (v := .ref q6) (ty := .array .int) (C := R_Re) (T := F_Re) (N := 7) hx hb hts i_Re t_Re t_Re_ok n_Re hown hK hP hD hS 0 rfl rfl 5 (by decide) (hts _ w_94) (fun _ h9 => h9) rfl hin rfl (by decide +kernel) rfl rfl (Nat.le_of_ble_eq_true rfl) d_Re_init_55 (fun H locs hP hD hS => ?_)
  have hP : va_P D cls [(h0, .inr (3, [.ref q1, .ref q2, .ref q3, .ref q4, .ref q5, .ref q6, .int 0]))] H := hP
  have hD : va_D A [(h0, .inr (3, [.ref q1, .ref q2, .ref q3, .ref q4, .ref q5, .ref q6, .int 0]))] := hD
  refine lv_aload_n hx hb d_Re_init_58 rfl (lv_at hl 0 rfl) ?_
  refine lv_iconst (v := 0) hx hb d_Re_init_59 (by decide) ?_
  refine va_put (D := D) (ci := 3) (v := .int 0) (ty := .int) (C := R_Re) (T := F_Re) (N := 7) hx hb hts i_Re t_Re t_Re_ok n_Re hown hK hP hD hS 0 rfl rfl 6 (by decide) (hts _ w_96) (fun _ h9 => h9) rfl (by decide +kernel) rfl rfl (Nat.le_of_ble_eq_true rfl) d_Re_init_60 (fun H locs hP hD hS => ?_)
  have hP : va_P D cls [(h0, .inr (3, [.ref q1, .ref q2, .ref q3, .ref q4, .ref q5, .ref q6, .int 0]))] H := hP
  have hD : va_D A [(h0, .inr (3, [.ref q1, .ref q2, .ref q3, .ref q4, .ref q5, .ref q6, .int 0]))] := hD
  exact xr_v hx hb hr hlocks hP hD hK hS (((fun k => [q1, q2, q3, q4, q5, q6].getD k 0), (fun k => [].getD k 0))) [0] rfl rfl (by decide) [] rfl rfl d_Re_init_63

theorem d_Sy_init_0 : decode b_Sy_init 0 = .ok (.aload_n 0, 1) := by decide +kernel
theorem d_Sy_init_1 : decode b_Sy_init 1 = .ok (.invokespecial 3, 3) := by decide +kernel
theorem d_Sy_init_4 : decode b_Sy_init 4 = .ok (.aload_n 0, 1) := by decide +kernel
theorem d_Sy_init_5 : decode b_Sy_init 5 = .ok (.sipush 1536, 3) := by decide +kernel
theorem d_Sy_init_8 : decode b_Sy_init 8 = .ok (.newarray .byte, 2) := by decide +kernel
theorem d_Sy_init_10 : decode b_Sy_init 10 = .ok (.putfield 9, 3) := by decide +kernel
theorem d_Sy_init_13 : decode b_Sy_init 13 = .ok (.aload_n 0, 1) := by decide +kernel
theorem d_Sy_init_14 : decode b_Sy_init 14 = .ok (.bipush 64, 2) := by decide +kernel
theorem d_Sy_init_16 : decode b_Sy_init 16 = .ok (.newarray .int, 2) := by decide +kernel
theorem d_Sy_init_18 : decode b_Sy_init 18 = .ok (.putfield 15, 3) := by decide +kernel
theorem d_Sy_init_21 : decode b_Sy_init 21 = .ok (.aload_n 0, 1) := by decide +kernel
theorem d_Sy_init_22 : decode b_Sy_init 22 = .ok (.bipush 64, 2) := by decide +kernel
theorem d_Sy_init_24 : decode b_Sy_init 24 = .ok (.newarray .int, 2) := by decide +kernel
theorem d_Sy_init_26 : decode b_Sy_init 26 = .ok (.putfield 19, 3) := by decide +kernel
theorem d_Sy_init_29 : decode b_Sy_init 29 = .ok (.aload_n 0, 1) := by decide +kernel
theorem d_Sy_init_30 : decode b_Sy_init 30 = .ok (.bipush 64, 2) := by decide +kernel
theorem d_Sy_init_32 : decode b_Sy_init 32 = .ok (.newarray .int, 2) := by decide +kernel
theorem d_Sy_init_34 : decode b_Sy_init 34 = .ok (.putfield 22, 3) := by decide +kernel
theorem d_Sy_init_37 : decode b_Sy_init 37 = .ok (.aload_n 0, 1) := by decide +kernel
theorem d_Sy_init_38 : decode b_Sy_init 38 = .ok (.bipush 64, 2) := by decide +kernel
theorem d_Sy_init_40 : decode b_Sy_init 40 = .ok (.newarray .boolean, 2) := by decide +kernel
theorem d_Sy_init_42 : decode b_Sy_init 42 = .ok (.putfield 25, 3) := by decide +kernel
theorem d_Sy_init_45 : decode b_Sy_init 45 = .ok (.aload_n 0, 1) := by decide +kernel
theorem d_Sy_init_46 : decode b_Sy_init 46 = .ok (.bipush 64, 2) := by decide +kernel
theorem d_Sy_init_48 : decode b_Sy_init 48 = .ok (.newarray .int, 2) := by decide +kernel
theorem d_Sy_init_50 : decode b_Sy_init 50 = .ok (.putfield 29, 3) := by decide +kernel
theorem d_Sy_init_53 : decode b_Sy_init 53 = .ok (.aload_n 0, 1) := by decide +kernel
theorem d_Sy_init_54 : decode b_Sy_init 54 = .ok (.bipush 64, 2) := by decide +kernel
theorem d_Sy_init_56 : decode b_Sy_init 56 = .ok (.newarray .int, 2) := by decide +kernel
theorem d_Sy_init_58 : decode b_Sy_init 58 = .ok (.putfield 32, 3) := by decide +kernel
theorem d_Sy_init_61 : decode b_Sy_init 61 = .ok (.aload_n 0, 1) := by decide +kernel
theorem d_Sy_init_62 : decode b_Sy_init 62 = .ok (.iconst 0, 1) := by decide +kernel
theorem d_Sy_init_63 : decode b_Sy_init 63 = .ok (.putfield 35, 3) := by decide +kernel
theorem d_Sy_init_66 : decode b_Sy_init 66 = .ok (.return_, 1) := by decide +kernel
set_option maxHeartbeats 4000000 in
set_option maxRecDepth 100000 in
theorem c_Sy_init (l : Launch) (D : va_G) (h0 : Nat) (sz : Nat) : Met l y_Sy_init (Cond.code y_Sy_init b_Sy_init 1 none :: bw) (xR 1 7 1920) (va_Pc [.ref h0] (xP D [] sz [(h0, .inr (5, [.null, .null, .null, .null, .null, .null, .null, .int 0]))])) (xQ (S := ((Nat → Nat) × (Nat → ClassId))) (fun u => none) (fun u => [(h0, .inr (5, [.ref (u.1 0), .ref (u.1 1), .ref (u.1 2), .ref (u.1 3), .ref (u.1 4), .ref (u.1 5), .ref (u.1 6), .int 0]))]) (fun u => []) D (va_A [(h0, .inr (5, [.null, .null, .null, .null, .null, .null, .null, .int 0]))] sz)) 7 1920 (va_A [(h0, .inr (5, [.null, .null, .null, .null, .null, .null, .null, .int 0]))] sz) := by
  refine Met.ofW (cc := b_Sy_init) (maxL := 1) (ret := none) (by decide) rfl ?_
  intro p e s m args below meth c s₁ B hml hv
  obtain ⟨rfl, hsz, hP, hK, hD0, hN, hZ⟩ := hv
  have hx := B.exec
  have hb := B.bytes
  have hr := B.returns
  have hlocks := B.notSynchronized
  have hts : ∀ w ∈ bw, w.before _ s = true := fun w h => atoms_spec (ws := Cond.code y_Sy_init b_Sy_init 1 none :: bw) B.pre w (List.mem_cons_of_mem _ h)
  have hown : s.vm.findClass "ObjectForge$Symbols" = some m.cls := findClass_of_methodNamed B.named
  have hin : meth.name = "<init>" := (name_of_methodNamed B.named B.method).1
  subst hsz
  have hP0 := hP
  have hD := hD0.self (sz := s.heap.size)
  generalize hAe : va_A [(h0, .inr (5, [.null, .null, .null, .null, .null, .null, .null, .int 0]))] s.heap.size = A at hD hZ ⊢
  have hA : ∀ q : Nat, s.heap.size ≤ q → A q := fun q h => by rw [← hAe]; exact Or.inr h
  have hS : va_S A s.heap s.heap [] := va_S.rf
  have hl := lv_entry ([.ref h0]) (n := 1) (Nat.le_of_ble_eq_true rfl)
  rw [lg_entry_eq]
  generalize (lg_sl ([.ref h0]) ++ List.replicate (1 - (lg_sl ([.ref h0])).length) Slot.unset).toArray = ls at hl ⊢
  have hl : lv_has ls 1 [(0, .ref h0)] := hl
  refine lv_aload_n hx hb d_Sy_init_0 rfl (lv_at hl 0 rfl) ?_
  refine W.objInit hx hb hown (hts _ w_54) (hts _ w_22) (hts _ w_23) rfl (by rw [hml]; exact hl.1) rfl d_Sy_init_1 (Nat.le_of_ble_eq_true rfl) (Nat.le_of_ble_eq_true rfl) ?_
  refine W.eq (g2 := F0 m 4 ls []) rfl ?_
  refine lv_aload_n hx hb d_Sy_init_4 rfl (lv_at hl 0 rfl) ?_
  refine lv_sipush (v := 1536) hx hb d_Sy_init_5 (by decide) ?_
  refine x_newa (atype := .byte) (ty := .byte) (n := 1536) (N' := 1536) (a0 := (1536, .inl (fun _ => 0))) hx hb (hts _ w_42) rfl hK hP hD hS hA (fun _ => rfl) (by decide) (by decide) (by decide) (Nat.le_of_ble_eq_true rfl) (Nat.le_of_ble_eq_true rfl) d_Sy_init_8 (fun q1 H hP hD hS => ?_)
  refine W.widen (k := 1) (n := 1536) (by omega) (by omega) ?_
  refine va_putF (D := D) (ci := 5) (v := .ref q1) (ty := .array .byte) (C := R_Sy) (T := F_Sy) (N := 8) hx hb hts i_Sy t_Sy t_Sy_ok n_Sy hown hK hP hD hS 0 rfl rfl 0 (by decide) (hts _ w_55) (fun _ h9 => h9) rfl hin rfl (by decide +kernel) rfl rfl (Nat.le_of_ble_eq_true rfl) d_Sy_init_10 (fun H locs hP hD hS => ?_)
  have hP : va_P D cls [(h0, .inr (5, [.ref q1, .null, .null, .null, .null, .null, .null, .int 0]))] H := hP
  have hD : va_D A [(h0, .inr (5, [.ref q1, .null, .null, .null, .null, .null, .null, .int 0]))] := hD
  refine lv_aload_n hx hb d_Sy_init_13 rfl (lv_at hl 0 rfl) ?_
  refine lv_bipush (v := 64) hx hb d_Sy_init_14 (by decide) ?_
  refine x_newa (atype := .int) (ty := .int) (n := 64) (N' := 64) (a0 := (64, .inl (fun _ => 0))) hx hb (hts _ w_43) rfl hK hP hD hS hA (fun _ => rfl) (by decide) (by decide) (by decide) (Nat.le_of_ble_eq_true rfl) (Nat.le_of_ble_eq_true rfl) d_Sy_init_16 (fun q2 H hP hD hS => ?_)
  refine W.widen (k := 2) (n := 1600) (by omega) (by omega) ?_
  refine va_putF (D := D) (ci := 5) (v := .ref q2) (ty := .array .int) (C := R_Sy) (T := F_Sy) (N := 8) hx hb hts i_Sy t_Sy t_Sy_ok n_Sy hown hK hP hD hS 0 rfl rfl 1 (by decide) (hts _ w_57) (fun _ h9 => h9) rfl hin rfl (by decide +kernel) rfl rfl (Nat.le_of_ble_eq_true rfl) d_Sy_init_18 (fun H locs hP hD hS => ?_)
  have hP : va_P D cls [(h0, .inr (5, [.ref q1, .ref q2, .null, .null, .null, .null, .null, .int 0]))] H := hP
  have hD : va_D A [(h0, .inr (5, [.ref q1, .ref q2, .null, .null, .null, .null, .null, .int 0]))] := hD
  refine lv_aload_n hx hb d_Sy_init_21 rfl (lv_at hl 0 rfl) ?_
  refine lv_bipush (v := 64) hx hb d_Sy_init_22 (by decide) ?_
  refine x_newa (atype := .int) (ty := .int) (n := 64) (N' := 64) (a0 := (64, .inl (fun _ => 0))) hx hb (hts _ w_43) rfl hK hP hD hS hA (fun _ => rfl) (by decide) (by decide) (by decide) (Nat.le_of_ble_eq_true rfl) (Nat.le_of_ble_eq_true rfl) d_Sy_init_24 (fun q3 H hP hD hS => ?_)
  refine W.widen (k := 3) (n := 1664) (by omega) (by omega) ?_
  refine va_putF (D := D) (ci := 5) (v := .ref q3) (ty := .array .int) (C := R_Sy) (T := F_Sy) (N := 8) hx hb hts i_Sy t_Sy t_Sy_ok n_Sy hown hK hP hD hS 0 rfl rfl 2 (by decide) (hts _ w_59) (fun _ h9 => h9) rfl hin rfl (by decide +kernel) rfl rfl (Nat.le_of_ble_eq_true rfl) d_Sy_init_26 (fun H locs hP hD hS => ?_)
  have hP : va_P D cls [(h0, .inr (5, [.ref q1, .ref q2, .ref q3, .null, .null, .null, .null, .int 0]))] H := hP
  have hD : va_D A [(h0, .inr (5, [.ref q1, .ref q2, .ref q3, .null, .null, .null, .null, .int 0]))] := hD
  refine lv_aload_n hx hb d_Sy_init_29 rfl (lv_at hl 0 rfl) ?_
  refine lv_bipush (v := 64) hx hb d_Sy_init_30 (by decide) ?_
  refine x_newa (atype := .int) (ty := .int) (n := 64) (N' := 64) (a0 := (64, .inl (fun _ => 0))) hx hb (hts _ w_43) rfl hK hP hD hS hA (fun _ => rfl) (by decide) (by decide) (by decide) (Nat.le_of_ble_eq_true rfl) (Nat.le_of_ble_eq_true rfl) d_Sy_init_32 (fun q4 H hP hD hS => ?_)
  refine W.widen (k := 4) (n := 1728) (by omega) (by omega) ?_
  refine va_putF (D := D) (ci := 5) (v := .ref q4) (ty := .array .int) (C := R_Sy) (T := F_Sy) (N := 8) hx hb hts i_Sy t_Sy t_Sy_ok n_Sy hown hK hP hD hS 0 rfl rfl 3 (by decide) (hts _ w_62) (fun _ h9 => h9) rfl hin rfl (by decide +kernel) rfl rfl (Nat.le_of_ble_eq_true rfl) d_Sy_init_34 (fun H locs hP hD hS => ?_)
  have hP : va_P D cls [(h0, .inr (5, [.ref q1, .ref q2, .ref q3, .ref q4, .null, .null, .null, .int 0]))] H := hP
  have hD : va_D A [(h0, .inr (5, [.ref q1, .ref q2, .ref q3, .ref q4, .null, .null, .null, .int 0]))] := hD
  refine lv_aload_n hx hb d_Sy_init_37 rfl (lv_at hl 0 rfl) ?_
  refine lv_bipush (v := 64) hx hb d_Sy_init_38 (by decide) ?_
  refine x_newa (atype := .boolean) (ty := .boolean) (n := 64) (N' := 64) (a0 := (64, .inl (fun _ => 0))) hx hb (hts _ w_74) rfl hK hP hD hS hA (fun _ => rfl) (by decide) (by decide) (by decide) (Nat.le_of_ble_eq_true rfl) (Nat.le_of_ble_eq_true rfl) d_Sy_init_40 (fun q5 H hP hD hS => ?_)
  refine W.widen (k := 5) (n := 1792) (by omega) (by omega) ?_
  refine va_putF (D := D) (ci := 5) (v := .ref q5) (ty := .array .boolean) (C := R_Sy) (T := F_Sy) (N := 8) hx hb hts i_Sy t_Sy t_Sy_ok n_Sy hown hK hP hD hS 0 rfl rfl 4 (by decide) (hts _ w_65) (fun _ h9 => h9) rfl hin rfl (by decide +kernel) rfl rfl (Nat.le_of_ble_eq_true rfl) d_Sy_init_42 (fun H locs hP hD hS => ?_)
  have hP : va_P D cls [(h0, .inr (5, [.ref q1, .ref q2, .ref q3, .ref q4, .ref q5, .null, .null, .int 0]))] H := hP
  have hD : va_D A [(h0, .inr (5, [.ref q1, .ref q2, .ref q3, .ref q4, .ref q5, .null, .null, .int 0]))] := hD
  refine lv_aload_n hx hb d_Sy_init_45 rfl (lv_at hl 0 rfl) ?_
  refine lv_bipush (v := 64) hx hb d_Sy_init_46 (by decide) ?_
  refine x_newa (atype := .int) (ty := .int) (n := 64) (N' := 64) (a0 := (64, .inl (fun _ => 0))) hx hb (hts _ w_43) rfl hK hP hD hS hA (fun _ => rfl) (by decide) (by decide) (by decide) (Nat.le_of_ble_eq_true rfl) (Nat.le_of_ble_eq_true rfl) d_Sy_init_48 (fun q6 H hP hD hS => ?_)
  refine W.widen (k := 6) (n := 1856) (by omega) (by omega) ?_
  refine va_putF (D := D) (ci := 5) (v := .ref q6) (ty := .array .int) (C := R_Sy) (T := F_Sy) (N := 8) hx hb hts i_Sy t_Sy t_Sy_ok n_Sy hown hK hP hD hS 0 rfl rfl 5 (by decide) (hts _ w_67) (fun _ h9 => h9) rfl hin rfl (by decide +kernel) rfl rfl (Nat.le_of_ble_eq_true rfl) d_Sy_init_50 (fun H locs hP hD hS => ?_)
  have hP : va_P D cls [(h0, .inr (5, [.ref q1, .ref q2, .ref q3, .ref q4, .ref q5, .ref q6, .null, .int 0]))] H := hP
  have hD : va_D A [(h0, .inr (5, [.ref q1, .ref q2, .ref q3, .ref q4, .ref q5, .ref q6, .null, .int 0]))] := hD
  refine lv_aload_n hx hb d_Sy_init_53 rfl (lv_at hl 0 rfl) ?_
  refine lv_bipush (v := 64) hx hb d_Sy_init_54 (by decide) ?_
  refine x_newa (atype := .int) (ty := .int) (n := 64) (N' := 64) (a0 := (64, .inl (fun _ => 0))) hx hb (hts _ w_43) rfl hK hP hD hS hA (fun _ => rfl) (by decide) (by decide) (by decide) (Nat.le_of_ble_eq_true rfl) (Nat.le_of_ble_eq_true rfl) d_Sy_init_56 (fun q7 H hP hD hS => ?_)
  refine W.widen (k := 7) (n := 1920) (by omega) (by omega) ?_
  refine va_putF (D := D) (ci := 5) (v := .ref q7) (ty := .array .int) (C := R_Sy) (T := F_Sy) (N := 8) hx hb hts i_Sy t_Sy t_Sy_ok n_Sy hown hK hP hD hS 0 rfl rfl 6 (by decide) (hts _ w_69) (fun _ h9 => h9) rfl hin rfl (by decide +kernel) rfl rfl (Nat.le_of_ble_eq_true rfl) d_Sy_init_58 (fun H locs hP hD hS => ?_)
  have hP : va_P D cls [(h0, .inr (5, [.ref q1, .ref q2, .ref q3, .ref q4, .ref q5, .ref q6, .ref q7, .int 0]))] H := hP
  have hD : va_D A [(h0, .inr (5, [.ref q1, .ref q2, .ref q3, .ref q4, .ref q5, .ref q6, .ref q7, .int 0]))] := hD
  refine lv_aload_n hx hb d_Sy_init_61 rfl (lv_at hl 0 rfl) ?_
  refine lv_iconst (v := 0) hx hb d_Sy_init_62 (by decide) ?_
  refine va_put (D := D) (ci := 5) (v := .int 0) (ty := .int) (C := R_Sy) (T := F_Sy) (N := 8) hx hb hts i_Sy t_Sy t_Sy_ok n_Sy hown hK hP hD hS 0 rfl rfl 7 (by decide) (hts _ w_70) (fun _ h9 => h9) rfl (by decide +kernel) rfl rfl (Nat.le_of_ble_eq_true rfl) d_Sy_init_63 (fun H locs hP hD hS => ?_)
  have hP : va_P D cls [(h0, .inr (5, [.ref q1, .ref q2, .ref q3, .ref q4, .ref q5, .ref q6, .ref q7, .int 0]))] H := hP
  have hD : va_D A [(h0, .inr (5, [.ref q1, .ref q2, .ref q3, .ref q4, .ref q5, .ref q6, .ref q7, .int 0]))] := hD
  exact xr_v hx hb hr hlocks hP hD hK hS (((fun k => [q1, q2, q3, q4, q5, q6, q7].getD k 0), (fun k => [].getD k 0))) [0] rfl rfl (by decide) [] rfl rfl d_Sy_init_66

theorem d_So_init_0 : decode b_So_init 0 = .ok (.aload_n 0, 1) := by decide +kernel
theorem d_So_init_1 : decode b_So_init 1 = .ok (.invokespecial 3, 3) := by decide +kernel
theorem d_So_init_4 : decode b_So_init 4 = .ok (.aload_n 0, 1) := by decide +kernel
theorem d_So_init_5 : decode b_So_init 5 = .ok (.sipush 8192, 3) := by decide +kernel
theorem d_So_init_8 : decode b_So_init 8 = .ok (.newarray .byte, 2) := by decide +kernel
theorem d_So_init_10 : decode b_So_init 10 = .ok (.putfield 9, 3) := by decide +kernel
theorem d_So_init_13 : decode b_So_init 13 = .ok (.aload_n 0, 1) := by decide +kernel
theorem d_So_init_14 : decode b_So_init 14 = .ok (.iconst 0, 1) := by decide +kernel
theorem d_So_init_15 : decode b_So_init 15 = .ok (.putfield 15, 3) := by decide +kernel
theorem d_So_init_18 : decode b_So_init 18 = .ok (.aload_n 0, 1) := by decide +kernel
theorem d_So_init_19 : decode b_So_init 19 = .ok (.sipush 8192, 3) := by decide +kernel
theorem d_So_init_22 : decode b_So_init 22 = .ok (.newarray .int, 2) := by decide +kernel
theorem d_So_init_24 : decode b_So_init 24 = .ok (.putfield 19, 3) := by decide +kernel
theorem d_So_init_27 : decode b_So_init 27 = .ok (.aload_n 0, 1) := by decide +kernel
theorem d_So_init_28 : decode b_So_init 28 = .ok (.sipush 8192, 3) := by decide +kernel
theorem d_So_init_31 : decode b_So_init 31 = .ok (.newarray .int, 2) := by decide +kernel
theorem d_So_init_33 : decode b_So_init 33 = .ok (.putfield 23, 3) := by decide +kernel
theorem d_So_init_36 : decode b_So_init 36 = .ok (.aload_n 0, 1) := by decide +kernel
theorem d_So_init_37 : decode b_So_init 37 = .ok (.sipush 8192, 3) := by decide +kernel
theorem d_So_init_40 : decode b_So_init 40 = .ok (.newarray .int, 2) := by decide +kernel
theorem d_So_init_42 : decode b_So_init 42 = .ok (.putfield 26, 3) := by decide +kernel
theorem d_So_init_45 : decode b_So_init 45 = .ok (.aload_n 0, 1) := by decide +kernel
theorem d_So_init_46 : decode b_So_init 46 = .ok (.iconst 0, 1) := by decide +kernel
theorem d_So_init_47 : decode b_So_init 47 = .ok (.putfield 29, 3) := by decide +kernel
theorem d_So_init_50 : decode b_So_init 50 = .ok (.aload_n 0, 1) := by decide +kernel
theorem d_So_init_51 : decode b_So_init 51 = .ok (.iconst 0, 1) := by decide +kernel
theorem d_So_init_52 : decode b_So_init 52 = .ok (.putfield 32, 3) := by decide +kernel
theorem d_So_init_55 : decode b_So_init 55 = .ok (.return_, 1) := by decide +kernel
set_option maxHeartbeats 4000000 in
set_option maxRecDepth 100000 in
theorem c_So_init (l : Launch) (D : va_G) (h0 : Nat) (sz : Nat) : Met l y_So_init (Cond.code y_So_init b_So_init 1 none :: bw) (xR 1 4 32768) (va_Pc [.ref h0] (xP D [] sz [(h0, .inr (4, [.null, .int 0, .int 0, .int 0, .null, .null, .null]))])) (xQ (S := ((Nat → Nat) × (Nat → ClassId))) (fun u => none) (fun u => [(h0, .inr (4, [.ref (u.1 0), .int 0, .int 0, .int 0, .ref (u.1 1), .ref (u.1 2), .ref (u.1 3)])), ((u.1 0), .inl ((u.2 0), 8192, .inl (fun _ => 0)))]) (fun u => [((u.2 0), .byte)]) D (va_A [(h0, .inr (4, [.null, .int 0, .int 0, .int 0, .null, .null, .null]))] sz)) 4 32768 (va_A [(h0, .inr (4, [.null, .int 0, .int 0, .int 0, .null, .null, .null]))] sz) := by
  refine Met.ofW (cc := b_So_init) (maxL := 1) (ret := none) (by decide) rfl ?_
  intro p e s m args below meth c s₁ B hml hv
  obtain ⟨rfl, hsz, hP, hK, hD0, hN, hZ⟩ := hv
  have hx := B.exec
  have hb := B.bytes
  have hr := B.returns
  have hlocks := B.notSynchronized
  have hts : ∀ w ∈ bw, w.before _ s = true := fun w h => atoms_spec (ws := Cond.code y_So_init b_So_init 1 none :: bw) B.pre w (List.mem_cons_of_mem _ h)
  have hown : s.vm.findClass "ObjectForge$Source" = some m.cls := findClass_of_methodNamed B.named
  have hin : meth.name = "<init>" := (name_of_methodNamed B.named B.method).1
  subst hsz
  have hP0 := hP
  have hD := hD0.self (sz := s.heap.size)
  generalize hAe : va_A [(h0, .inr (4, [.null, .int 0, .int 0, .int 0, .null, .null, .null]))] s.heap.size = A at hD hZ ⊢
  have hA : ∀ q : Nat, s.heap.size ≤ q → A q := fun q h => by rw [← hAe]; exact Or.inr h
  have hS : va_S A s.heap s.heap [] := va_S.rf
  have hl := lv_entry ([.ref h0]) (n := 1) (Nat.le_of_ble_eq_true rfl)
  rw [lg_entry_eq]
  generalize (lg_sl ([.ref h0]) ++ List.replicate (1 - (lg_sl ([.ref h0])).length) Slot.unset).toArray = ls at hl ⊢
  have hl : lv_has ls 1 [(0, .ref h0)] := hl
  refine lv_aload_n hx hb d_So_init_0 rfl (lv_at hl 0 rfl) ?_
  refine W.objInit hx hb hown (hts _ w_33) (hts _ w_22) (hts _ w_23) rfl (by rw [hml]; exact hl.1) rfl d_So_init_1 (Nat.le_of_ble_eq_true rfl) (Nat.le_of_ble_eq_true rfl) ?_
  refine W.eq (g2 := F0 m 4 ls []) rfl ?_
  refine lv_aload_n hx hb d_So_init_4 rfl (lv_at hl 0 rfl) ?_
  refine lv_sipush (v := 8192) hx hb d_So_init_5 (by decide) ?_
  refine va_newa (atype := .byte) (ty := .byte) (n := 8192) (N' := 8192) (a0 := (8192, .inl (fun _ => 0))) hx hb (hts _ w_42) rfl hK hP hD hS hA (fun _ => rfl) (by decide) (by decide) (by decide) (Nat.le_of_ble_eq_true rfl) (Nat.le_of_ble_eq_true rfl) d_So_init_8 (fun q1 cq1 H hK hP hD hS => ?_)
  have hP : va_P D cls [(h0, .inr (4, [.null, .int 0, .int 0, .int 0, .null, .null, .null])), (q1, .inl (cq1, 8192, .inl (fun _ => 0)))] H := hP
  have hD : va_D A [(h0, .inr (4, [.null, .int 0, .int 0, .int 0, .null, .null, .null])), (q1, .inl (cq1, 8192, .inl (fun _ => 0)))] := hD
  have hK : va_K D cls [(cq1, .byte)] s := hK
  refine W.widen (k := 1) (n := 8192) (by omega) (by omega) ?_
  refine va_putF (D := D) (ci := 4) (v := .ref q1) (ty := .array .byte) (C := R_So) (T := F_So) (N := 7) hx hb hts i_So t_So t_So_ok n_So hown hK hP hD hS 0 rfl rfl 0 (by decide) (hts _ w_34) (fun _ h9 => h9) rfl hin rfl (by decide +kernel) rfl rfl (Nat.le_of_ble_eq_true rfl) d_So_init_10 (fun H locs hP hD hS => ?_)
  have hP : va_P D cls [(h0, .inr (4, [.ref q1, .int 0, .int 0, .int 0, .null, .null, .null])), (q1, .inl (cq1, 8192, .inl (fun _ => 0)))] H := hP
  have hD : va_D A [(h0, .inr (4, [.ref q1, .int 0, .int 0, .int 0, .null, .null, .null])), (q1, .inl (cq1, 8192, .inl (fun _ => 0)))] := hD
  refine lv_aload_n hx hb d_So_init_13 rfl (lv_at hl 0 rfl) ?_
  refine lv_iconst (v := 0) hx hb d_So_init_14 (by decide) ?_
  refine va_put (D := D) (ci := 4) (v := .int 0) (ty := .int) (C := R_So) (T := F_So) (N := 7) hx hb hts i_So t_So t_So_ok n_So hown hK hP hD hS 0 rfl rfl 1 (by decide) (hts _ w_35) (fun _ h9 => h9) rfl (by decide +kernel) rfl rfl (Nat.le_of_ble_eq_true rfl) d_So_init_15 (fun H locs hP hD hS => ?_)
  have hP : va_P D cls [(h0, .inr (4, [.ref q1, .int 0, .int 0, .int 0, .null, .null, .null])), (q1, .inl (cq1, 8192, .inl (fun _ => 0)))] H := hP
  have hD : va_D A [(h0, .inr (4, [.ref q1, .int 0, .int 0, .int 0, .null, .null, .null])), (q1, .inl (cq1, 8192, .inl (fun _ => 0)))] := hD
  refine lv_aload_n hx hb d_So_init_18 rfl (lv_at hl 0 rfl) ?_
  refine lv_sipush (v := 8192) hx hb d_So_init_19 (by decide) ?_
  refine x_newa (atype := .int) (ty := .int) (n := 8192) (N' := 8192) (a0 := (8192, .inl (fun _ => 0))) hx hb (hts _ w_43) rfl hK hP hD hS hA (fun _ => rfl) (by decide) (by decide) (by decide) (Nat.le_of_ble_eq_true rfl) (Nat.le_of_ble_eq_true rfl) d_So_init_22 (fun q2 H hP hD hS => ?_)
  refine W.widen (k := 2) (n := 16384) (by omega) (by omega) ?_
  refine va_putF (D := D) (ci := 4) (v := .ref q2) (ty := .array .int) (C := R_So) (T := F_So) (N := 7) hx hb hts i_So t_So t_So_ok n_So hown hK hP hD hS 0 rfl rfl 4 (by decide) (hts _ w_37) (fun _ h9 => h9) rfl hin rfl (by decide +kernel) rfl rfl (Nat.le_of_ble_eq_true rfl) d_So_init_24 (fun H locs hP hD hS => ?_)
  have hP : va_P D cls [(h0, .inr (4, [.ref q1, .int 0, .int 0, .int 0, .ref q2, .null, .null])), (q1, .inl (cq1, 8192, .inl (fun _ => 0)))] H := hP
  have hD : va_D A [(h0, .inr (4, [.ref q1, .int 0, .int 0, .int 0, .ref q2, .null, .null])), (q1, .inl (cq1, 8192, .inl (fun _ => 0)))] := hD
  refine lv_aload_n hx hb d_So_init_27 rfl (lv_at hl 0 rfl) ?_
  refine lv_sipush (v := 8192) hx hb d_So_init_28 (by decide) ?_
  refine x_newa (atype := .int) (ty := .int) (n := 8192) (N' := 8192) (a0 := (8192, .inl (fun _ => 0))) hx hb (hts _ w_43) rfl hK hP hD hS hA (fun _ => rfl) (by decide) (by decide) (by decide) (Nat.le_of_ble_eq_true rfl) (Nat.le_of_ble_eq_true rfl) d_So_init_31 (fun q3 H hP hD hS => ?_)
  refine W.widen (k := 3) (n := 24576) (by omega) (by omega) ?_
  refine va_putF (D := D) (ci := 4) (v := .ref q3) (ty := .array .int) (C := R_So) (T := F_So) (N := 7) hx hb hts i_So t_So t_So_ok n_So hown hK hP hD hS 0 rfl rfl 5 (by decide) (hts _ w_38) (fun _ h9 => h9) rfl hin rfl (by decide +kernel) rfl rfl (Nat.le_of_ble_eq_true rfl) d_So_init_33 (fun H locs hP hD hS => ?_)
  have hP : va_P D cls [(h0, .inr (4, [.ref q1, .int 0, .int 0, .int 0, .ref q2, .ref q3, .null])), (q1, .inl (cq1, 8192, .inl (fun _ => 0)))] H := hP
  have hD : va_D A [(h0, .inr (4, [.ref q1, .int 0, .int 0, .int 0, .ref q2, .ref q3, .null])), (q1, .inl (cq1, 8192, .inl (fun _ => 0)))] := hD
  refine lv_aload_n hx hb d_So_init_36 rfl (lv_at hl 0 rfl) ?_
  refine lv_sipush (v := 8192) hx hb d_So_init_37 (by decide) ?_
  refine x_newa (atype := .int) (ty := .int) (n := 8192) (N' := 8192) (a0 := (8192, .inl (fun _ => 0))) hx hb (hts _ w_43) rfl hK hP hD hS hA (fun _ => rfl) (by decide) (by decide) (by decide) (Nat.le_of_ble_eq_true rfl) (Nat.le_of_ble_eq_true rfl) d_So_init_40 (fun q4 H hP hD hS => ?_)
  refine W.widen (k := 4) (n := 32768) (by omega) (by omega) ?_
  refine va_putF (D := D) (ci := 4) (v := .ref q4) (ty := .array .int) (C := R_So) (T := F_So) (N := 7) hx hb hts i_So t_So t_So_ok n_So hown hK hP hD hS 0 rfl rfl 6 (by decide) (hts _ w_39) (fun _ h9 => h9) rfl hin rfl (by decide +kernel) rfl rfl (Nat.le_of_ble_eq_true rfl) d_So_init_42 (fun H locs hP hD hS => ?_)
  have hP : va_P D cls [(h0, .inr (4, [.ref q1, .int 0, .int 0, .int 0, .ref q2, .ref q3, .ref q4])), (q1, .inl (cq1, 8192, .inl (fun _ => 0)))] H := hP
  have hD : va_D A [(h0, .inr (4, [.ref q1, .int 0, .int 0, .int 0, .ref q2, .ref q3, .ref q4])), (q1, .inl (cq1, 8192, .inl (fun _ => 0)))] := hD
  refine lv_aload_n hx hb d_So_init_45 rfl (lv_at hl 0 rfl) ?_
  refine lv_iconst (v := 0) hx hb d_So_init_46 (by decide) ?_
  refine va_put (D := D) (ci := 4) (v := .int 0) (ty := .int) (C := R_So) (T := F_So) (N := 7) hx hb hts i_So t_So t_So_ok n_So hown hK hP hD hS 0 rfl rfl 2 (by decide) (hts _ w_40) (fun _ h9 => h9) rfl (by decide +kernel) rfl rfl (Nat.le_of_ble_eq_true rfl) d_So_init_47 (fun H locs hP hD hS => ?_)
  have hP : va_P D cls [(h0, .inr (4, [.ref q1, .int 0, .int 0, .int 0, .ref q2, .ref q3, .ref q4])), (q1, .inl (cq1, 8192, .inl (fun _ => 0)))] H := hP
  have hD : va_D A [(h0, .inr (4, [.ref q1, .int 0, .int 0, .int 0, .ref q2, .ref q3, .ref q4])), (q1, .inl (cq1, 8192, .inl (fun _ => 0)))] := hD
  refine lv_aload_n hx hb d_So_init_50 rfl (lv_at hl 0 rfl) ?_
  refine lv_iconst (v := 0) hx hb d_So_init_51 (by decide) ?_
  refine va_put (D := D) (ci := 4) (v := .int 0) (ty := .int) (C := R_So) (T := F_So) (N := 7) hx hb hts i_So t_So t_So_ok n_So hown hK hP hD hS 0 rfl rfl 3 (by decide) (hts _ w_41) (fun _ h9 => h9) rfl (by decide +kernel) rfl rfl (Nat.le_of_ble_eq_true rfl) d_So_init_52 (fun H locs hP hD hS => ?_)
  have hP : va_P D cls [(h0, .inr (4, [.ref q1, .int 0, .int 0, .int 0, .ref q2, .ref q3, .ref q4])), (q1, .inl (cq1, 8192, .inl (fun _ => 0)))] H := hP
  have hD : va_D A [(h0, .inr (4, [.ref q1, .int 0, .int 0, .int 0, .ref q2, .ref q3, .ref q4])), (q1, .inl (cq1, 8192, .inl (fun _ => 0)))] := hD
  exact xr_v hx hb hr hlocks hP hD hK hS (((fun k => [q1, q2, q3, q4].getD k 0), (fun k => [cq1].getD k 0))) [0, 1] rfl rfl (by decide) [0] rfl rfl d_So_init_55

theorem d_Un_init_0 : decode b_Un_init 0 = .ok (.aload_n 0, 1) := by decide +kernel
theorem d_Un_init_1 : decode b_Un_init 1 = .ok (.invokespecial 3, 3) := by decide +kernel
theorem d_Un_init_4 : decode b_Un_init 4 = .ok (.aload_n 0, 1) := by decide +kernel
theorem d_Un_init_5 : decode b_Un_init 5 = .ok (.iconst 2, 1) := by decide +kernel
theorem d_Un_init_6 : decode b_Un_init 6 = .ok (.sipush 4096, 3) := by decide +kernel
theorem d_Un_init_9 : decode b_Un_init 9 = .ok (.multianewarray 9 2, 4) := by decide +kernel
theorem d_Un_init_13 : decode b_Un_init 13 = .ok (.putfield 11, 3) := by decide +kernel
theorem d_Un_init_16 : decode b_Un_init 16 = .ok (.aload_n 0, 1) := by decide +kernel
theorem d_Un_init_17 : decode b_Un_init 17 = .ok (.iconst 3, 1) := by decide +kernel
theorem d_Un_init_18 : decode b_Un_init 18 = .ok (.newarray .int, 2) := by decide +kernel
theorem d_Un_init_20 : decode b_Un_init 20 = .ok (.putfield 16, 3) := by decide +kernel
theorem d_Un_init_23 : decode b_Un_init 23 = .ok (.aload_n 0, 1) := by decide +kernel
theorem d_Un_init_24 : decode b_Un_init 24 = .ok (.iconst 3, 1) := by decide +kernel
theorem d_Un_init_25 : decode b_Un_init 25 = .ok (.newarray .int, 2) := by decide +kernel
theorem d_Un_init_27 : decode b_Un_init 27 = .ok (.putfield 20, 3) := by decide +kernel
theorem d_Un_init_30 : decode b_Un_init 30 = .ok (.aload_n 0, 1) := by decide +kernel
theorem d_Un_init_31 : decode b_Un_init 31 = .ok (.new 23, 3) := by decide +kernel
theorem d_Un_init_34 : decode b_Un_init 34 = .ok (.dup, 1) := by decide +kernel
theorem d_Un_init_35 : decode b_Un_init 35 = .ok (.invokespecial 25, 3) := by decide +kernel
theorem d_Un_init_38 : decode b_Un_init 38 = .ok (.putfield 26, 3) := by decide +kernel
theorem d_Un_init_41 : decode b_Un_init 41 = .ok (.aload_n 0, 1) := by decide +kernel
theorem d_Un_init_42 : decode b_Un_init 42 = .ok (.new 30, 3) := by decide +kernel
theorem d_Un_init_45 : decode b_Un_init 45 = .ok (.dup, 1) := by decide +kernel
theorem d_Un_init_46 : decode b_Un_init 46 = .ok (.invokespecial 32, 3) := by decide +kernel
theorem d_Un_init_49 : decode b_Un_init 49 = .ok (.putfield 33, 3) := by decide +kernel
theorem d_Un_init_52 : decode b_Un_init 52 = .ok (.return_, 1) := by decide +kernel
set_option maxHeartbeats 4000000 in
set_option maxRecDepth 100000 in
theorem c_Un_init (l : Launch) (D : va_G) (h0 : Nat) (sz : Nat) : Met l y_Un_init (Cond.code y_Un_init b_Un_init 1 none :: bw) (xR 2 20 11671) (va_Pc [.ref h0] (xP D [] sz [(h0, .inr (6, [.null, .null, .null, .null, .null]))])) (xQ (S := ((Nat → Nat) × (Nat → ClassId))) (fun u => none) (fun u => [(h0, .inr (6, [.ref (u.1 0), .ref (u.1 1), .ref (u.1 2), .ref (u.1 3), .ref (u.1 4)])), ((u.1 1), .inl ((u.2 0), 3, .inl (fun _ => 0))), ((u.1 3), .inr (5, [.ref (u.1 5), .ref (u.1 6), .ref (u.1 7), .ref (u.1 8), .ref (u.1 9), .ref (u.1 10), .ref (u.1 11), .int 0])), ((u.1 4), .inr (3, [.ref (u.1 12), .ref (u.1 13), .ref (u.1 14), .ref (u.1 15), .ref (u.1 16), .ref (u.1 17), .int 0]))]) (fun u => [((u.2 0), .int)]) D (va_A [(h0, .inr (6, [.null, .null, .null, .null, .null]))] sz)) 20 11671 (va_A [(h0, .inr (6, [.null, .null, .null, .null, .null]))] sz) := by
  refine Met.ofW (cc := b_Un_init) (maxL := 1) (ret := none) (by decide) rfl ?_
  intro p e s m args below meth c s₁ B hml hv
  obtain ⟨rfl, hsz, hP, hK, hD0, hN, hZ⟩ := hv
  have hx := B.exec
  have hb := B.bytes
  have hr := B.returns
  have hlocks := B.notSynchronized
  have hts : ∀ w ∈ bw, w.before _ s = true := fun w h => atoms_spec (ws := Cond.code y_Un_init b_Un_init 1 none :: bw) B.pre w (List.mem_cons_of_mem _ h)
  have hown : s.vm.findClass "ObjectForge$Unit" = some m.cls := findClass_of_methodNamed B.named
  have hin : meth.name = "<init>" := (name_of_methodNamed B.named B.method).1
  subst hsz
  have hP0 := hP
  have hD := hD0.self (sz := s.heap.size)
  generalize hAe : va_A [(h0, .inr (6, [.null, .null, .null, .null, .null]))] s.heap.size = A at hD hZ ⊢
  have hA : ∀ q : Nat, s.heap.size ≤ q → A q := fun q h => by rw [← hAe]; exact Or.inr h
  have hS : va_S A s.heap s.heap [] := va_S.rf
  have hl := lv_entry ([.ref h0]) (n := 1) (Nat.le_of_ble_eq_true rfl)
  rw [lg_entry_eq]
  generalize (lg_sl ([.ref h0]) ++ List.replicate (1 - (lg_sl ([.ref h0])).length) Slot.unset).toArray = ls at hl ⊢
  have hl : lv_has ls 1 [(0, .ref h0)] := hl
  refine lv_aload_n hx hb d_Un_init_0 rfl (lv_at hl 0 rfl) ?_
  refine W.objInit hx hb hown (hts _ w_48) (hts _ w_22) (hts _ w_23) rfl (by rw [hml]; exact hl.1) rfl d_Un_init_1 (Nat.le_of_ble_eq_true rfl) (Nat.le_of_ble_eq_true rfl) ?_
  refine W.eq (g2 := F0 m 4 ls []) rfl ?_
  refine lv_aload_n hx hb d_Un_init_4 rfl (lv_at hl 0 rfl) ?_
  refine lv_iconst (v := 2) hx hb d_Un_init_5 (by decide) ?_
  refine lv_sipush (v := 4096) hx hb d_Un_init_6 (by decide) ?_
  refine x_grid (n := 4096) (N := 4096) hx hb hown (hts _ w_49) hN.2.2.2.2.2 hP hS (by decide) (by decide) (by decide) (Nat.le_of_ble_eq_true rfl) (Nat.le_of_ble_eq_true rfl) d_Un_init_9 (fun q1 H hP hS => ?_)
  refine W.widen (k := 3) (n := 8194) (by omega) (by omega) ?_
  refine va_putF (D := D) (ci := 6) (v := .ref q1) (ty := .array (.array .byte)) (C := R_Un) (T := F_Un) (N := 5) hx hb hts i_Un t_Un t_Un_ok n_Un hown hK hP hD hS 0 rfl rfl 0 (by decide) (hts _ w_101) (fun _ h9 => h9) rfl hin rfl (by decide +kernel) rfl rfl (Nat.le_of_ble_eq_true rfl) d_Un_init_13 (fun H locs hP hD hS => ?_)
  have hP : va_P D cls [(h0, .inr (6, [.ref q1, .null, .null, .null, .null]))] H := hP
  have hD : va_D A [(h0, .inr (6, [.ref q1, .null, .null, .null, .null]))] := hD
  refine lv_aload_n hx hb d_Un_init_16 rfl (lv_at hl 0 rfl) ?_
  refine lv_iconst (v := 3) hx hb d_Un_init_17 (by decide) ?_
  refine va_newa (atype := .int) (ty := .int) (n := 3) (N' := 3) (a0 := (3, .inl (fun _ => 0))) hx hb (hts _ w_43) rfl hK hP hD hS hA (fun _ => rfl) (by decide) (by decide) (by decide) (Nat.le_of_ble_eq_true rfl) (Nat.le_of_ble_eq_true rfl) d_Un_init_18 (fun q2 cq2 H hK hP hD hS => ?_)
  have hP : va_P D cls [(h0, .inr (6, [.ref q1, .null, .null, .null, .null])), (q2, .inl (cq2, 3, .inl (fun _ => 0)))] H := hP
  have hD : va_D A [(h0, .inr (6, [.ref q1, .null, .null, .null, .null])), (q2, .inl (cq2, 3, .inl (fun _ => 0)))] := hD
  have hK : va_K D cls [(cq2, .int)] s := hK
  refine W.widen (k := 4) (n := 8197) (by omega) (by omega) ?_
  refine va_putF (D := D) (ci := 6) (v := .ref q2) (ty := .array .int) (C := R_Un) (T := F_Un) (N := 5) hx hb hts i_Un t_Un t_Un_ok n_Un hown hK hP hD hS 0 rfl rfl 1 (by decide) (hts _ w_103) (fun _ h9 => h9) rfl hin rfl (by decide +kernel) rfl rfl (Nat.le_of_ble_eq_true rfl) d_Un_init_20 (fun H locs hP hD hS => ?_)
  have hP : va_P D cls [(h0, .inr (6, [.ref q1, .ref q2, .null, .null, .null])), (q2, .inl (cq2, 3, .inl (fun _ => 0)))] H := hP
  have hD : va_D A [(h0, .inr (6, [.ref q1, .ref q2, .null, .null, .null])), (q2, .inl (cq2, 3, .inl (fun _ => 0)))] := hD
  refine lv_aload_n hx hb d_Un_init_23 rfl (lv_at hl 0 rfl) ?_
  refine lv_iconst (v := 3) hx hb d_Un_init_24 (by decide) ?_
  refine x_newa (atype := .int) (ty := .int) (n := 3) (N' := 3) (a0 := (3, .inl (fun _ => 0))) hx hb (hts _ w_43) rfl hK hP hD hS hA (fun _ => rfl) (by decide) (by decide) (by decide) (Nat.le_of_ble_eq_true rfl) (Nat.le_of_ble_eq_true rfl) d_Un_init_25 (fun q3 H hP hD hS => ?_)
  refine W.widen (k := 5) (n := 8200) (by omega) (by omega) ?_
  refine va_putF (D := D) (ci := 6) (v := .ref q3) (ty := .array .int) (C := R_Un) (T := F_Un) (N := 5) hx hb hts i_Un t_Un t_Un_ok n_Un hown hK hP hD hS 0 rfl rfl 2 (by decide) (hts _ w_106) (fun _ h9 => h9) rfl hin rfl (by decide +kernel) rfl rfl (Nat.le_of_ble_eq_true rfl) d_Un_init_27 (fun H locs hP hD hS => ?_)
  have hP : va_P D cls [(h0, .inr (6, [.ref q1, .ref q2, .ref q3, .null, .null])), (q2, .inl (cq2, 3, .inl (fun _ => 0)))] H := hP
  have hD : va_D A [(h0, .inr (6, [.ref q1, .ref q2, .ref q3, .null, .null])), (q2, .inl (cq2, 3, .inl (fun _ => 0)))] := hD
  refine lv_aload_n hx hb d_Un_init_30 rfl (lv_at hl 0 rfl) ?_
  refine va_new (ci := 5) (fs := [.null, .null, .null, .null, .null, .null, .null, .int 0]) (C := R_Sy) (T := F_Sy) (N := 8) hx hb hts i_Sy t_Sy t_Sy_ok hown (hts _ w_50) (hts _ w_51) (hts _ w_5) hK hP hD hS hA rfl (by decide) (Nat.le_of_ble_eq_true rfl) (Nat.le_of_ble_eq_true rfl) d_Un_init_31 (fun q4 H hP hD hS => ?_)
  have hP : va_P D cls [(h0, .inr (6, [.ref q1, .ref q2, .ref q3, .null, .null])), (q2, .inl (cq2, 3, .inl (fun _ => 0))), (q4, .inr (5, [.null, .null, .null, .null, .null, .null, .null, .int 0]))] H := hP
  have hD : va_D A [(h0, .inr (6, [.ref q1, .ref q2, .ref q3, .null, .null])), (q2, .inl (cq2, 3, .inl (fun _ => 0))), (q4, .inr (5, [.null, .null, .null, .null, .null, .null, .null, .int 0]))] := hD
  refine W.widen (k := 6) (n := 8208) (by omega) (by omega) ?_
  refine lv_dup hx hb d_Un_init_34 rfl ?_
  refine xc_IN (As := []) (rest := [.ref q4, .ref h0]) (wc := [(q4, .inr (5, [.null, .null, .null, .null, .null, .null, .null, .int 0]))]) (wr := [(h0, .inr (6, [.ref q1, .ref q2, .ref q3, .null, .null])), (q2, .inl (cq2, 3, .inl (fun _ => 0)))]) (tc := []) (tr := [(cq2, .int)]) ⟨hx, hb, hml, hown, hts⟩ (c_Sy_init l D q4 H.size) rfl rfl rfl w_53 (by simp [xnM]) w_52 w_5 (by decide +kernel) ⟨Nat.le_of_ble_eq_true rfl, Nat.le_of_ble_eq_true rfl⟩ hP hD hK hS hA hN hZ [2] [0, 1] rfl rfl (by decide) (by decide) (by decide) [] [0] rfl rfl rfl hl.1 rfl (Nat.le_of_ble_eq_true rfl) d_Un_init_35 ⟨Nat.le_of_ble_eq_true rfl, Nat.le_of_ble_eq_true rfl⟩ (fun u5 H locs hP hD hK hS => ?_)
  have hP : va_P D cls [(h0, .inr (6, [.ref q1, .ref q2, .ref q3, .null, .null])), (q2, .inl (cq2, 3, .inl (fun _ => 0))), (q4, .inr (5, [.ref (u5.1 0), .ref (u5.1 1), .ref (u5.1 2), .ref (u5.1 3), .ref (u5.1 4), .ref (u5.1 5), .ref (u5.1 6), .int 0]))] H := hP
  have hD : va_D A [(h0, .inr (6, [.ref q1, .ref q2, .ref q3, .null, .null])), (q2, .inl (cq2, 3, .inl (fun _ => 0))), (q4, .inr (5, [.ref (u5.1 0), .ref (u5.1 1), .ref (u5.1 2), .ref (u5.1 3), .ref (u5.1 4), .ref (u5.1 5), .ref (u5.1 6), .int 0]))] := hD
  have hK : va_K D cls [(cq2, .int)] s := hK
  refine W.widen (k := 13) (n := 10128) (by omega) (by omega) ?_
  refine W.eq (g2 := F0 m 38 ls [.ref q4, .ref h0]) rfl ?_
  refine va_putF (D := D) (ci := 6) (v := .ref q4) (ty := .object "ObjectForge$Symbols") (C := R_Un) (T := F_Un) (N := 5) hx hb hts i_Un t_Un t_Un_ok n_Un hown hK hP hD hS 0 rfl rfl 3 (by decide) (hts _ w_107) (fun _ h9 => h9) rfl hin rfl (by decide +kernel) rfl rfl (Nat.le_of_ble_eq_true rfl) d_Un_init_38 (fun H locs hP hD hS => ?_)
  have hP : va_P D cls [(h0, .inr (6, [.ref q1, .ref q2, .ref q3, .ref q4, .null])), (q2, .inl (cq2, 3, .inl (fun _ => 0))), (q4, .inr (5, [.ref (u5.1 0), .ref (u5.1 1), .ref (u5.1 2), .ref (u5.1 3), .ref (u5.1 4), .ref (u5.1 5), .ref (u5.1 6), .int 0]))] H := hP
  have hD : va_D A [(h0, .inr (6, [.ref q1, .ref q2, .ref q3, .ref q4, .null])), (q2, .inl (cq2, 3, .inl (fun _ => 0))), (q4, .inr (5, [.ref (u5.1 0), .ref (u5.1 1), .ref (u5.1 2), .ref (u5.1 3), .ref (u5.1 4), .ref (u5.1 5), .ref (u5.1 6), .int 0]))] := hD
  refine lv_aload_n hx hb d_Un_init_41 rfl (lv_at hl 0 rfl) ?_
  refine va_new (ci := 3) (fs := [.null, .null, .null, .null, .null, .null, .int 0]) (C := R_Re) (T := F_Re) (N := 7) hx hb hts i_Re t_Re t_Re_ok hown (hts _ w_75) (hts _ w_76) (hts _ w_6) hK hP hD hS hA rfl (by decide) (Nat.le_of_ble_eq_true rfl) (Nat.le_of_ble_eq_true rfl) d_Un_init_42 (fun q6 H hP hD hS => ?_)
  have hP : va_P D cls [(h0, .inr (6, [.ref q1, .ref q2, .ref q3, .ref q4, .null])), (q2, .inl (cq2, 3, .inl (fun _ => 0))), (q4, .inr (5, [.ref (u5.1 0), .ref (u5.1 1), .ref (u5.1 2), .ref (u5.1 3), .ref (u5.1 4), .ref (u5.1 5), .ref (u5.1 6), .int 0])), (q6, .inr (3, [.null, .null, .null, .null, .null, .null, .int 0]))] H := hP
  have hD : va_D A [(h0, .inr (6, [.ref q1, .ref q2, .ref q3, .ref q4, .null])), (q2, .inl (cq2, 3, .inl (fun _ => 0))), (q4, .inr (5, [.ref (u5.1 0), .ref (u5.1 1), .ref (u5.1 2), .ref (u5.1 3), .ref (u5.1 4), .ref (u5.1 5), .ref (u5.1 6), .int 0])), (q6, .inr (3, [.null, .null, .null, .null, .null, .null, .int 0]))] := hD
  refine W.widen (k := 14) (n := 10135) (by omega) (by omega) ?_
  refine lv_dup hx hb d_Un_init_45 rfl ?_
  refine xc_IN (As := []) (rest := [.ref q6, .ref h0]) (wc := [(q6, .inr (3, [.null, .null, .null, .null, .null, .null, .int 0]))]) (wr := [(h0, .inr (6, [.ref q1, .ref q2, .ref q3, .ref q4, .null])), (q2, .inl (cq2, 3, .inl (fun _ => 0))), (q4, .inr (5, [.ref (u5.1 0), .ref (u5.1 1), .ref (u5.1 2), .ref (u5.1 3), .ref (u5.1 4), .ref (u5.1 5), .ref (u5.1 6), .int 0]))]) (tc := []) (tr := [(cq2, .int)]) ⟨hx, hb, hml, hown, hts⟩ (c_Re_init l D q6 H.size) rfl rfl rfl w_78 (by simp [xnM]) w_77 w_6 (by decide +kernel) ⟨Nat.le_of_ble_eq_true rfl, Nat.le_of_ble_eq_true rfl⟩ hP hD hK hS hA hN hZ [3] [0, 1, 2] rfl rfl (by decide) (by decide) (by decide) [] [0] rfl rfl rfl hl.1 rfl (Nat.le_of_ble_eq_true rfl) d_Un_init_46 ⟨Nat.le_of_ble_eq_true rfl, Nat.le_of_ble_eq_true rfl⟩ (fun u7 H locs hP hD hK hS => ?_)
  have hP : va_P D cls [(h0, .inr (6, [.ref q1, .ref q2, .ref q3, .ref q4, .null])), (q2, .inl (cq2, 3, .inl (fun _ => 0))), (q4, .inr (5, [.ref (u5.1 0), .ref (u5.1 1), .ref (u5.1 2), .ref (u5.1 3), .ref (u5.1 4), .ref (u5.1 5), .ref (u5.1 6), .int 0])), (q6, .inr (3, [.ref (u7.1 0), .ref (u7.1 1), .ref (u7.1 2), .ref (u7.1 3), .ref (u7.1 4), .ref (u7.1 5), .int 0]))] H := hP
  have hD : va_D A [(h0, .inr (6, [.ref q1, .ref q2, .ref q3, .ref q4, .null])), (q2, .inl (cq2, 3, .inl (fun _ => 0))), (q4, .inr (5, [.ref (u5.1 0), .ref (u5.1 1), .ref (u5.1 2), .ref (u5.1 3), .ref (u5.1 4), .ref (u5.1 5), .ref (u5.1 6), .int 0])), (q6, .inr (3, [.ref (u7.1 0), .ref (u7.1 1), .ref (u7.1 2), .ref (u7.1 3), .ref (u7.1 4), .ref (u7.1 5), .int 0]))] := hD
  have hK : va_K D cls [(cq2, .int)] s := hK
  refine W.widen (k := 20) (n := 11671) (by omega) (by omega) ?_
  refine W.eq (g2 := F0 m 49 ls [.ref q6, .ref h0]) rfl ?_
  refine va_putF (D := D) (ci := 6) (v := .ref q6) (ty := .object "ObjectForge$Relocations") (C := R_Un) (T := F_Un) (N := 5) hx hb hts i_Un t_Un t_Un_ok n_Un hown hK hP hD hS 0 rfl rfl 4 (by decide) (hts _ w_110) (fun _ h9 => h9) rfl hin rfl (by decide +kernel) rfl rfl (Nat.le_of_ble_eq_true rfl) d_Un_init_49 (fun H locs hP hD hS => ?_)
  have hP : va_P D cls [(h0, .inr (6, [.ref q1, .ref q2, .ref q3, .ref q4, .ref q6])), (q2, .inl (cq2, 3, .inl (fun _ => 0))), (q4, .inr (5, [.ref (u5.1 0), .ref (u5.1 1), .ref (u5.1 2), .ref (u5.1 3), .ref (u5.1 4), .ref (u5.1 5), .ref (u5.1 6), .int 0])), (q6, .inr (3, [.ref (u7.1 0), .ref (u7.1 1), .ref (u7.1 2), .ref (u7.1 3), .ref (u7.1 4), .ref (u7.1 5), .int 0]))] H := hP
  have hD : va_D A [(h0, .inr (6, [.ref q1, .ref q2, .ref q3, .ref q4, .ref q6])), (q2, .inl (cq2, 3, .inl (fun _ => 0))), (q4, .inr (5, [.ref (u5.1 0), .ref (u5.1 1), .ref (u5.1 2), .ref (u5.1 3), .ref (u5.1 4), .ref (u5.1 5), .ref (u5.1 6), .int 0])), (q6, .inr (3, [.ref (u7.1 0), .ref (u7.1 1), .ref (u7.1 2), .ref (u7.1 3), .ref (u7.1 4), .ref (u7.1 5), .int 0]))] := hD
  exact xr_v hx hb hr hlocks hP hD hK hS (((fun k => [q1, q2, q3, q4, q6, (u5.1 0), (u5.1 1), (u5.1 2), (u5.1 3), (u5.1 4), (u5.1 5), (u5.1 6), (u7.1 0), (u7.1 1), (u7.1 2), (u7.1 3), (u7.1 4), (u7.1 5)].getD k 0), (fun k => [cq2].getD k 0))) [0, 1, 2, 3] rfl rfl (by decide) [0] rfl rfl d_Un_init_52

theorem d_Li_init_0 : decode b_Li_init 0 = .ok (.aload_n 0, 1) := by decide +kernel
theorem d_Li_init_1 : decode b_Li_init 1 = .ok (.invokespecial 3, 3) := by decide +kernel
theorem d_Li_init_4 : decode b_Li_init 4 = .ok (.aload_n 0, 1) := by decide +kernel
theorem d_Li_init_5 : decode b_Li_init 5 = .ok (.ldc 9, 2) := by decide +kernel
theorem d_Li_init_7 : decode b_Li_init 7 = .ok (.newarray .byte, 2) := by decide +kernel
theorem d_Li_init_9 : decode b_Li_init 9 = .ok (.putfield 10, 3) := by decide +kernel
theorem d_Li_init_12 : decode b_Li_init 12 = .ok (.aload_n 0, 1) := by decide +kernel
theorem d_Li_init_13 : decode b_Li_init 13 = .ok (.iconst 0, 1) := by decide +kernel
theorem d_Li_init_14 : decode b_Li_init 14 = .ok (.putfield 16, 3) := by decide +kernel
theorem d_Li_init_17 : decode b_Li_init 17 = .ok (.aload_n 0, 1) := by decide +kernel
theorem d_Li_init_18 : decode b_Li_init 18 = .ok (.iconst 0, 1) := by decide +kernel
theorem d_Li_init_19 : decode b_Li_init 19 = .ok (.putfield 20, 3) := by decide +kernel
theorem d_Li_init_22 : decode b_Li_init 22 = .ok (.aload_n 0, 1) := by decide +kernel
theorem d_Li_init_23 : decode b_Li_init 23 = .ok (.iconst 0, 1) := by decide +kernel
theorem d_Li_init_24 : decode b_Li_init 24 = .ok (.putfield 23, 3) := by decide +kernel
theorem d_Li_init_27 : decode b_Li_init 27 = .ok (.aload_n 0, 1) := by decide +kernel
theorem d_Li_init_28 : decode b_Li_init 28 = .ok (.iconst 0, 1) := by decide +kernel
theorem d_Li_init_29 : decode b_Li_init 29 = .ok (.putfield 26, 3) := by decide +kernel
theorem d_Li_init_32 : decode b_Li_init 32 = .ok (.aload_n 0, 1) := by decide +kernel
theorem d_Li_init_33 : decode b_Li_init 33 = .ok (.iconst (-1), 1) := by decide +kernel
theorem d_Li_init_34 : decode b_Li_init 34 = .ok (.putfield 29, 3) := by decide +kernel
theorem d_Li_init_37 : decode b_Li_init 37 = .ok (.aload_n 0, 1) := by decide +kernel
theorem d_Li_init_38 : decode b_Li_init 38 = .ok (.iconst (-1), 1) := by decide +kernel
theorem d_Li_init_39 : decode b_Li_init 39 = .ok (.putfield 32, 3) := by decide +kernel
theorem d_Li_init_42 : decode b_Li_init 42 = .ok (.return_, 1) := by decide +kernel
set_option maxHeartbeats 4000000 in
set_option maxRecDepth 100000 in
theorem c_Li_init (l : Launch) (D : va_G) (h0 : Nat) (sz : Nat) : Met l y_Li_init (Cond.code y_Li_init b_Li_init 1 none :: bw) (xR 1 1 32768) (va_Pc [.ref h0] (xP D [] sz [(h0, .inr (2, [.null, .int 0, .int 0, .int 0, .int 0, .int 0, .int 0]))])) (xQ (S := ((Nat → Nat) × (Nat → ClassId))) (fun u => none) (fun u => [(h0, .inr (2, [.ref (u.1 0), .int 0, .int 0, .int 0, .int 0, .int (-1), .int (-1)]))]) (fun u => []) D (va_A [(h0, .inr (2, [.null, .int 0, .int 0, .int 0, .int 0, .int 0, .int 0]))] sz)) 1 32768 (va_A [(h0, .inr (2, [.null, .int 0, .int 0, .int 0, .int 0, .int 0, .int 0]))] sz) := by
  refine Met.ofW (cc := b_Li_init) (maxL := 1) (ret := none) (by decide) rfl ?_
  intro p e s m args below meth c s₁ B hml hv
  obtain ⟨rfl, hsz, hP, hK, hD0, hN, hZ⟩ := hv
  have hx := B.exec
  have hb := B.bytes
  have hr := B.returns
  have hlocks := B.notSynchronized
  have hts : ∀ w ∈ bw, w.before _ s = true := fun w h => atoms_spec (ws := Cond.code y_Li_init b_Li_init 1 none :: bw) B.pre w (List.mem_cons_of_mem _ h)
  have hown : s.vm.findClass "ObjectForge$Linker" = some m.cls := findClass_of_methodNamed B.named
  have hin : meth.name = "<init>" := (name_of_methodNamed B.named B.method).1
  subst hsz
  have hP0 := hP
  have hD := hD0.self (sz := s.heap.size)
  generalize hAe : va_A [(h0, .inr (2, [.null, .int 0, .int 0, .int 0, .int 0, .int 0, .int 0]))] s.heap.size = A at hD hZ ⊢
  have hA : ∀ q : Nat, s.heap.size ≤ q → A q := fun q h => by rw [← hAe]; exact Or.inr h
  have hS : va_S A s.heap s.heap [] := va_S.rf
  have hl := lv_entry ([.ref h0]) (n := 1) (Nat.le_of_ble_eq_true rfl)
  rw [lg_entry_eq]
  generalize (lg_sl ([.ref h0]) ++ List.replicate (1 - (lg_sl ([.ref h0])).length) Slot.unset).toArray = ls at hl ⊢
  have hl : lv_has ls 1 [(0, .ref h0)] := hl
  refine lv_aload_n hx hb d_Li_init_0 rfl (lv_at hl 0 rfl) ?_
  refine W.objInit hx hb hown (hts _ w_136) (hts _ w_22) (hts _ w_23) rfl (by rw [hml]; exact hl.1) rfl d_Li_init_1 (Nat.le_of_ble_eq_true rfl) (Nat.le_of_ble_eq_true rfl) ?_
  refine W.eq (g2 := F0 m 4 ls []) rfl ?_
  refine lv_aload_n hx hb d_Li_init_4 rfl (lv_at hl 0 rfl) ?_
  refine lv_ldc (v := 32768) hx hb hown (hts _ w_137) d_Li_init_5 ?_
  refine x_newa (atype := .byte) (ty := .byte) (n := 32768) (N' := 32768) (a0 := (32768, .inl (fun _ => 0))) hx hb (hts _ w_42) rfl hK hP hD hS hA (fun _ => rfl) (by decide) (by decide) (by decide) (Nat.le_of_ble_eq_true rfl) (Nat.le_of_ble_eq_true rfl) d_Li_init_7 (fun q1 H hP hD hS => ?_)
  refine W.widen (k := 1) (n := 32768) (by omega) (by omega) ?_
  refine va_putF (D := D) (ci := 2) (v := .ref q1) (ty := .array .byte) (C := R_Li) (T := F_Li) (N := 7) hx hb hts i_Li t_Li t_Li_ok n_Li hown hK hP hD hS 0 rfl rfl 0 (by decide) (hts _ w_138) (fun _ h9 => h9) rfl hin rfl (by decide +kernel) rfl rfl (Nat.le_of_ble_eq_true rfl) d_Li_init_9 (fun H locs hP hD hS => ?_)
  have hP : va_P D cls [(h0, .inr (2, [.ref q1, .int 0, .int 0, .int 0, .int 0, .int 0, .int 0]))] H := hP
  have hD : va_D A [(h0, .inr (2, [.ref q1, .int 0, .int 0, .int 0, .int 0, .int 0, .int 0]))] := hD
  refine lv_aload_n hx hb d_Li_init_12 rfl (lv_at hl 0 rfl) ?_
  refine lv_iconst (v := 0) hx hb d_Li_init_13 (by decide) ?_
  refine va_put (D := D) (ci := 2) (v := .int 0) (ty := .int) (C := R_Li) (T := F_Li) (N := 7) hx hb hts i_Li t_Li t_Li_ok n_Li hown hK hP hD hS 0 rfl rfl 1 (by decide) (hts _ w_139) (fun _ h9 => h9) rfl (by decide +kernel) rfl rfl (Nat.le_of_ble_eq_true rfl) d_Li_init_14 (fun H locs hP hD hS => ?_)
  have hP : va_P D cls [(h0, .inr (2, [.ref q1, .int 0, .int 0, .int 0, .int 0, .int 0, .int 0]))] H := hP
  have hD : va_D A [(h0, .inr (2, [.ref q1, .int 0, .int 0, .int 0, .int 0, .int 0, .int 0]))] := hD
  refine lv_aload_n hx hb d_Li_init_17 rfl (lv_at hl 0 rfl) ?_
  refine lv_iconst (v := 0) hx hb d_Li_init_18 (by decide) ?_
  refine va_put (D := D) (ci := 2) (v := .int 0) (ty := .int) (C := R_Li) (T := F_Li) (N := 7) hx hb hts i_Li t_Li t_Li_ok n_Li hown hK hP hD hS 0 rfl rfl 2 (by decide) (hts _ w_140) (fun _ h9 => h9) rfl (by decide +kernel) rfl rfl (Nat.le_of_ble_eq_true rfl) d_Li_init_19 (fun H locs hP hD hS => ?_)
  have hP : va_P D cls [(h0, .inr (2, [.ref q1, .int 0, .int 0, .int 0, .int 0, .int 0, .int 0]))] H := hP
  have hD : va_D A [(h0, .inr (2, [.ref q1, .int 0, .int 0, .int 0, .int 0, .int 0, .int 0]))] := hD
  refine lv_aload_n hx hb d_Li_init_22 rfl (lv_at hl 0 rfl) ?_
  refine lv_iconst (v := 0) hx hb d_Li_init_23 (by decide) ?_
  refine va_put (D := D) (ci := 2) (v := .int 0) (ty := .int) (C := R_Li) (T := F_Li) (N := 7) hx hb hts i_Li t_Li t_Li_ok n_Li hown hK hP hD hS 0 rfl rfl 3 (by decide) (hts _ w_141) (fun _ h9 => h9) rfl (by decide +kernel) rfl rfl (Nat.le_of_ble_eq_true rfl) d_Li_init_24 (fun H locs hP hD hS => ?_)
  have hP : va_P D cls [(h0, .inr (2, [.ref q1, .int 0, .int 0, .int 0, .int 0, .int 0, .int 0]))] H := hP
  have hD : va_D A [(h0, .inr (2, [.ref q1, .int 0, .int 0, .int 0, .int 0, .int 0, .int 0]))] := hD
  refine lv_aload_n hx hb d_Li_init_27 rfl (lv_at hl 0 rfl) ?_
  refine lv_iconst (v := 0) hx hb d_Li_init_28 (by decide) ?_
  refine va_put (D := D) (ci := 2) (v := .int 0) (ty := .int) (C := R_Li) (T := F_Li) (N := 7) hx hb hts i_Li t_Li t_Li_ok n_Li hown hK hP hD hS 0 rfl rfl 4 (by decide) (hts _ w_143) (fun _ h9 => h9) rfl (by decide +kernel) rfl rfl (Nat.le_of_ble_eq_true rfl) d_Li_init_29 (fun H locs hP hD hS => ?_)
  have hP : va_P D cls [(h0, .inr (2, [.ref q1, .int 0, .int 0, .int 0, .int 0, .int 0, .int 0]))] H := hP
  have hD : va_D A [(h0, .inr (2, [.ref q1, .int 0, .int 0, .int 0, .int 0, .int 0, .int 0]))] := hD
  refine lv_aload_n hx hb d_Li_init_32 rfl (lv_at hl 0 rfl) ?_
  refine lv_iconst (v := (-1)) hx hb d_Li_init_33 (by decide) ?_
  refine va_put (D := D) (ci := 2) (v := .int (-1)) (ty := .int) (C := R_Li) (T := F_Li) (N := 7) hx hb hts i_Li t_Li t_Li_ok n_Li hown hK hP hD hS 0 rfl rfl 5 (by decide) (hts _ w_145) (fun _ h9 => h9) rfl (by decide +kernel) rfl rfl (Nat.le_of_ble_eq_true rfl) d_Li_init_34 (fun H locs hP hD hS => ?_)
  have hP : va_P D cls [(h0, .inr (2, [.ref q1, .int 0, .int 0, .int 0, .int 0, .int (-1), .int 0]))] H := hP
  have hD : va_D A [(h0, .inr (2, [.ref q1, .int 0, .int 0, .int 0, .int 0, .int (-1), .int 0]))] := hD
  refine lv_aload_n hx hb d_Li_init_37 rfl (lv_at hl 0 rfl) ?_
  refine lv_iconst (v := (-1)) hx hb d_Li_init_38 (by decide) ?_
  refine va_put (D := D) (ci := 2) (v := .int (-1)) (ty := .int) (C := R_Li) (T := F_Li) (N := 7) hx hb hts i_Li t_Li t_Li_ok n_Li hown hK hP hD hS 0 rfl rfl 6 (by decide) (hts _ w_147) (fun _ h9 => h9) rfl (by decide +kernel) rfl rfl (Nat.le_of_ble_eq_true rfl) d_Li_init_39 (fun H locs hP hD hS => ?_)
  have hP : va_P D cls [(h0, .inr (2, [.ref q1, .int 0, .int 0, .int 0, .int 0, .int (-1), .int (-1)]))] H := hP
  have hD : va_D A [(h0, .inr (2, [.ref q1, .int 0, .int 0, .int 0, .int 0, .int (-1), .int (-1)]))] := hD
  exact xr_v hx hb hr hlocks hP hD hK hS (((fun k => [q1].getD k 0), (fun k => [].getD k 0))) [0] rfl rfl (by decide) [] rfl rfl d_Li_init_42

theorem d_As_init_0 : decode b_As_init 0 = .ok (.aload_n 0, 1) := by decide +kernel
theorem d_As_init_1 : decode b_As_init 1 = .ok (.invokespecial 3, 3) := by decide +kernel
theorem d_As_init_4 : decode b_As_init 4 = .ok (.aload_n 0, 1) := by decide +kernel
theorem d_As_init_5 : decode b_As_init 5 = .ok (.new 9, 3) := by decide +kernel
theorem d_As_init_8 : decode b_As_init 8 = .ok (.dup, 1) := by decide +kernel
theorem d_As_init_9 : decode b_As_init 9 = .ok (.invokespecial 11, 3) := by decide +kernel
theorem d_As_init_12 : decode b_As_init 12 = .ok (.putfield 12, 3) := by decide +kernel
theorem d_As_init_15 : decode b_As_init 15 = .ok (.aload_n 0, 1) := by decide +kernel
theorem d_As_init_16 : decode b_As_init 16 = .ok (.new 18, 3) := by decide +kernel
theorem d_As_init_19 : decode b_As_init 19 = .ok (.dup, 1) := by decide +kernel
theorem d_As_init_20 : decode b_As_init 20 = .ok (.invokespecial 20, 3) := by decide +kernel
theorem d_As_init_23 : decode b_As_init 23 = .ok (.putfield 21, 3) := by decide +kernel
theorem d_As_init_26 : decode b_As_init 26 = .ok (.aload_n 0, 1) := by decide +kernel
theorem d_As_init_27 : decode b_As_init 27 = .ok (.iconst 0, 1) := by decide +kernel
theorem d_As_init_28 : decode b_As_init 28 = .ok (.putfield 25, 3) := by decide +kernel
theorem d_As_init_31 : decode b_As_init 31 = .ok (.aload_n 0, 1) := by decide +kernel
theorem d_As_init_32 : decode b_As_init 32 = .ok (.iconst 0, 1) := by decide +kernel
theorem d_As_init_33 : decode b_As_init 33 = .ok (.putfield 29, 3) := by decide +kernel
theorem d_As_init_36 : decode b_As_init 36 = .ok (.aload_n 0, 1) := by decide +kernel
theorem d_As_init_37 : decode b_As_init 37 = .ok (.iconst 0, 1) := by decide +kernel
theorem d_As_init_38 : decode b_As_init 38 = .ok (.putfield 32, 3) := by decide +kernel
theorem d_As_init_41 : decode b_As_init 41 = .ok (.aload_n 0, 1) := by decide +kernel
theorem d_As_init_42 : decode b_As_init 42 = .ok (.iconst 0, 1) := by decide +kernel
theorem d_As_init_43 : decode b_As_init 43 = .ok (.putfield 35, 3) := by decide +kernel
theorem d_As_init_46 : decode b_As_init 46 = .ok (.aload_n 0, 1) := by decide +kernel
theorem d_As_init_47 : decode b_As_init 47 = .ok (.iconst 0, 1) := by decide +kernel
theorem d_As_init_48 : decode b_As_init 48 = .ok (.putfield 38, 3) := by decide +kernel
theorem d_As_init_51 : decode b_As_init 51 = .ok (.aload_n 0, 1) := by decide +kernel
theorem d_As_init_52 : decode b_As_init 52 = .ok (.iconst (-1), 1) := by decide +kernel
theorem d_As_init_53 : decode b_As_init 53 = .ok (.putfield 41, 3) := by decide +kernel
theorem d_As_init_56 : decode b_As_init 56 = .ok (.aload_n 0, 1) := by decide +kernel
theorem d_As_init_57 : decode b_As_init 57 = .ok (.lconst 0, 1) := by decide +kernel
theorem d_As_init_58 : decode b_As_init 58 = .ok (.putfield 44, 3) := by decide +kernel
theorem d_As_init_61 : decode b_As_init 61 = .ok (.aload_n 0, 1) := by decide +kernel
theorem d_As_init_62 : decode b_As_init 62 = .ok (.iconst 0, 1) := by decide +kernel
theorem d_As_init_63 : decode b_As_init 63 = .ok (.putfield 48, 3) := by decide +kernel
theorem d_As_init_66 : decode b_As_init 66 = .ok (.aload_n 0, 1) := by decide +kernel
theorem d_As_init_67 : decode b_As_init 67 = .ok (.iconst 0, 1) := by decide +kernel
theorem d_As_init_68 : decode b_As_init 68 = .ok (.putfield 51, 3) := by decide +kernel
theorem d_As_init_71 : decode b_As_init 71 = .ok (.aload_n 0, 1) := by decide +kernel
theorem d_As_init_72 : decode b_As_init 72 = .ok (.iconst 0, 1) := by decide +kernel
theorem d_As_init_73 : decode b_As_init 73 = .ok (.putfield 54, 3) := by decide +kernel
theorem d_As_init_76 : decode b_As_init 76 = .ok (.aload_n 0, 1) := by decide +kernel
theorem d_As_init_77 : decode b_As_init 77 = .ok (.iconst 0, 1) := by decide +kernel
theorem d_As_init_78 : decode b_As_init 78 = .ok (.putfield 57, 3) := by decide +kernel
theorem d_As_init_81 : decode b_As_init 81 = .ok (.aload_n 0, 1) := by decide +kernel
theorem d_As_init_82 : decode b_As_init 82 = .ok (.iconst (-1), 1) := by decide +kernel
theorem d_As_init_83 : decode b_As_init 83 = .ok (.putfield 60, 3) := by decide +kernel
theorem d_As_init_86 : decode b_As_init 86 = .ok (.aload_n 0, 1) := by decide +kernel
theorem d_As_init_87 : decode b_As_init 87 = .ok (.iconst (-1), 1) := by decide +kernel
theorem d_As_init_88 : decode b_As_init 88 = .ok (.putfield 63, 3) := by decide +kernel
theorem d_As_init_91 : decode b_As_init 91 = .ok (.return_, 1) := by decide +kernel
set_option maxHeartbeats 4000000 in
set_option maxRecDepth 100000 in
theorem c_As_init (l : Launch) (D : va_G) (h0 : Nat) (sz : Nat) : Met l y_As_init (Cond.code y_As_init b_As_init 1 none :: bw) (xR 3 26 44451) (va_Pc [.ref h0] (xP D [] sz [(h0, .inr (1, [.null, .null, .int 0, .int 0, .int 0, .int 0, .int 0, .int 0, .long 0, .int 0, .int 0, .int 0, .int 0, .int 0, .int 0]))])) (xQ (S := ((Nat → Nat) × (Nat → ClassId))) (fun u => none) (fun u => [(h0, .inr (1, [.ref (u.1 0), .ref (u.1 1), .int 0, .int 0, .int 0, .int 0, .int 0, .int (-1), .long 0, .int 0, .int 0, .int 0, .int 0, .int (-1), .int (-1)])), ((u.1 0), .inr (4, [.ref (u.1 2), .int 0, .int 0, .int 0, .ref (u.1 3), .ref (u.1 4), .ref (u.1 5)])), ((u.1 2), .inl ((u.2 0), 8192, .inl (fun _ => 0))), ((u.1 1), .inr (6, [.ref (u.1 6), .ref (u.1 7), .ref (u.1 8), .ref (u.1 9), .ref (u.1 10)])), ((u.1 7), .inl ((u.2 1), 3, .inl (fun _ => 0))), ((u.1 9), .inr (5, [.ref (u.1 11), .ref (u.1 12), .ref (u.1 13), .ref (u.1 14), .ref (u.1 15), .ref (u.1 16), .ref (u.1 17), .int 0])), ((u.1 10), .inr (3, [.ref (u.1 18), .ref (u.1 19), .ref (u.1 20), .ref (u.1 21), .ref (u.1 22), .ref (u.1 23), .int 0]))]) (fun u => [((u.2 0), .byte), ((u.2 1), .int)]) D (va_A [(h0, .inr (1, [.null, .null, .int 0, .int 0, .int 0, .int 0, .int 0, .int 0, .long 0, .int 0, .int 0, .int 0, .int 0, .int 0, .int 0]))] sz)) 26 44451 (va_A [(h0, .inr (1, [.null, .null, .int 0, .int 0, .int 0, .int 0, .int 0, .int 0, .long 0, .int 0, .int 0, .int 0, .int 0, .int 0, .int 0]))] sz) := by
  refine Met.ofW (cc := b_As_init) (maxL := 1) (ret := none) (by decide) rfl ?_
  intro p e s m args below meth c s₁ B hml hv
  obtain ⟨rfl, hsz, hP, hK, hD0, hN, hZ⟩ := hv
  have hx := B.exec
  have hb := B.bytes
  have hr := B.returns
  have hlocks := B.notSynchronized
  have hts : ∀ w ∈ bw, w.before _ s = true := fun w h => atoms_spec (ws := Cond.code y_As_init b_As_init 1 none :: bw) B.pre w (List.mem_cons_of_mem _ h)
  have hown : s.vm.findClass "ObjectForge$Assembler" = some m.cls := findClass_of_methodNamed B.named
  have hin : meth.name = "<init>" := (name_of_methodNamed B.named B.method).1
  subst hsz
  have hP0 := hP
  have hD := hD0.self (sz := s.heap.size)
  generalize hAe : va_A [(h0, .inr (1, [.null, .null, .int 0, .int 0, .int 0, .int 0, .int 0, .int 0, .long 0, .int 0, .int 0, .int 0, .int 0, .int 0, .int 0]))] s.heap.size = A at hD hZ ⊢
  have hA : ∀ q : Nat, s.heap.size ≤ q → A q := fun q h => by rw [← hAe]; exact Or.inr h
  have hS : va_S A s.heap s.heap [] := va_S.rf
  have hl := lv_entry ([.ref h0]) (n := 1) (Nat.le_of_ble_eq_true rfl)
  rw [lg_entry_eq]
  generalize (lg_sl ([.ref h0]) ++ List.replicate (1 - (lg_sl ([.ref h0])).length) Slot.unset).toArray = ls at hl ⊢
  have hl : lv_has ls 1 [(0, .ref h0)] := hl
  refine lv_aload_n hx hb d_As_init_0 rfl (lv_at hl 0 rfl) ?_
  refine W.objInit hx hb hown (hts _ w_28) (hts _ w_22) (hts _ w_23) rfl (by rw [hml]; exact hl.1) rfl d_As_init_1 (Nat.le_of_ble_eq_true rfl) (Nat.le_of_ble_eq_true rfl) ?_
  refine W.eq (g2 := F0 m 4 ls []) rfl ?_
  refine lv_aload_n hx hb d_As_init_4 rfl (lv_at hl 0 rfl) ?_
  refine va_new (ci := 4) (fs := [.null, .int 0, .int 0, .int 0, .null, .null, .null]) (C := R_So) (T := F_So) (N := 7) hx hb hts i_So t_So t_So_ok hown (hts _ w_29) (hts _ w_30) (hts _ w_3) hK hP hD hS hA rfl (by decide) (Nat.le_of_ble_eq_true rfl) (Nat.le_of_ble_eq_true rfl) d_As_init_5 (fun q1 H hP hD hS => ?_)
  have hP : va_P D cls [(h0, .inr (1, [.null, .null, .int 0, .int 0, .int 0, .int 0, .int 0, .int 0, .long 0, .int 0, .int 0, .int 0, .int 0, .int 0, .int 0])), (q1, .inr (4, [.null, .int 0, .int 0, .int 0, .null, .null, .null]))] H := hP
  have hD : va_D A [(h0, .inr (1, [.null, .null, .int 0, .int 0, .int 0, .int 0, .int 0, .int 0, .long 0, .int 0, .int 0, .int 0, .int 0, .int 0, .int 0])), (q1, .inr (4, [.null, .int 0, .int 0, .int 0, .null, .null, .null]))] := hD
  refine W.widen (k := 1) (n := 7) (by omega) (by omega) ?_
  refine lv_dup hx hb d_As_init_8 rfl ?_
  refine xc_IN (As := []) (rest := [.ref q1, .ref h0]) (wc := [(q1, .inr (4, [.null, .int 0, .int 0, .int 0, .null, .null, .null]))]) (wr := [(h0, .inr (1, [.null, .null, .int 0, .int 0, .int 0, .int 0, .int 0, .int 0, .long 0, .int 0, .int 0, .int 0, .int 0, .int 0, .int 0]))]) (tc := []) (tr := []) ⟨hx, hb, hml, hown, hts⟩ (c_So_init l D q1 H.size) rfl rfl rfl w_32 (by simp [xnM]) w_31 w_3 (by decide +kernel) ⟨Nat.le_of_ble_eq_true rfl, Nat.le_of_ble_eq_true rfl⟩ hP hD hK hS hA hN hZ [1] [0] rfl rfl (by decide) (by decide) (by decide) [] [] rfl rfl rfl hl.1 rfl (Nat.le_of_ble_eq_true rfl) d_As_init_9 ⟨Nat.le_of_ble_eq_true rfl, Nat.le_of_ble_eq_true rfl⟩ (fun u2 H locs hP hD hK hS => ?_)
  have hP : va_P D cls [(h0, .inr (1, [.null, .null, .int 0, .int 0, .int 0, .int 0, .int 0, .int 0, .long 0, .int 0, .int 0, .int 0, .int 0, .int 0, .int 0])), (q1, .inr (4, [.ref (u2.1 0), .int 0, .int 0, .int 0, .ref (u2.1 1), .ref (u2.1 2), .ref (u2.1 3)])), ((u2.1 0), .inl ((u2.2 0), 8192, .inl (fun _ => 0)))] H := hP
  have hD : va_D A [(h0, .inr (1, [.null, .null, .int 0, .int 0, .int 0, .int 0, .int 0, .int 0, .long 0, .int 0, .int 0, .int 0, .int 0, .int 0, .int 0])), (q1, .inr (4, [.ref (u2.1 0), .int 0, .int 0, .int 0, .ref (u2.1 1), .ref (u2.1 2), .ref (u2.1 3)])), ((u2.1 0), .inl ((u2.2 0), 8192, .inl (fun _ => 0)))] := hD
  have hK : va_K D cls [((u2.2 0), .byte)] s := hK
  refine W.widen (k := 5) (n := 32775) (by omega) (by omega) ?_
  refine W.eq (g2 := F0 m 12 ls [.ref q1, .ref h0]) rfl ?_
  refine va_putF (D := D) (ci := 1) (v := .ref q1) (ty := .object "ObjectForge$Source") (C := R_As) (T := F_As) (N := 15) hx hb hts i_As t_As t_As_ok n_As hown hK hP hD hS 0 rfl rfl 0 (by decide) (hts _ w_113) (fun _ h9 => h9) rfl hin rfl (by decide +kernel) rfl rfl (Nat.le_of_ble_eq_true rfl) d_As_init_12 (fun H locs hP hD hS => ?_)
  have hP : va_P D cls [(h0, .inr (1, [.ref q1, .null, .int 0, .int 0, .int 0, .int 0, .int 0, .int 0, .long 0, .int 0, .int 0, .int 0, .int 0, .int 0, .int 0])), (q1, .inr (4, [.ref (u2.1 0), .int 0, .int 0, .int 0, .ref (u2.1 1), .ref (u2.1 2), .ref (u2.1 3)])), ((u2.1 0), .inl ((u2.2 0), 8192, .inl (fun _ => 0)))] H := hP
  have hD : va_D A [(h0, .inr (1, [.ref q1, .null, .int 0, .int 0, .int 0, .int 0, .int 0, .int 0, .long 0, .int 0, .int 0, .int 0, .int 0, .int 0, .int 0])), (q1, .inr (4, [.ref (u2.1 0), .int 0, .int 0, .int 0, .ref (u2.1 1), .ref (u2.1 2), .ref (u2.1 3)])), ((u2.1 0), .inl ((u2.2 0), 8192, .inl (fun _ => 0)))] := hD
  refine lv_aload_n hx hb d_As_init_15 rfl (lv_at hl 0 rfl) ?_
  refine va_new (ci := 6) (fs := [.null, .null, .null, .null, .null]) (C := R_Un) (T := F_Un) (N := 5) hx hb hts i_Un t_Un t_Un_ok hown (hts _ w_44) (hts _ w_45) (hts _ w_4) hK hP hD hS hA rfl (by decide) (Nat.le_of_ble_eq_true rfl) (Nat.le_of_ble_eq_true rfl) d_As_init_16 (fun q3 H hP hD hS => ?_)
  have hP : va_P D cls [(h0, .inr (1, [.ref q1, .null, .int 0, .int 0, .int 0, .int 0, .int 0, .int 0, .long 0, .int 0, .int 0, .int 0, .int 0, .int 0, .int 0])), (q1, .inr (4, [.ref (u2.1 0), .int 0, .int 0, .int 0, .ref (u2.1 1), .ref (u2.1 2), .ref (u2.1 3)])), ((u2.1 0), .inl ((u2.2 0), 8192, .inl (fun _ => 0))), (q3, .inr (6, [.null, .null, .null, .null, .null]))] H := hP
  have hD : va_D A [(h0, .inr (1, [.ref q1, .null, .int 0, .int 0, .int 0, .int 0, .int 0, .int 0, .long 0, .int 0, .int 0, .int 0, .int 0, .int 0, .int 0])), (q1, .inr (4, [.ref (u2.1 0), .int 0, .int 0, .int 0, .ref (u2.1 1), .ref (u2.1 2), .ref (u2.1 3)])), ((u2.1 0), .inl ((u2.2 0), 8192, .inl (fun _ => 0))), (q3, .inr (6, [.null, .null, .null, .null, .null]))] := hD
  refine W.widen (k := 6) (n := 32780) (by omega) (by omega) ?_
  refine lv_dup hx hb d_As_init_19 rfl ?_
  refine xc_IN (As := []) (rest := [.ref q3, .ref h0]) (wc := [(q3, .inr (6, [.null, .null, .null, .null, .null]))]) (wr := [(h0, .inr (1, [.ref q1, .null, .int 0, .int 0, .int 0, .int 0, .int 0, .int 0, .long 0, .int 0, .int 0, .int 0, .int 0, .int 0, .int 0])), (q1, .inr (4, [.ref (u2.1 0), .int 0, .int 0, .int 0, .ref (u2.1 1), .ref (u2.1 2), .ref (u2.1 3)])), ((u2.1 0), .inl ((u2.2 0), 8192, .inl (fun _ => 0)))]) (tc := []) (tr := [((u2.2 0), .byte)]) ⟨hx, hb, hml, hown, hts⟩ (c_Un_init l D q3 H.size) rfl rfl rfl w_47 (by simp [xnM]) w_46 w_4 (by decide +kernel) ⟨Nat.le_of_ble_eq_true rfl, Nat.le_of_ble_eq_true rfl⟩ hP hD hK hS hA hN hZ [3] [0, 1, 2] rfl rfl (by decide) (by decide) (by decide) [] [0] rfl rfl rfl hl.1 rfl (Nat.le_of_ble_eq_true rfl) d_As_init_20 ⟨Nat.le_of_ble_eq_true rfl, Nat.le_of_ble_eq_true rfl⟩ (fun u4 H locs hP hD hK hS => ?_)
  have hP : va_P D cls [(h0, .inr (1, [.ref q1, .null, .int 0, .int 0, .int 0, .int 0, .int 0, .int 0, .long 0, .int 0, .int 0, .int 0, .int 0, .int 0, .int 0])), (q1, .inr (4, [.ref (u2.1 0), .int 0, .int 0, .int 0, .ref (u2.1 1), .ref (u2.1 2), .ref (u2.1 3)])), ((u2.1 0), .inl ((u2.2 0), 8192, .inl (fun _ => 0))), (q3, .inr (6, [.ref (u4.1 0), .ref (u4.1 1), .ref (u4.1 2), .ref (u4.1 3), .ref (u4.1 4)])), ((u4.1 1), .inl ((u4.2 0), 3, .inl (fun _ => 0))), ((u4.1 3), .inr (5, [.ref (u4.1 5), .ref (u4.1 6), .ref (u4.1 7), .ref (u4.1 8), .ref (u4.1 9), .ref (u4.1 10), .ref (u4.1 11), .int 0])), ((u4.1 4), .inr (3, [.ref (u4.1 12), .ref (u4.1 13), .ref (u4.1 14), .ref (u4.1 15), .ref (u4.1 16), .ref (u4.1 17), .int 0]))] H := hP
  have hD : va_D A [(h0, .inr (1, [.ref q1, .null, .int 0, .int 0, .int 0, .int 0, .int 0, .int 0, .long 0, .int 0, .int 0, .int 0, .int 0, .int 0, .int 0])), (q1, .inr (4, [.ref (u2.1 0), .int 0, .int 0, .int 0, .ref (u2.1 1), .ref (u2.1 2), .ref (u2.1 3)])), ((u2.1 0), .inl ((u2.2 0), 8192, .inl (fun _ => 0))), (q3, .inr (6, [.ref (u4.1 0), .ref (u4.1 1), .ref (u4.1 2), .ref (u4.1 3), .ref (u4.1 4)])), ((u4.1 1), .inl ((u4.2 0), 3, .inl (fun _ => 0))), ((u4.1 3), .inr (5, [.ref (u4.1 5), .ref (u4.1 6), .ref (u4.1 7), .ref (u4.1 8), .ref (u4.1 9), .ref (u4.1 10), .ref (u4.1 11), .int 0])), ((u4.1 4), .inr (3, [.ref (u4.1 12), .ref (u4.1 13), .ref (u4.1 14), .ref (u4.1 15), .ref (u4.1 16), .ref (u4.1 17), .int 0]))] := hD
  have hK : va_K D cls [((u2.2 0), .byte), ((u4.2 0), .int)] s := hK
  refine W.widen (k := 26) (n := 44451) (by omega) (by omega) ?_
  refine W.eq (g2 := F0 m 23 ls [.ref q3, .ref h0]) rfl ?_
  refine va_put (D := D) (ci := 1) (v := .ref q3) (ty := .object "ObjectForge$Unit") (C := R_As) (T := F_As) (N := 15) hx hb hts i_As t_As t_As_ok n_As hown hK hP hD hS 0 rfl rfl 1 (by decide) (hts _ w_115) (fun _ h9 => h9) rfl (by decide +kernel) rfl rfl (Nat.le_of_ble_eq_true rfl) d_As_init_23 (fun H locs hP hD hS => ?_)
  have hP : va_P D cls [(h0, .inr (1, [.ref q1, .ref q3, .int 0, .int 0, .int 0, .int 0, .int 0, .int 0, .long 0, .int 0, .int 0, .int 0, .int 0, .int 0, .int 0])), (q1, .inr (4, [.ref (u2.1 0), .int 0, .int 0, .int 0, .ref (u2.1 1), .ref (u2.1 2), .ref (u2.1 3)])), ((u2.1 0), .inl ((u2.2 0), 8192, .inl (fun _ => 0))), (q3, .inr (6, [.ref (u4.1 0), .ref (u4.1 1), .ref (u4.1 2), .ref (u4.1 3), .ref (u4.1 4)])), ((u4.1 1), .inl ((u4.2 0), 3, .inl (fun _ => 0))), ((u4.1 3), .inr (5, [.ref (u4.1 5), .ref (u4.1 6), .ref (u4.1 7), .ref (u4.1 8), .ref (u4.1 9), .ref (u4.1 10), .ref (u4.1 11), .int 0])), ((u4.1 4), .inr (3, [.ref (u4.1 12), .ref (u4.1 13), .ref (u4.1 14), .ref (u4.1 15), .ref (u4.1 16), .ref (u4.1 17), .int 0]))] H := hP
  have hD : va_D A [(h0, .inr (1, [.ref q1, .ref q3, .int 0, .int 0, .int 0, .int 0, .int 0, .int 0, .long 0, .int 0, .int 0, .int 0, .int 0, .int 0, .int 0])), (q1, .inr (4, [.ref (u2.1 0), .int 0, .int 0, .int 0, .ref (u2.1 1), .ref (u2.1 2), .ref (u2.1 3)])), ((u2.1 0), .inl ((u2.2 0), 8192, .inl (fun _ => 0))), (q3, .inr (6, [.ref (u4.1 0), .ref (u4.1 1), .ref (u4.1 2), .ref (u4.1 3), .ref (u4.1 4)])), ((u4.1 1), .inl ((u4.2 0), 3, .inl (fun _ => 0))), ((u4.1 3), .inr (5, [.ref (u4.1 5), .ref (u4.1 6), .ref (u4.1 7), .ref (u4.1 8), .ref (u4.1 9), .ref (u4.1 10), .ref (u4.1 11), .int 0])), ((u4.1 4), .inr (3, [.ref (u4.1 12), .ref (u4.1 13), .ref (u4.1 14), .ref (u4.1 15), .ref (u4.1 16), .ref (u4.1 17), .int 0]))] := hD
  refine lv_aload_n hx hb d_As_init_26 rfl (lv_at hl 0 rfl) ?_
  refine lv_iconst (v := 0) hx hb d_As_init_27 (by decide) ?_
  refine va_put (D := D) (ci := 1) (v := .int 0) (ty := .int) (C := R_As) (T := F_As) (N := 15) hx hb hts i_As t_As t_As_ok n_As hown hK hP hD hS 0 rfl rfl 2 (by decide) (hts _ w_117) (fun _ h9 => h9) rfl (by decide +kernel) rfl rfl (Nat.le_of_ble_eq_true rfl) d_As_init_28 (fun H locs hP hD hS => ?_)
  have hP : va_P D cls [(h0, .inr (1, [.ref q1, .ref q3, .int 0, .int 0, .int 0, .int 0, .int 0, .int 0, .long 0, .int 0, .int 0, .int 0, .int 0, .int 0, .int 0])), (q1, .inr (4, [.ref (u2.1 0), .int 0, .int 0, .int 0, .ref (u2.1 1), .ref (u2.1 2), .ref (u2.1 3)])), ((u2.1 0), .inl ((u2.2 0), 8192, .inl (fun _ => 0))), (q3, .inr (6, [.ref (u4.1 0), .ref (u4.1 1), .ref (u4.1 2), .ref (u4.1 3), .ref (u4.1 4)])), ((u4.1 1), .inl ((u4.2 0), 3, .inl (fun _ => 0))), ((u4.1 3), .inr (5, [.ref (u4.1 5), .ref (u4.1 6), .ref (u4.1 7), .ref (u4.1 8), .ref (u4.1 9), .ref (u4.1 10), .ref (u4.1 11), .int 0])), ((u4.1 4), .inr (3, [.ref (u4.1 12), .ref (u4.1 13), .ref (u4.1 14), .ref (u4.1 15), .ref (u4.1 16), .ref (u4.1 17), .int 0]))] H := hP
  have hD : va_D A [(h0, .inr (1, [.ref q1, .ref q3, .int 0, .int 0, .int 0, .int 0, .int 0, .int 0, .long 0, .int 0, .int 0, .int 0, .int 0, .int 0, .int 0])), (q1, .inr (4, [.ref (u2.1 0), .int 0, .int 0, .int 0, .ref (u2.1 1), .ref (u2.1 2), .ref (u2.1 3)])), ((u2.1 0), .inl ((u2.2 0), 8192, .inl (fun _ => 0))), (q3, .inr (6, [.ref (u4.1 0), .ref (u4.1 1), .ref (u4.1 2), .ref (u4.1 3), .ref (u4.1 4)])), ((u4.1 1), .inl ((u4.2 0), 3, .inl (fun _ => 0))), ((u4.1 3), .inr (5, [.ref (u4.1 5), .ref (u4.1 6), .ref (u4.1 7), .ref (u4.1 8), .ref (u4.1 9), .ref (u4.1 10), .ref (u4.1 11), .int 0])), ((u4.1 4), .inr (3, [.ref (u4.1 12), .ref (u4.1 13), .ref (u4.1 14), .ref (u4.1 15), .ref (u4.1 16), .ref (u4.1 17), .int 0]))] := hD
  refine lv_aload_n hx hb d_As_init_31 rfl (lv_at hl 0 rfl) ?_
  refine lv_iconst (v := 0) hx hb d_As_init_32 (by decide) ?_
  refine va_put (D := D) (ci := 1) (v := .int 0) (ty := .int) (C := R_As) (T := F_As) (N := 15) hx hb hts i_As t_As t_As_ok n_As hown hK hP hD hS 0 rfl rfl 3 (by decide) (hts _ w_119) (fun _ h9 => h9) rfl (by decide +kernel) rfl rfl (Nat.le_of_ble_eq_true rfl) d_As_init_33 (fun H locs hP hD hS => ?_)
  have hP : va_P D cls [(h0, .inr (1, [.ref q1, .ref q3, .int 0, .int 0, .int 0, .int 0, .int 0, .int 0, .long 0, .int 0, .int 0, .int 0, .int 0, .int 0, .int 0])), (q1, .inr (4, [.ref (u2.1 0), .int 0, .int 0, .int 0, .ref (u2.1 1), .ref (u2.1 2), .ref (u2.1 3)])), ((u2.1 0), .inl ((u2.2 0), 8192, .inl (fun _ => 0))), (q3, .inr (6, [.ref (u4.1 0), .ref (u4.1 1), .ref (u4.1 2), .ref (u4.1 3), .ref (u4.1 4)])), ((u4.1 1), .inl ((u4.2 0), 3, .inl (fun _ => 0))), ((u4.1 3), .inr (5, [.ref (u4.1 5), .ref (u4.1 6), .ref (u4.1 7), .ref (u4.1 8), .ref (u4.1 9), .ref (u4.1 10), .ref (u4.1 11), .int 0])), ((u4.1 4), .inr (3, [.ref (u4.1 12), .ref (u4.1 13), .ref (u4.1 14), .ref (u4.1 15), .ref (u4.1 16), .ref (u4.1 17), .int 0]))] H := hP
  have hD : va_D A [(h0, .inr (1, [.ref q1, .ref q3, .int 0, .int 0, .int 0, .int 0, .int 0, .int 0, .long 0, .int 0, .int 0, .int 0, .int 0, .int 0, .int 0])), (q1, .inr (4, [.ref (u2.1 0), .int 0, .int 0, .int 0, .ref (u2.1 1), .ref (u2.1 2), .ref (u2.1 3)])), ((u2.1 0), .inl ((u2.2 0), 8192, .inl (fun _ => 0))), (q3, .inr (6, [.ref (u4.1 0), .ref (u4.1 1), .ref (u4.1 2), .ref (u4.1 3), .ref (u4.1 4)])), ((u4.1 1), .inl ((u4.2 0), 3, .inl (fun _ => 0))), ((u4.1 3), .inr (5, [.ref (u4.1 5), .ref (u4.1 6), .ref (u4.1 7), .ref (u4.1 8), .ref (u4.1 9), .ref (u4.1 10), .ref (u4.1 11), .int 0])), ((u4.1 4), .inr (3, [.ref (u4.1 12), .ref (u4.1 13), .ref (u4.1 14), .ref (u4.1 15), .ref (u4.1 16), .ref (u4.1 17), .int 0]))] := hD
  refine lv_aload_n hx hb d_As_init_36 rfl (lv_at hl 0 rfl) ?_
  refine lv_iconst (v := 0) hx hb d_As_init_37 (by decide) ?_
  refine va_put (D := D) (ci := 1) (v := .int 0) (ty := .int) (C := R_As) (T := F_As) (N := 15) hx hb hts i_As t_As t_As_ok n_As hown hK hP hD hS 0 rfl rfl 4 (by decide) (hts _ w_121) (fun _ h9 => h9) rfl (by decide +kernel) rfl rfl (Nat.le_of_ble_eq_true rfl) d_As_init_38 (fun H locs hP hD hS => ?_)
  have hP : va_P D cls [(h0, .inr (1, [.ref q1, .ref q3, .int 0, .int 0, .int 0, .int 0, .int 0, .int 0, .long 0, .int 0, .int 0, .int 0, .int 0, .int 0, .int 0])), (q1, .inr (4, [.ref (u2.1 0), .int 0, .int 0, .int 0, .ref (u2.1 1), .ref (u2.1 2), .ref (u2.1 3)])), ((u2.1 0), .inl ((u2.2 0), 8192, .inl (fun _ => 0))), (q3, .inr (6, [.ref (u4.1 0), .ref (u4.1 1), .ref (u4.1 2), .ref (u4.1 3), .ref (u4.1 4)])), ((u4.1 1), .inl ((u4.2 0), 3, .inl (fun _ => 0))), ((u4.1 3), .inr (5, [.ref (u4.1 5), .ref (u4.1 6), .ref (u4.1 7), .ref (u4.1 8), .ref (u4.1 9), .ref (u4.1 10), .ref (u4.1 11), .int 0])), ((u4.1 4), .inr (3, [.ref (u4.1 12), .ref (u4.1 13), .ref (u4.1 14), .ref (u4.1 15), .ref (u4.1 16), .ref (u4.1 17), .int 0]))] H := hP
  have hD : va_D A [(h0, .inr (1, [.ref q1, .ref q3, .int 0, .int 0, .int 0, .int 0, .int 0, .int 0, .long 0, .int 0, .int 0, .int 0, .int 0, .int 0, .int 0])), (q1, .inr (4, [.ref (u2.1 0), .int 0, .int 0, .int 0, .ref (u2.1 1), .ref (u2.1 2), .ref (u2.1 3)])), ((u2.1 0), .inl ((u2.2 0), 8192, .inl (fun _ => 0))), (q3, .inr (6, [.ref (u4.1 0), .ref (u4.1 1), .ref (u4.1 2), .ref (u4.1 3), .ref (u4.1 4)])), ((u4.1 1), .inl ((u4.2 0), 3, .inl (fun _ => 0))), ((u4.1 3), .inr (5, [.ref (u4.1 5), .ref (u4.1 6), .ref (u4.1 7), .ref (u4.1 8), .ref (u4.1 9), .ref (u4.1 10), .ref (u4.1 11), .int 0])), ((u4.1 4), .inr (3, [.ref (u4.1 12), .ref (u4.1 13), .ref (u4.1 14), .ref (u4.1 15), .ref (u4.1 16), .ref (u4.1 17), .int 0]))] := hD
  refine lv_aload_n hx hb d_As_init_41 rfl (lv_at hl 0 rfl) ?_
  refine lv_iconst (v := 0) hx hb d_As_init_42 (by decide) ?_
  refine va_put (D := D) (ci := 1) (v := .int 0) (ty := .int) (C := R_As) (T := F_As) (N := 15) hx hb hts i_As t_As t_As_ok n_As hown hK hP hD hS 0 rfl rfl 5 (by decide) (hts _ w_122) (fun _ h9 => h9) rfl (by decide +kernel) rfl rfl (Nat.le_of_ble_eq_true rfl) d_As_init_43 (fun H locs hP hD hS => ?_)
  have hP : va_P D cls [(h0, .inr (1, [.ref q1, .ref q3, .int 0, .int 0, .int 0, .int 0, .int 0, .int 0, .long 0, .int 0, .int 0, .int 0, .int 0, .int 0, .int 0])), (q1, .inr (4, [.ref (u2.1 0), .int 0, .int 0, .int 0, .ref (u2.1 1), .ref (u2.1 2), .ref (u2.1 3)])), ((u2.1 0), .inl ((u2.2 0), 8192, .inl (fun _ => 0))), (q3, .inr (6, [.ref (u4.1 0), .ref (u4.1 1), .ref (u4.1 2), .ref (u4.1 3), .ref (u4.1 4)])), ((u4.1 1), .inl ((u4.2 0), 3, .inl (fun _ => 0))), ((u4.1 3), .inr (5, [.ref (u4.1 5), .ref (u4.1 6), .ref (u4.1 7), .ref (u4.1 8), .ref (u4.1 9), .ref (u4.1 10), .ref (u4.1 11), .int 0])), ((u4.1 4), .inr (3, [.ref (u4.1 12), .ref (u4.1 13), .ref (u4.1 14), .ref (u4.1 15), .ref (u4.1 16), .ref (u4.1 17), .int 0]))] H := hP
  have hD : va_D A [(h0, .inr (1, [.ref q1, .ref q3, .int 0, .int 0, .int 0, .int 0, .int 0, .int 0, .long 0, .int 0, .int 0, .int 0, .int 0, .int 0, .int 0])), (q1, .inr (4, [.ref (u2.1 0), .int 0, .int 0, .int 0, .ref (u2.1 1), .ref (u2.1 2), .ref (u2.1 3)])), ((u2.1 0), .inl ((u2.2 0), 8192, .inl (fun _ => 0))), (q3, .inr (6, [.ref (u4.1 0), .ref (u4.1 1), .ref (u4.1 2), .ref (u4.1 3), .ref (u4.1 4)])), ((u4.1 1), .inl ((u4.2 0), 3, .inl (fun _ => 0))), ((u4.1 3), .inr (5, [.ref (u4.1 5), .ref (u4.1 6), .ref (u4.1 7), .ref (u4.1 8), .ref (u4.1 9), .ref (u4.1 10), .ref (u4.1 11), .int 0])), ((u4.1 4), .inr (3, [.ref (u4.1 12), .ref (u4.1 13), .ref (u4.1 14), .ref (u4.1 15), .ref (u4.1 16), .ref (u4.1 17), .int 0]))] := hD
  refine lv_aload_n hx hb d_As_init_46 rfl (lv_at hl 0 rfl) ?_
  refine lv_iconst (v := 0) hx hb d_As_init_47 (by decide) ?_
  refine va_put (D := D) (ci := 1) (v := .int 0) (ty := .int) (C := R_As) (T := F_As) (N := 15) hx hb hts i_As t_As t_As_ok n_As hown hK hP hD hS 0 rfl rfl 6 (by decide) (hts _ w_123) (fun _ h9 => h9) rfl (by decide +kernel) rfl rfl (Nat.le_of_ble_eq_true rfl) d_As_init_48 (fun H locs hP hD hS => ?_)
  have hP : va_P D cls [(h0, .inr (1, [.ref q1, .ref q3, .int 0, .int 0, .int 0, .int 0, .int 0, .int 0, .long 0, .int 0, .int 0, .int 0, .int 0, .int 0, .int 0])), (q1, .inr (4, [.ref (u2.1 0), .int 0, .int 0, .int 0, .ref (u2.1 1), .ref (u2.1 2), .ref (u2.1 3)])), ((u2.1 0), .inl ((u2.2 0), 8192, .inl (fun _ => 0))), (q3, .inr (6, [.ref (u4.1 0), .ref (u4.1 1), .ref (u4.1 2), .ref (u4.1 3), .ref (u4.1 4)])), ((u4.1 1), .inl ((u4.2 0), 3, .inl (fun _ => 0))), ((u4.1 3), .inr (5, [.ref (u4.1 5), .ref (u4.1 6), .ref (u4.1 7), .ref (u4.1 8), .ref (u4.1 9), .ref (u4.1 10), .ref (u4.1 11), .int 0])), ((u4.1 4), .inr (3, [.ref (u4.1 12), .ref (u4.1 13), .ref (u4.1 14), .ref (u4.1 15), .ref (u4.1 16), .ref (u4.1 17), .int 0]))] H := hP
  have hD : va_D A [(h0, .inr (1, [.ref q1, .ref q3, .int 0, .int 0, .int 0, .int 0, .int 0, .int 0, .long 0, .int 0, .int 0, .int 0, .int 0, .int 0, .int 0])), (q1, .inr (4, [.ref (u2.1 0), .int 0, .int 0, .int 0, .ref (u2.1 1), .ref (u2.1 2), .ref (u2.1 3)])), ((u2.1 0), .inl ((u2.2 0), 8192, .inl (fun _ => 0))), (q3, .inr (6, [.ref (u4.1 0), .ref (u4.1 1), .ref (u4.1 2), .ref (u4.1 3), .ref (u4.1 4)])), ((u4.1 1), .inl ((u4.2 0), 3, .inl (fun _ => 0))), ((u4.1 3), .inr (5, [.ref (u4.1 5), .ref (u4.1 6), .ref (u4.1 7), .ref (u4.1 8), .ref (u4.1 9), .ref (u4.1 10), .ref (u4.1 11), .int 0])), ((u4.1 4), .inr (3, [.ref (u4.1 12), .ref (u4.1 13), .ref (u4.1 14), .ref (u4.1 15), .ref (u4.1 16), .ref (u4.1 17), .int 0]))] := hD
  refine lv_aload_n hx hb d_As_init_51 rfl (lv_at hl 0 rfl) ?_
  refine lv_iconst (v := (-1)) hx hb d_As_init_52 (by decide) ?_
  refine va_put (D := D) (ci := 1) (v := .int (-1)) (ty := .int) (C := R_As) (T := F_As) (N := 15) hx hb hts i_As t_As t_As_ok n_As hown hK hP hD hS 0 rfl rfl 7 (by decide) (hts _ w_124) (fun _ h9 => h9) rfl (by decide +kernel) rfl rfl (Nat.le_of_ble_eq_true rfl) d_As_init_53 (fun H locs hP hD hS => ?_)
  have hP : va_P D cls [(h0, .inr (1, [.ref q1, .ref q3, .int 0, .int 0, .int 0, .int 0, .int 0, .int (-1), .long 0, .int 0, .int 0, .int 0, .int 0, .int 0, .int 0])), (q1, .inr (4, [.ref (u2.1 0), .int 0, .int 0, .int 0, .ref (u2.1 1), .ref (u2.1 2), .ref (u2.1 3)])), ((u2.1 0), .inl ((u2.2 0), 8192, .inl (fun _ => 0))), (q3, .inr (6, [.ref (u4.1 0), .ref (u4.1 1), .ref (u4.1 2), .ref (u4.1 3), .ref (u4.1 4)])), ((u4.1 1), .inl ((u4.2 0), 3, .inl (fun _ => 0))), ((u4.1 3), .inr (5, [.ref (u4.1 5), .ref (u4.1 6), .ref (u4.1 7), .ref (u4.1 8), .ref (u4.1 9), .ref (u4.1 10), .ref (u4.1 11), .int 0])), ((u4.1 4), .inr (3, [.ref (u4.1 12), .ref (u4.1 13), .ref (u4.1 14), .ref (u4.1 15), .ref (u4.1 16), .ref (u4.1 17), .int 0]))] H := hP
  have hD : va_D A [(h0, .inr (1, [.ref q1, .ref q3, .int 0, .int 0, .int 0, .int 0, .int 0, .int (-1), .long 0, .int 0, .int 0, .int 0, .int 0, .int 0, .int 0])), (q1, .inr (4, [.ref (u2.1 0), .int 0, .int 0, .int 0, .ref (u2.1 1), .ref (u2.1 2), .ref (u2.1 3)])), ((u2.1 0), .inl ((u2.2 0), 8192, .inl (fun _ => 0))), (q3, .inr (6, [.ref (u4.1 0), .ref (u4.1 1), .ref (u4.1 2), .ref (u4.1 3), .ref (u4.1 4)])), ((u4.1 1), .inl ((u4.2 0), 3, .inl (fun _ => 0))), ((u4.1 3), .inr (5, [.ref (u4.1 5), .ref (u4.1 6), .ref (u4.1 7), .ref (u4.1 8), .ref (u4.1 9), .ref (u4.1 10), .ref (u4.1 11), .int 0])), ((u4.1 4), .inr (3, [.ref (u4.1 12), .ref (u4.1 13), .ref (u4.1 14), .ref (u4.1 15), .ref (u4.1 16), .ref (u4.1 17), .int 0]))] := hD
  refine lv_aload_n hx hb d_As_init_56 rfl (lv_at hl 0 rfl) ?_
  refine lv_lconst (v := 0) hx hb d_As_init_57 (by decide) ?_
  refine va_put (D := D) (ci := 1) (v := .long 0) (ty := .long) (C := R_As) (T := F_As) (N := 15) hx hb hts i_As t_As t_As_ok n_As hown hK hP hD hS 0 rfl rfl 8 (by decide) (hts _ w_125) (fun _ h9 => h9) rfl (by decide +kernel) rfl rfl (Nat.le_of_ble_eq_true rfl) d_As_init_58 (fun H locs hP hD hS => ?_)
  have hP : va_P D cls [(h0, .inr (1, [.ref q1, .ref q3, .int 0, .int 0, .int 0, .int 0, .int 0, .int (-1), .long 0, .int 0, .int 0, .int 0, .int 0, .int 0, .int 0])), (q1, .inr (4, [.ref (u2.1 0), .int 0, .int 0, .int 0, .ref (u2.1 1), .ref (u2.1 2), .ref (u2.1 3)])), ((u2.1 0), .inl ((u2.2 0), 8192, .inl (fun _ => 0))), (q3, .inr (6, [.ref (u4.1 0), .ref (u4.1 1), .ref (u4.1 2), .ref (u4.1 3), .ref (u4.1 4)])), ((u4.1 1), .inl ((u4.2 0), 3, .inl (fun _ => 0))), ((u4.1 3), .inr (5, [.ref (u4.1 5), .ref (u4.1 6), .ref (u4.1 7), .ref (u4.1 8), .ref (u4.1 9), .ref (u4.1 10), .ref (u4.1 11), .int 0])), ((u4.1 4), .inr (3, [.ref (u4.1 12), .ref (u4.1 13), .ref (u4.1 14), .ref (u4.1 15), .ref (u4.1 16), .ref (u4.1 17), .int 0]))] H := hP
  have hD : va_D A [(h0, .inr (1, [.ref q1, .ref q3, .int 0, .int 0, .int 0, .int 0, .int 0, .int (-1), .long 0, .int 0, .int 0, .int 0, .int 0, .int 0, .int 0])), (q1, .inr (4, [.ref (u2.1 0), .int 0, .int 0, .int 0, .ref (u2.1 1), .ref (u2.1 2), .ref (u2.1 3)])), ((u2.1 0), .inl ((u2.2 0), 8192, .inl (fun _ => 0))), (q3, .inr (6, [.ref (u4.1 0), .ref (u4.1 1), .ref (u4.1 2), .ref (u4.1 3), .ref (u4.1 4)])), ((u4.1 1), .inl ((u4.2 0), 3, .inl (fun _ => 0))), ((u4.1 3), .inr (5, [.ref (u4.1 5), .ref (u4.1 6), .ref (u4.1 7), .ref (u4.1 8), .ref (u4.1 9), .ref (u4.1 10), .ref (u4.1 11), .int 0])), ((u4.1 4), .inr (3, [.ref (u4.1 12), .ref (u4.1 13), .ref (u4.1 14), .ref (u4.1 15), .ref (u4.1 16), .ref (u4.1 17), .int 0]))] := hD
  refine lv_aload_n hx hb d_As_init_61 rfl (lv_at hl 0 rfl) ?_
  refine lv_iconst (v := 0) hx hb d_As_init_62 (by decide) ?_
  refine va_put (D := D) (ci := 1) (v := .int 0) (ty := .int) (C := R_As) (T := F_As) (N := 15) hx hb hts i_As t_As t_As_ok n_As hown hK hP hD hS 0 rfl rfl 9 (by decide) (hts _ w_126) (fun _ h9 => h9) rfl (by decide +kernel) rfl rfl (Nat.le_of_ble_eq_true rfl) d_As_init_63 (fun H locs hP hD hS => ?_)
  have hP : va_P D cls [(h0, .inr (1, [.ref q1, .ref q3, .int 0, .int 0, .int 0, .int 0, .int 0, .int (-1), .long 0, .int 0, .int 0, .int 0, .int 0, .int 0, .int 0])), (q1, .inr (4, [.ref (u2.1 0), .int 0, .int 0, .int 0, .ref (u2.1 1), .ref (u2.1 2), .ref (u2.1 3)])), ((u2.1 0), .inl ((u2.2 0), 8192, .inl (fun _ => 0))), (q3, .inr (6, [.ref (u4.1 0), .ref (u4.1 1), .ref (u4.1 2), .ref (u4.1 3), .ref (u4.1 4)])), ((u4.1 1), .inl ((u4.2 0), 3, .inl (fun _ => 0))), ((u4.1 3), .inr (5, [.ref (u4.1 5), .ref (u4.1 6), .ref (u4.1 7), .ref (u4.1 8), .ref (u4.1 9), .ref (u4.1 10), .ref (u4.1 11), .int 0])), ((u4.1 4), .inr (3, [.ref (u4.1 12), .ref (u4.1 13), .ref (u4.1 14), .ref (u4.1 15), .ref (u4.1 16), .ref (u4.1 17), .int 0]))] H := hP
  have hD : va_D A [(h0, .inr (1, [.ref q1, .ref q3, .int 0, .int 0, .int 0, .int 0, .int 0, .int (-1), .long 0, .int 0, .int 0, .int 0, .int 0, .int 0, .int 0])), (q1, .inr (4, [.ref (u2.1 0), .int 0, .int 0, .int 0, .ref (u2.1 1), .ref (u2.1 2), .ref (u2.1 3)])), ((u2.1 0), .inl ((u2.2 0), 8192, .inl (fun _ => 0))), (q3, .inr (6, [.ref (u4.1 0), .ref (u4.1 1), .ref (u4.1 2), .ref (u4.1 3), .ref (u4.1 4)])), ((u4.1 1), .inl ((u4.2 0), 3, .inl (fun _ => 0))), ((u4.1 3), .inr (5, [.ref (u4.1 5), .ref (u4.1 6), .ref (u4.1 7), .ref (u4.1 8), .ref (u4.1 9), .ref (u4.1 10), .ref (u4.1 11), .int 0])), ((u4.1 4), .inr (3, [.ref (u4.1 12), .ref (u4.1 13), .ref (u4.1 14), .ref (u4.1 15), .ref (u4.1 16), .ref (u4.1 17), .int 0]))] := hD
  refine lv_aload_n hx hb d_As_init_66 rfl (lv_at hl 0 rfl) ?_
  refine lv_iconst (v := 0) hx hb d_As_init_67 (by decide) ?_
  refine va_put (D := D) (ci := 1) (v := .int 0) (ty := .int) (C := R_As) (T := F_As) (N := 15) hx hb hts i_As t_As t_As_ok n_As hown hK hP hD hS 0 rfl rfl 10 (by decide) (hts _ w_127) (fun _ h9 => h9) rfl (by decide +kernel) rfl rfl (Nat.le_of_ble_eq_true rfl) d_As_init_68 (fun H locs hP hD hS => ?_)
  have hP : va_P D cls [(h0, .inr (1, [.ref q1, .ref q3, .int 0, .int 0, .int 0, .int 0, .int 0, .int (-1), .long 0, .int 0, .int 0, .int 0, .int 0, .int 0, .int 0])), (q1, .inr (4, [.ref (u2.1 0), .int 0, .int 0, .int 0, .ref (u2.1 1), .ref (u2.1 2), .ref (u2.1 3)])), ((u2.1 0), .inl ((u2.2 0), 8192, .inl (fun _ => 0))), (q3, .inr (6, [.ref (u4.1 0), .ref (u4.1 1), .ref (u4.1 2), .ref (u4.1 3), .ref (u4.1 4)])), ((u4.1 1), .inl ((u4.2 0), 3, .inl (fun _ => 0))), ((u4.1 3), .inr (5, [.ref (u4.1 5), .ref (u4.1 6), .ref (u4.1 7), .ref (u4.1 8), .ref (u4.1 9), .ref (u4.1 10), .ref (u4.1 11), .int 0])), ((u4.1 4), .inr (3, [.ref (u4.1 12), .ref (u4.1 13), .ref (u4.1 14), .ref (u4.1 15), .ref (u4.1 16), .ref (u4.1 17), .int 0]))] H := hP
  have hD : va_D A [(h0, .inr (1, [.ref q1, .ref q3, .int 0, .int 0, .int 0, .int 0, .int 0, .int (-1), .long 0, .int 0, .int 0, .int 0, .int 0, .int 0, .int 0])), (q1, .inr (4, [.ref (u2.1 0), .int 0, .int 0, .int 0, .ref (u2.1 1), .ref (u2.1 2), .ref (u2.1 3)])), ((u2.1 0), .inl ((u2.2 0), 8192, .inl (fun _ => 0))), (q3, .inr (6, [.ref (u4.1 0), .ref (u4.1 1), .ref (u4.1 2), .ref (u4.1 3), .ref (u4.1 4)])), ((u4.1 1), .inl ((u4.2 0), 3, .inl (fun _ => 0))), ((u4.1 3), .inr (5, [.ref (u4.1 5), .ref (u4.1 6), .ref (u4.1 7), .ref (u4.1 8), .ref (u4.1 9), .ref (u4.1 10), .ref (u4.1 11), .int 0])), ((u4.1 4), .inr (3, [.ref (u4.1 12), .ref (u4.1 13), .ref (u4.1 14), .ref (u4.1 15), .ref (u4.1 16), .ref (u4.1 17), .int 0]))] := hD
  refine lv_aload_n hx hb d_As_init_71 rfl (lv_at hl 0 rfl) ?_
  refine lv_iconst (v := 0) hx hb d_As_init_72 (by decide) ?_
  refine va_put (D := D) (ci := 1) (v := .int 0) (ty := .int) (C := R_As) (T := F_As) (N := 15) hx hb hts i_As t_As t_As_ok n_As hown hK hP hD hS 0 rfl rfl 11 (by decide) (hts _ w_128) (fun _ h9 => h9) rfl (by decide +kernel) rfl rfl (Nat.le_of_ble_eq_true rfl) d_As_init_73 (fun H locs hP hD hS => ?_)
  have hP : va_P D cls [(h0, .inr (1, [.ref q1, .ref q3, .int 0, .int 0, .int 0, .int 0, .int 0, .int (-1), .long 0, .int 0, .int 0, .int 0, .int 0, .int 0, .int 0])), (q1, .inr (4, [.ref (u2.1 0), .int 0, .int 0, .int 0, .ref (u2.1 1), .ref (u2.1 2), .ref (u2.1 3)])), ((u2.1 0), .inl ((u2.2 0), 8192, .inl (fun _ => 0))), (q3, .inr (6, [.ref (u4.1 0), .ref (u4.1 1), .ref (u4.1 2), .ref (u4.1 3), .ref (u4.1 4)])), ((u4.1 1), .inl ((u4.2 0), 3, .inl (fun _ => 0))), ((u4.1 3), .inr (5, [.ref (u4.1 5), .ref (u4.1 6), .ref (u4.1 7), .ref (u4.1 8), .ref (u4.1 9), .ref (u4.1 10), .ref (u4.1 11), .int 0])), ((u4.1 4), .inr (3, [.ref (u4.1 12), .ref (u4.1 13), .ref (u4.1 14), .ref (u4.1 15), .ref (u4.1 16), .ref (u4.1 17), .int 0]))] H := hP
  have hD : va_D A [(h0, .inr (1, [.ref q1, .ref q3, .int 0, .int 0, .int 0, .int 0, .int 0, .int (-1), .long 0, .int 0, .int 0, .int 0, .int 0, .int 0, .int 0])), (q1, .inr (4, [.ref (u2.1 0), .int 0, .int 0, .int 0, .ref (u2.1 1), .ref (u2.1 2), .ref (u2.1 3)])), ((u2.1 0), .inl ((u2.2 0), 8192, .inl (fun _ => 0))), (q3, .inr (6, [.ref (u4.1 0), .ref (u4.1 1), .ref (u4.1 2), .ref (u4.1 3), .ref (u4.1 4)])), ((u4.1 1), .inl ((u4.2 0), 3, .inl (fun _ => 0))), ((u4.1 3), .inr (5, [.ref (u4.1 5), .ref (u4.1 6), .ref (u4.1 7), .ref (u4.1 8), .ref (u4.1 9), .ref (u4.1 10), .ref (u4.1 11), .int 0])), ((u4.1 4), .inr (3, [.ref (u4.1 12), .ref (u4.1 13), .ref (u4.1 14), .ref (u4.1 15), .ref (u4.1 16), .ref (u4.1 17), .int 0]))] := hD
  refine lv_aload_n hx hb d_As_init_76 rfl (lv_at hl 0 rfl) ?_
  refine lv_iconst (v := 0) hx hb d_As_init_77 (by decide) ?_
  refine va_put (D := D) (ci := 1) (v := .int 0) (ty := .int) (C := R_As) (T := F_As) (N := 15) hx hb hts i_As t_As t_As_ok n_As hown hK hP hD hS 0 rfl rfl 12 (by decide) (hts _ w_129) (fun _ h9 => h9) rfl (by decide +kernel) rfl rfl (Nat.le_of_ble_eq_true rfl) d_As_init_78 (fun H locs hP hD hS => ?_)
  have hP : va_P D cls [(h0, .inr (1, [.ref q1, .ref q3, .int 0, .int 0, .int 0, .int 0, .int 0, .int (-1), .long 0, .int 0, .int 0, .int 0, .int 0, .int 0, .int 0])), (q1, .inr (4, [.ref (u2.1 0), .int 0, .int 0, .int 0, .ref (u2.1 1), .ref (u2.1 2), .ref (u2.1 3)])), ((u2.1 0), .inl ((u2.2 0), 8192, .inl (fun _ => 0))), (q3, .inr (6, [.ref (u4.1 0), .ref (u4.1 1), .ref (u4.1 2), .ref (u4.1 3), .ref (u4.1 4)])), ((u4.1 1), .inl ((u4.2 0), 3, .inl (fun _ => 0))), ((u4.1 3), .inr (5, [.ref (u4.1 5), .ref (u4.1 6), .ref (u4.1 7), .ref (u4.1 8), .ref (u4.1 9), .ref (u4.1 10), .ref (u4.1 11), .int 0])), ((u4.1 4), .inr (3, [.ref (u4.1 12), .ref (u4.1 13), .ref (u4.1 14), .ref (u4.1 15), .ref (u4.1 16), .ref (u4.1 17), .int 0]))] H := hP
  have hD : va_D A [(h0, .inr (1, [.ref q1, .ref q3, .int 0, .int 0, .int 0, .int 0, .int 0, .int (-1), .long 0, .int 0, .int 0, .int 0, .int 0, .int 0, .int 0])), (q1, .inr (4, [.ref (u2.1 0), .int 0, .int 0, .int 0, .ref (u2.1 1), .ref (u2.1 2), .ref (u2.1 3)])), ((u2.1 0), .inl ((u2.2 0), 8192, .inl (fun _ => 0))), (q3, .inr (6, [.ref (u4.1 0), .ref (u4.1 1), .ref (u4.1 2), .ref (u4.1 3), .ref (u4.1 4)])), ((u4.1 1), .inl ((u4.2 0), 3, .inl (fun _ => 0))), ((u4.1 3), .inr (5, [.ref (u4.1 5), .ref (u4.1 6), .ref (u4.1 7), .ref (u4.1 8), .ref (u4.1 9), .ref (u4.1 10), .ref (u4.1 11), .int 0])), ((u4.1 4), .inr (3, [.ref (u4.1 12), .ref (u4.1 13), .ref (u4.1 14), .ref (u4.1 15), .ref (u4.1 16), .ref (u4.1 17), .int 0]))] := hD
  refine lv_aload_n hx hb d_As_init_81 rfl (lv_at hl 0 rfl) ?_
  refine lv_iconst (v := (-1)) hx hb d_As_init_82 (by decide) ?_
  refine va_put (D := D) (ci := 1) (v := .int (-1)) (ty := .int) (C := R_As) (T := F_As) (N := 15) hx hb hts i_As t_As t_As_ok n_As hown hK hP hD hS 0 rfl rfl 13 (by decide) (hts _ w_130) (fun _ h9 => h9) rfl (by decide +kernel) rfl rfl (Nat.le_of_ble_eq_true rfl) d_As_init_83 (fun H locs hP hD hS => ?_)
  have hP : va_P D cls [(h0, .inr (1, [.ref q1, .ref q3, .int 0, .int 0, .int 0, .int 0, .int 0, .int (-1), .long 0, .int 0, .int 0, .int 0, .int 0, .int (-1), .int 0])), (q1, .inr (4, [.ref (u2.1 0), .int 0, .int 0, .int 0, .ref (u2.1 1), .ref (u2.1 2), .ref (u2.1 3)])), ((u2.1 0), .inl ((u2.2 0), 8192, .inl (fun _ => 0))), (q3, .inr (6, [.ref (u4.1 0), .ref (u4.1 1), .ref (u4.1 2), .ref (u4.1 3), .ref (u4.1 4)])), ((u4.1 1), .inl ((u4.2 0), 3, .inl (fun _ => 0))), ((u4.1 3), .inr (5, [.ref (u4.1 5), .ref (u4.1 6), .ref (u4.1 7), .ref (u4.1 8), .ref (u4.1 9), .ref (u4.1 10), .ref (u4.1 11), .int 0])), ((u4.1 4), .inr (3, [.ref (u4.1 12), .ref (u4.1 13), .ref (u4.1 14), .ref (u4.1 15), .ref (u4.1 16), .ref (u4.1 17), .int 0]))] H := hP
  have hD : va_D A [(h0, .inr (1, [.ref q1, .ref q3, .int 0, .int 0, .int 0, .int 0, .int 0, .int (-1), .long 0, .int 0, .int 0, .int 0, .int 0, .int (-1), .int 0])), (q1, .inr (4, [.ref (u2.1 0), .int 0, .int 0, .int 0, .ref (u2.1 1), .ref (u2.1 2), .ref (u2.1 3)])), ((u2.1 0), .inl ((u2.2 0), 8192, .inl (fun _ => 0))), (q3, .inr (6, [.ref (u4.1 0), .ref (u4.1 1), .ref (u4.1 2), .ref (u4.1 3), .ref (u4.1 4)])), ((u4.1 1), .inl ((u4.2 0), 3, .inl (fun _ => 0))), ((u4.1 3), .inr (5, [.ref (u4.1 5), .ref (u4.1 6), .ref (u4.1 7), .ref (u4.1 8), .ref (u4.1 9), .ref (u4.1 10), .ref (u4.1 11), .int 0])), ((u4.1 4), .inr (3, [.ref (u4.1 12), .ref (u4.1 13), .ref (u4.1 14), .ref (u4.1 15), .ref (u4.1 16), .ref (u4.1 17), .int 0]))] := hD
  refine lv_aload_n hx hb d_As_init_86 rfl (lv_at hl 0 rfl) ?_
  refine lv_iconst (v := (-1)) hx hb d_As_init_87 (by decide) ?_
  refine va_put (D := D) (ci := 1) (v := .int (-1)) (ty := .int) (C := R_As) (T := F_As) (N := 15) hx hb hts i_As t_As t_As_ok n_As hown hK hP hD hS 0 rfl rfl 14 (by decide) (hts _ w_131) (fun _ h9 => h9) rfl (by decide +kernel) rfl rfl (Nat.le_of_ble_eq_true rfl) d_As_init_88 (fun H locs hP hD hS => ?_)
  have hP : va_P D cls [(h0, .inr (1, [.ref q1, .ref q3, .int 0, .int 0, .int 0, .int 0, .int 0, .int (-1), .long 0, .int 0, .int 0, .int 0, .int 0, .int (-1), .int (-1)])), (q1, .inr (4, [.ref (u2.1 0), .int 0, .int 0, .int 0, .ref (u2.1 1), .ref (u2.1 2), .ref (u2.1 3)])), ((u2.1 0), .inl ((u2.2 0), 8192, .inl (fun _ => 0))), (q3, .inr (6, [.ref (u4.1 0), .ref (u4.1 1), .ref (u4.1 2), .ref (u4.1 3), .ref (u4.1 4)])), ((u4.1 1), .inl ((u4.2 0), 3, .inl (fun _ => 0))), ((u4.1 3), .inr (5, [.ref (u4.1 5), .ref (u4.1 6), .ref (u4.1 7), .ref (u4.1 8), .ref (u4.1 9), .ref (u4.1 10), .ref (u4.1 11), .int 0])), ((u4.1 4), .inr (3, [.ref (u4.1 12), .ref (u4.1 13), .ref (u4.1 14), .ref (u4.1 15), .ref (u4.1 16), .ref (u4.1 17), .int 0]))] H := hP
  have hD : va_D A [(h0, .inr (1, [.ref q1, .ref q3, .int 0, .int 0, .int 0, .int 0, .int 0, .int (-1), .long 0, .int 0, .int 0, .int 0, .int 0, .int (-1), .int (-1)])), (q1, .inr (4, [.ref (u2.1 0), .int 0, .int 0, .int 0, .ref (u2.1 1), .ref (u2.1 2), .ref (u2.1 3)])), ((u2.1 0), .inl ((u2.2 0), 8192, .inl (fun _ => 0))), (q3, .inr (6, [.ref (u4.1 0), .ref (u4.1 1), .ref (u4.1 2), .ref (u4.1 3), .ref (u4.1 4)])), ((u4.1 1), .inl ((u4.2 0), 3, .inl (fun _ => 0))), ((u4.1 3), .inr (5, [.ref (u4.1 5), .ref (u4.1 6), .ref (u4.1 7), .ref (u4.1 8), .ref (u4.1 9), .ref (u4.1 10), .ref (u4.1 11), .int 0])), ((u4.1 4), .inr (3, [.ref (u4.1 12), .ref (u4.1 13), .ref (u4.1 14), .ref (u4.1 15), .ref (u4.1 16), .ref (u4.1 17), .int 0]))] := hD
  exact xr_v hx hb hr hlocks hP hD hK hS (((fun k => [q1, q3, (u2.1 0), (u2.1 1), (u2.1 2), (u2.1 3), (u4.1 0), (u4.1 1), (u4.1 2), (u4.1 3), (u4.1 4), (u4.1 5), (u4.1 6), (u4.1 7), (u4.1 8), (u4.1 9), (u4.1 10), (u4.1 11), (u4.1 12), (u4.1 13), (u4.1 14), (u4.1 15), (u4.1 16), (u4.1 17)].getD k 0), (fun k => [(u2.2 0), (u4.2 0)].getD k 0))) [0, 1, 2, 3, 4, 5, 6] rfl rfl (by decide) [0, 1] rfl rfl d_As_init_91
