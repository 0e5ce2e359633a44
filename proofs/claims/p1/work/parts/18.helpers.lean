theorem x_not {C T : String} {args : Array Value} {s : State} (h : va_Nc C T s) : (Cond.not (.castable C T)).before args s = true := by
  obtain ⟨c, t, h1, h2, h3⟩ := h
  simp [Cond.before, Cond.holds, Cond.value, h1, h2, h3]
theorem d_La_feed_0 : decode b_La_feed 0 = .ok (.aload 5, 2) := by decide +kernel
theorem d_La_feed_2 : decode b_La_feed 2 = .ok (.iconst 0, 1) := by decide +kernel
theorem d_La_feed_3 : decode b_La_feed 3 = .ok (.aload_n 0, 1) := by decide +kernel
theorem d_La_feed_4 : decode b_La_feed 4 = .ok (.iload_n 1, 1) := by decide +kernel
theorem d_La_feed_5 : decode b_La_feed 5 = .ok (.iload_n 2, 1) := by decide +kernel
theorem d_La_feed_6 : decode b_La_feed 6 = .ok (.iload_n 3, 1) := by decide +kernel
theorem d_La_feed_7 : decode b_La_feed 7 = .ok (.iload 4, 2) := by decide +kernel
theorem d_La_feed_9 : decode b_La_feed 9 = .ok (.invokevirtual 7, 3) := by decide +kernel
theorem d_La_feed_12 : decode b_La_feed 12 = .ok (.i2l, 1) := by decide +kernel
theorem d_La_feed_13 : decode b_La_feed 13 = .ok (.lastore, 1) := by decide +kernel
theorem d_La_feed_14 : decode b_La_feed 14 = .ok (.goto 7, 3) := by decide +kernel
theorem d_La_feed_21 : decode b_La_feed 21 = .ok (.iconst 0, 1) := by decide +kernel
theorem d_La_feed_22 : decode b_La_feed 22 = .ok (.ireturn, 1) := by decide +kernel
set_option maxHeartbeats 4000000 in
set_option maxRecDepth 100000 in
theorem c_La_feed (l : Launch) (htr : l.stackTraces = false) (D : va_G) (h0 ho : Nat) (cj : ClassId) (qa : Nat → Nat) (qk : Nat → ClassId) (p0 p1 p2 p3 : Int32) (sz : Nat) : Met l y_La_feed (Cond.codeWith y_La_feed b_La_feed 7 (some .int) [(0, 14, 17, 13)] :: bw) (xR 6 0 0) (va_Pc [.ref h0, .int p0, .int p1, .int p2, .int p3, .ref ho] (xP D [((qk 0), .byte), (cj, .long)] sz [(h0, .inr (0, [.ref (qa 0), .ref (qa 1), .ref (qa 2), .int 0])), ((qa 0), .inr (1, [.ref (qa 3), .ref (qa 4), .int 0, .int 0, .int 0, .int 0, .int 0, .int (-1), .long 0, .int 0, .int 0, .int 0, .int 0, .int (-1), .int (-1)])), ((qa 3), .inr (4, [.ref (qa 5), .int 0, .int 0, .int 0, .ref (qa 6), .ref (qa 7), .ref (qa 8)])), ((qa 5), .inl ((qk 0), 8192, .inl (fun _ => 0))), (ho, .inl (cj, 1, .inr (.inl (fun _ => 0))))])) (xQ (S := Unit) (fun _ => some (.int 0)) (fun _ => [(ho, .inl (cj, 1, .inr (.inl (vp_updL (fun _ => 0) (0 : Int32).toNatClampNeg 16))))]) (fun _ => [(cj, .long)]) D (va_A [(h0, .inr (0, [.ref (qa 0), .ref (qa 1), .ref (qa 2), .int 0])), ((qa 0), .inr (1, [.ref (qa 3), .ref (qa 4), .int 0, .int 0, .int 0, .int 0, .int 0, .int (-1), .long 0, .int 0, .int 0, .int 0, .int 0, .int (-1), .int (-1)])), ((qa 3), .inr (4, [.ref (qa 5), .int 0, .int 0, .int 0, .ref (qa 6), .ref (qa 7), .ref (qa 8)])), ((qa 5), .inl ((qk 0), 8192, .inl (fun _ => 0))), (ho, .inl (cj, 1, .inr (.inl (fun _ => 0))))] sz)) 0 0 (va_A [(h0, .inr (0, [.ref (qa 0), .ref (qa 1), .ref (qa 2), .int 0])), ((qa 0), .inr (1, [.ref (qa 3), .ref (qa 4), .int 0, .int 0, .int 0, .int 0, .int 0, .int (-1), .long 0, .int 0, .int 0, .int 0, .int 0, .int (-1), .int (-1)])), ((qa 3), .inr (4, [.ref (qa 5), .int 0, .int 0, .int 0, .ref (qa 6), .ref (qa 7), .ref (qa 8)])), ((qa 5), .inl ((qk 0), 8192, .inl (fun _ => 0))), (ho, .inl (cj, 1, .inr (.inl (fun _ => 0))))] sz) := by
  refine MetE.ofW (hh := [(0, 14, 17, 13)]) (cc := b_La_feed) (maxL := 7) (ret := (some .int)) (by decide) rfl ?_
  intro p e s m args below meth c s₁ B hml hE hv
  obtain ⟨rfl, hsz, hP, hK, hD0, hN, hZ⟩ := hv
  have hx := B.exec
  have hb := B.bytes
  have hr := B.returns
  have hlocks := B.notSynchronized
  have hts : ∀ w ∈ bw, w.before _ s = true := fun w h => atoms_spec (ws := Cond.codeWith y_La_feed b_La_feed 7 (some .int) [(0, 14, 17, 13)] :: bw) B.pre w (List.mem_cons_of_mem _ h)
  have hown : s.vm.findClass "ObjectForgeLaw" = some m.cls := findClass_of_methodNamed B.named
  subst hsz
  have hP0 := hP
  have hD := hD0.self (sz := s.heap.size)
  generalize hAe : va_A [(h0, .inr (0, [.ref (qa 0), .ref (qa 1), .ref (qa 2), .int 0])), ((qa 0), .inr (1, [.ref (qa 3), .ref (qa 4), .int 0, .int 0, .int 0, .int 0, .int 0, .int (-1), .long 0, .int 0, .int 0, .int 0, .int 0, .int (-1), .int (-1)])), ((qa 3), .inr (4, [.ref (qa 5), .int 0, .int 0, .int 0, .ref (qa 6), .ref (qa 7), .ref (qa 8)])), ((qa 5), .inl ((qk 0), 8192, .inl (fun _ => 0))), (ho, .inl (cj, 1, .inr (.inl (fun _ => 0))))] s.heap.size = A at hD hZ ⊢
  have hA : ∀ q : Nat, s.heap.size ≤ q → A q := fun q h => by rw [← hAe]; exact Or.inr h
  have hS : va_S A s.heap s.heap [] := va_S.rf
  have hl := lv_entry ([.ref h0, .int p0, .int p1, .int p2, .int p3, .ref ho]) (n := 7) (Nat.le_of_ble_eq_true rfl)
  rw [lg_entry_eq]
  generalize (lg_sl ([.ref h0, .int p0, .int p1, .int p2, .int p3, .ref ho]) ++ List.replicate (7 - (lg_sl ([.ref h0, .int p0, .int p1, .int p2, .int p3, .ref ho])).length) Slot.unset).toArray = ls at hl ⊢
  have hl : lv_has ls 7 [(0, .ref h0), (1, .int p0), (2, .int p1), (3, .int p2), (4, .int p3), (5, .ref ho)] := hl
  refine lv_aload hx hb d_La_feed_0 (lv_at hl 5 rfl) ?_
  refine lv_iconst (v := 0) hx hb d_La_feed_2 (by decide) ?_
  refine lv_aload_n hx hb d_La_feed_3 rfl (lv_at hl 0 rfl) ?_
  refine lv_iload_n hx hb d_La_feed_4 rfl (lv_at hl 1 rfl) ?_
  refine lv_iload_n hx hb d_La_feed_5 rfl (lv_at hl 2 rfl) ?_
  refine lv_iload_n hx hb d_La_feed_6 rfl (lv_at hl 3 rfl) ?_
  refine lv_iload hx hb d_La_feed_7 (lv_at hl 4 rfl) ?_
  refine xc_V (As := [.int p0, .int p1, .int p2, .int p3]) (rest := [.int 0, .ref ho]) (n := 4) (wc := [(h0, .inr (0, [.ref (qa 0), .ref (qa 1), .ref (qa 2), .int 0])), ((qa 0), .inr (1, [.ref (qa 3), .ref (qa 4), .int 0, .int 0, .int 0, .int 0, .int 0, .int (-1), .long 0, .int 0, .int 0, .int 0, .int 0, .int (-1), .int (-1)])), ((qa 3), .inr (4, [.ref (qa 5), .int 0, .int 0, .int 0, .ref (qa 6), .ref (qa 7), .ref (qa 8)])), ((qa 5), .inl ((qk 0), 8192, .inl (fun _ => 0)))]) (wr := [(ho, .inl (cj, 1, .inr (.inl (fun _ => 0))))]) (tc := [((qk 0), .byte)]) (tr := [(cj, .long)]) ⟨hx, hb, hml, hown, hts⟩ (c_OF_feed l D h0 qa qk p0 p1 p2 p3 s.heap.size) rfl rfl w_169 w_166 w_167 w_168 w_1 (by decide +kernel) ⟨Nat.le_of_ble_eq_true rfl, Nat.le_of_ble_eq_true rfl⟩ hP hD hK hS hA hN hZ [0, 1, 2, 3] [4] rfl rfl (by decide) (by decide) (by decide) [0] [1] rfl rfl (ci := 0) (q0 := 0) (q := (R_OF, F_OF, 4)) rfl rfl rfl rfl hl.1 rfl (Nat.le_of_ble_eq_true rfl) d_La_feed_9 ⟨Nat.le_of_ble_eq_true rfl, Nat.le_of_ble_eq_true rfl⟩ (fun u1 H locs hP hD hK hS => ?_)
  have hP : va_P D cls [(ho, .inl (cj, 1, .inr (.inl (fun _ => 0)))), (h0, .inr (0, [.ref (qa 0), .ref (qa 1), .ref (qa 2), .int 0]))] H := hP
  have hD : va_D A [(ho, .inl (cj, 1, .inr (.inl (fun _ => 0)))), (h0, .inr (0, [.ref (qa 0), .ref (qa 1), .ref (qa 2), .int 0]))] := hD
  have hK : va_K D cls [(cj, .long)] s := hK
  refine W.eq (g2 := F0 m 12 ls [.int 16, .int 0, .ref ho]) rfl ?_
  refine lv_i2l (v := 16) hx hb d_La_feed_12 (by first | rfl | decide) ?_
  refine va_last hx hb hK hP hD hS 0 0 rfl rfl (by unfold vp_in; decide) d_La_feed_13 (fun H locs hP hD hS => ?_)
  have hP : va_P D cls [(ho, .inl (cj, 1, .inr (.inl (vp_updL (fun _ => 0) (0 : Int32).toNatClampNeg 16)))), (h0, .inr (0, [.ref (qa 0), .ref (qa 1), .ref (qa 2), .int 0]))] H := hP
  have hD : va_D A [(ho, .inl (cj, 1, .inr (.inl (vp_updL (fun _ => 0) (0 : Int32).toNatClampNeg 16)))), (h0, .inr (0, [.ref (qa 0), .ref (qa 1), .ref (qa 2), .int 0]))] := hD
  refine lv_goto (tgt := 21) hx hb d_La_feed_14 (by decide) ?_
  refine lv_iconst (v := 0) hx hb d_La_feed_21 (by decide) ?_
  exact xr_i hx hb hr hlocks hP hD hK hS (()) [0] rfl rfl (by decide) [0] rfl rfl d_La_feed_22

theorem d_La_end_0 : decode b_La_end 0 = .ok (.aload_n 2, 1) := by decide +kernel
theorem d_La_end_1 : decode b_La_end 1 = .ok (.iconst 0, 1) := by decide +kernel
theorem d_La_end_2 : decode b_La_end 2 = .ok (.aload_n 0, 1) := by decide +kernel
theorem d_La_end_3 : decode b_La_end 3 = .ok (.iload_n 1, 1) := by decide +kernel
theorem d_La_end_4 : decode b_La_end 4 = .ok (.invokevirtual 15, 3) := by decide +kernel
theorem d_La_end_7 : decode b_La_end 7 = .ok (.i2l, 1) := by decide +kernel
theorem d_La_end_8 : decode b_La_end 8 = .ok (.lastore, 1) := by decide +kernel
theorem d_La_end_9 : decode b_La_end 9 = .ok (.goto 6, 3) := by decide +kernel
theorem d_La_end_15 : decode b_La_end 15 = .ok (.iconst 0, 1) := by decide +kernel
theorem d_La_end_16 : decode b_La_end 16 = .ok (.ireturn, 1) := by decide +kernel
set_option maxHeartbeats 4000000 in
set_option maxRecDepth 100000 in
theorem c_La_end_0 (l : Launch) (htr : l.stackTraces = false) (D : va_G) (h0 ho : Nat) (cj : ClassId) (qa : Nat → Nat) (qk : Nat → ClassId) (sz : Nat) : Met l y_La_end (Cond.codeWith y_La_end b_La_end 4 (some .int) [(0, 9, 12, 19)] :: bw) (xR 6 0 0) (va_Pc [.ref h0, .int 0, .ref ho] (xP D [(cj, .long)] sz [(h0, .inr (0, [.ref (qa 0), .ref (qa 1), .ref (qa 2), .int 0])), ((qa 0), .inr (1, [.ref (qa 3), .ref (qa 4), .int 0, .int 0, .int 0, .int 0, .int 0, .int (-1), .long 0, .int 0, .int 0, .int 0, .int 0, .int (-1), .int (-1)])), ((qa 3), .inr (4, [.ref (qa 5), .int 0, .int 0, .int 0, .ref (qa 6), .ref (qa 7), .ref (qa 8)])), (ho, .inl (cj, 1, .inr (.inl (fun _ => 0))))])) (xQ (S := Unit) (fun _ => some (.int 0)) (fun _ => [(ho, .inl (cj, 1, .inr (.inl (vp_updL (fun _ => 0) (0 : Int32).toNatClampNeg 0))))]) (fun _ => [(cj, .long)]) D (va_A [(h0, .inr (0, [.ref (qa 0), .ref (qa 1), .ref (qa 2), .int 0])), ((qa 0), .inr (1, [.ref (qa 3), .ref (qa 4), .int 0, .int 0, .int 0, .int 0, .int 0, .int (-1), .long 0, .int 0, .int 0, .int 0, .int 0, .int (-1), .int (-1)])), ((qa 3), .inr (4, [.ref (qa 5), .int 0, .int 0, .int 0, .ref (qa 6), .ref (qa 7), .ref (qa 8)])), (ho, .inl (cj, 1, .inr (.inl (fun _ => 0))))] sz)) 0 0 (va_A [(h0, .inr (0, [.ref (qa 0), .ref (qa 1), .ref (qa 2), .int 0])), ((qa 0), .inr (1, [.ref (qa 3), .ref (qa 4), .int 0, .int 0, .int 0, .int 0, .int 0, .int (-1), .long 0, .int 0, .int 0, .int 0, .int 0, .int (-1), .int (-1)])), ((qa 3), .inr (4, [.ref (qa 5), .int 0, .int 0, .int 0, .ref (qa 6), .ref (qa 7), .ref (qa 8)])), (ho, .inl (cj, 1, .inr (.inl (fun _ => 0))))] sz) := by
  refine MetE.ofW (hh := [(0, 9, 12, 19)]) (cc := b_La_end) (maxL := 4) (ret := (some .int)) (by decide) rfl ?_
  intro p e s m args below meth c s₁ B hml hE hv
  obtain ⟨rfl, hsz, hP, hK, hD0, hN, hZ⟩ := hv
  have hx := B.exec
  have hb := B.bytes
  have hr := B.returns
  have hlocks := B.notSynchronized
  have hts : ∀ w ∈ bw, w.before _ s = true := fun w h => atoms_spec (ws := Cond.codeWith y_La_end b_La_end 4 (some .int) [(0, 9, 12, 19)] :: bw) B.pre w (List.mem_cons_of_mem _ h)
  have hown : s.vm.findClass "ObjectForgeLaw" = some m.cls := findClass_of_methodNamed B.named
  subst hsz
  have hP0 := hP
  have hD := hD0.self (sz := s.heap.size)
  generalize hAe : va_A [(h0, .inr (0, [.ref (qa 0), .ref (qa 1), .ref (qa 2), .int 0])), ((qa 0), .inr (1, [.ref (qa 3), .ref (qa 4), .int 0, .int 0, .int 0, .int 0, .int 0, .int (-1), .long 0, .int 0, .int 0, .int 0, .int 0, .int (-1), .int (-1)])), ((qa 3), .inr (4, [.ref (qa 5), .int 0, .int 0, .int 0, .ref (qa 6), .ref (qa 7), .ref (qa 8)])), (ho, .inl (cj, 1, .inr (.inl (fun _ => 0))))] s.heap.size = A at hD hZ ⊢
  have hA : ∀ q : Nat, s.heap.size ≤ q → A q := fun q h => by rw [← hAe]; exact Or.inr h
  have hS : va_S A s.heap s.heap [] := va_S.rf
  have hl := lv_entry ([.ref h0, .int 0, .ref ho]) (n := 4) (Nat.le_of_ble_eq_true rfl)
  rw [lg_entry_eq]
  generalize (lg_sl ([.ref h0, .int 0, .ref ho]) ++ List.replicate (4 - (lg_sl ([.ref h0, .int 0, .ref ho])).length) Slot.unset).toArray = ls at hl ⊢
  have hl : lv_has ls 4 [(0, .ref h0), (1, .int 0), (2, .ref ho)] := hl
  refine lv_aload_n hx hb d_La_end_0 rfl (lv_at hl 2 rfl) ?_
  refine lv_iconst (v := 0) hx hb d_La_end_1 (by decide) ?_
  refine lv_aload_n hx hb d_La_end_2 rfl (lv_at hl 0 rfl) ?_
  refine lv_iload_n hx hb d_La_end_3 rfl (lv_at hl 1 rfl) ?_
  refine xc_V (As := [.int 0]) (rest := [.int 0, .ref ho]) (n := 1) (wc := [(h0, .inr (0, [.ref (qa 0), .ref (qa 1), .ref (qa 2), .int 0])), ((qa 0), .inr (1, [.ref (qa 3), .ref (qa 4), .int 0, .int 0, .int 0, .int 0, .int 0, .int (-1), .long 0, .int 0, .int 0, .int 0, .int 0, .int (-1), .int (-1)])), ((qa 3), .inr (4, [.ref (qa 5), .int 0, .int 0, .int 0, .ref (qa 6), .ref (qa 7), .ref (qa 8)]))]) (wr := [(ho, .inl (cj, 1, .inr (.inl (fun _ => 0))))]) (tc := []) (tr := [(cj, .long)]) ⟨hx, hb, hml, hown, hts⟩ (c_OF_end_0 l D h0 qa s.heap.size) rfl rfl w_229 w_226 w_227 w_228 w_1 (by decide +kernel) ⟨Nat.le_of_ble_eq_true rfl, Nat.le_of_ble_eq_true rfl⟩ hP hD hK hS hA hN hZ [0, 1, 2] [3] rfl rfl (by decide) (by decide) (by decide) [] [0] rfl rfl (ci := 0) (q0 := 0) (q := (R_OF, F_OF, 4)) rfl rfl rfl rfl hl.1 rfl (Nat.le_of_ble_eq_true rfl) d_La_end_4 ⟨Nat.le_of_ble_eq_true rfl, Nat.le_of_ble_eq_true rfl⟩ (fun u1 H locs hP hD hK hS => ?_)
  have hP : va_P D cls [(ho, .inl (cj, 1, .inr (.inl (fun _ => 0)))), (h0, .inr (0, [.ref (qa 0), .ref (qa 1), .ref (qa 2), .int 0])), ((qa 0), .inr (1, [.ref (qa 3), .ref (qa 4), .int 0, .int 0, .int 0, .int 0, .int 0, .int (-1), .long 0, .int 0, .int 0, .int 0, .int 0, .int (-1), .int (-1)])), ((qa 3), .inr (4, [.ref (qa 5), .int 0, .int 0, .int 0, .ref (qa 6), .ref (qa 7), .ref (qa 8)]))] H := hP
  have hD : va_D A [(ho, .inl (cj, 1, .inr (.inl (fun _ => 0)))), (h0, .inr (0, [.ref (qa 0), .ref (qa 1), .ref (qa 2), .int 0])), ((qa 0), .inr (1, [.ref (qa 3), .ref (qa 4), .int 0, .int 0, .int 0, .int 0, .int 0, .int (-1), .long 0, .int 0, .int 0, .int 0, .int 0, .int (-1), .int (-1)])), ((qa 3), .inr (4, [.ref (qa 5), .int 0, .int 0, .int 0, .ref (qa 6), .ref (qa 7), .ref (qa 8)]))] := hD
  have hK : va_K D cls [(cj, .long)] s := hK
  refine W.eq (g2 := F0 m 7 ls [.int 0, .int 0, .ref ho]) rfl ?_
  refine lv_i2l (v := 0) hx hb d_La_end_7 (by first | rfl | decide) ?_
  refine va_last hx hb hK hP hD hS 0 0 rfl rfl (by unfold vp_in; decide) d_La_end_8 (fun H locs hP hD hS => ?_)
  have hP : va_P D cls [(ho, .inl (cj, 1, .inr (.inl (vp_updL (fun _ => 0) (0 : Int32).toNatClampNeg 0)))), (h0, .inr (0, [.ref (qa 0), .ref (qa 1), .ref (qa 2), .int 0])), ((qa 0), .inr (1, [.ref (qa 3), .ref (qa 4), .int 0, .int 0, .int 0, .int 0, .int 0, .int (-1), .long 0, .int 0, .int 0, .int 0, .int 0, .int (-1), .int (-1)])), ((qa 3), .inr (4, [.ref (qa 5), .int 0, .int 0, .int 0, .ref (qa 6), .ref (qa 7), .ref (qa 8)]))] H := hP
  have hD : va_D A [(ho, .inl (cj, 1, .inr (.inl (vp_updL (fun _ => 0) (0 : Int32).toNatClampNeg 0)))), (h0, .inr (0, [.ref (qa 0), .ref (qa 1), .ref (qa 2), .int 0])), ((qa 0), .inr (1, [.ref (qa 3), .ref (qa 4), .int 0, .int 0, .int 0, .int 0, .int 0, .int (-1), .long 0, .int 0, .int 0, .int 0, .int 0, .int (-1), .int (-1)])), ((qa 3), .inr (4, [.ref (qa 5), .int 0, .int 0, .int 0, .ref (qa 6), .ref (qa 7), .ref (qa 8)]))] := hD
  refine lv_goto (tgt := 15) hx hb d_La_end_9 (by decide) ?_
  refine lv_iconst (v := 0) hx hb d_La_end_15 (by decide) ?_
  exact xr_i hx hb hr hlocks hP hD hK hS (()) [0] rfl rfl (by decide) [0] rfl rfl d_La_end_16

theorem d_La_end_12 : decode b_La_end 12 = .ok (.astore_n 3, 1) := by decide +kernel
theorem d_La_end_13 : decode b_La_end 13 = .ok (.iconst 1, 1) := by decide +kernel
theorem d_La_end_14 : decode b_La_end 14 = .ok (.ireturn, 1) := by decide +kernel
set_option maxHeartbeats 4000000 in
set_option maxRecDepth 100000 in
theorem c_La_end_n (l : Launch) (htr : l.stackTraces = false) (D : va_G) (h0 ho : Nat) (cj : ClassId) (qa : Nat → Nat) (qk : Nat → ClassId) (p0 : Int32) (h1 : p0 < 0) (sz : Nat) : Met l y_La_end (Cond.codeWith y_La_end b_La_end 4 (some .int) [(0, 9, 12, 19)] :: bw) (xR 6 1 6) (va_Pc [.ref h0, .int p0, .ref ho] (xP D [(cj, .long)] sz [(h0, .inr (0, [.ref (qa 0), .ref (qa 1), .ref (qa 2), .int 0])), ((qa 0), .inr (1, [.ref (qa 3), .ref (qa 4), .int 0, .int 0, .int 0, .int 0, .int 0, .int (-1), .long 0, .int 0, .int 0, .int 0, .int 0, .int (-1), .int (-1)])), ((qa 3), .inr (4, [.ref (qa 5), .int 0, .int 0, .int 0, .ref (qa 6), .ref (qa 7), .ref (qa 8)])), (ho, .inl (cj, 1, .inr (.inl (fun _ => 0))))])) (xQ (S := Unit) (fun _ => some (.int 1)) (fun _ => [(ho, .inl (cj, 1, .inr (.inl (fun _ => 0))))]) (fun _ => [(cj, .long)]) D (va_A [(h0, .inr (0, [.ref (qa 0), .ref (qa 1), .ref (qa 2), .int 0])), ((qa 0), .inr (1, [.ref (qa 3), .ref (qa 4), .int 0, .int 0, .int 0, .int 0, .int 0, .int (-1), .long 0, .int 0, .int 0, .int 0, .int 0, .int (-1), .int (-1)])), ((qa 3), .inr (4, [.ref (qa 5), .int 0, .int 0, .int 0, .ref (qa 6), .ref (qa 7), .ref (qa 8)])), (ho, .inl (cj, 1, .inr (.inl (fun _ => 0))))] sz)) 1 6 (va_A [(h0, .inr (0, [.ref (qa 0), .ref (qa 1), .ref (qa 2), .int 0])), ((qa 0), .inr (1, [.ref (qa 3), .ref (qa 4), .int 0, .int 0, .int 0, .int 0, .int 0, .int (-1), .long 0, .int 0, .int 0, .int 0, .int 0, .int (-1), .int (-1)])), ((qa 3), .inr (4, [.ref (qa 5), .int 0, .int 0, .int 0, .ref (qa 6), .ref (qa 7), .ref (qa 8)])), (ho, .inl (cj, 1, .inr (.inl (fun _ => 0))))] sz) := by
  refine MetE.ofW (hh := [(0, 9, 12, 19)]) (cc := b_La_end) (maxL := 4) (ret := (some .int)) (by decide) rfl ?_
  intro p e s m args below meth c s₁ B hml hE hv
  obtain ⟨rfl, hsz, hP, hK, hD0, hN, hZ⟩ := hv
  have hx := B.exec
  have hb := B.bytes
  have hr := B.returns
  have hlocks := B.notSynchronized
  have hts : ∀ w ∈ bw, w.before _ s = true := fun w h => atoms_spec (ws := Cond.codeWith y_La_end b_La_end 4 (some .int) [(0, 9, 12, 19)] :: bw) B.pre w (List.mem_cons_of_mem _ h)
  have hown : s.vm.findClass "ObjectForgeLaw" = some m.cls := findClass_of_methodNamed B.named
  subst hsz
  have hP0 := hP
  have hD := hD0.self (sz := s.heap.size)
  generalize hAe : va_A [(h0, .inr (0, [.ref (qa 0), .ref (qa 1), .ref (qa 2), .int 0])), ((qa 0), .inr (1, [.ref (qa 3), .ref (qa 4), .int 0, .int 0, .int 0, .int 0, .int 0, .int (-1), .long 0, .int 0, .int 0, .int 0, .int 0, .int (-1), .int (-1)])), ((qa 3), .inr (4, [.ref (qa 5), .int 0, .int 0, .int 0, .ref (qa 6), .ref (qa 7), .ref (qa 8)])), (ho, .inl (cj, 1, .inr (.inl (fun _ => 0))))] s.heap.size = A at hD hZ ⊢
  have hA : ∀ q : Nat, s.heap.size ≤ q → A q := fun q h => by rw [← hAe]; exact Or.inr h
  have hS : va_S A s.heap s.heap [] := va_S.rf
  have hl := lv_entry ([.ref h0, .int p0, .ref ho]) (n := 4) (Nat.le_of_ble_eq_true rfl)
  rw [lg_entry_eq]
  generalize (lg_sl ([.ref h0, .int p0, .ref ho]) ++ List.replicate (4 - (lg_sl ([.ref h0, .int p0, .ref ho])).length) Slot.unset).toArray = ls at hl ⊢
  have hl : lv_has ls 4 [(0, .ref h0), (1, .int p0), (2, .ref ho)] := hl
  refine lv_aload_n hx hb d_La_end_0 rfl (lv_at hl 2 rfl) ?_
  refine lv_iconst (v := 0) hx hb d_La_end_1 (by decide) ?_
  refine lv_aload_n hx hb d_La_end_2 rfl (lv_at hl 0 rfl) ?_
  refine lv_iload_n hx hb d_La_end_3 rfl (lv_at hl 1 rfl) ?_
  refine xt_V (As := [.int p0]) (rest := [.int 0, .ref ho]) (n := 1) (wc := [(h0, .inr (0, [.ref (qa 0), .ref (qa 1), .ref (qa 2), .int 0])), ((qa 0), .inr (1, [.ref (qa 3), .ref (qa 4), .int 0, .int 0, .int 0, .int 0, .int 0, .int (-1), .long 0, .int 0, .int 0, .int 0, .int 0, .int (-1), .int (-1)])), ((qa 3), .inr (4, [.ref (qa 5), .int 0, .int 0, .int 0, .ref (qa 6), .ref (qa 7), .ref (qa 8)]))]) (wr := [(ho, .inl (cj, 1, .inr (.inl (fun _ => 0))))]) (tc := [])  ⟨hx, hb, hml, hown, hts⟩ (c_OF_end_n l htr D h0 qa p0 h1 s.heap.size) rfl rfl w_229 w_226 w_227 w_228 w_1 (by decide +kernel) ⟨Nat.le_of_ble_eq_true rfl, Nat.le_of_ble_eq_true rfl⟩ hP hD hK hS hA hN hZ [0, 1, 2] [3] rfl rfl (by decide) (by decide) (by decide) [] rfl (ci := 0) (q0 := 0) (q := (R_OF, F_OF, 4)) rfl rfl rfl rfl hl.1 rfl (Nat.le_of_ble_eq_true rfl) d_La_end_4 ⟨Nat.le_of_ble_eq_true rfl, Nat.le_of_ble_eq_true rfl⟩ (fun x H locs hxn hcell hP hD hS => ?_)
  refine WT.catch1 (pc' := 12) (nm := "java/lang/IllegalArgumentException") hown (show c.exceptionTable.toList = [⟨0, 9, 12, 19⟩] from hE) rfl (by decide) rfl (hts _ w_225) hcell (va_tabs rfl rfl (hN.1 (.castable "java/lang/IllegalArgumentException" "java/lang/IllegalArgumentException") (by simp [xnF]))) ?_
  refine lv_astore_n (lv' := [(3, .ref x), (0, .ref h0), (1, .int p0), (2, .ref ho)]) hx hb d_La_end_12 rfl hl (by decide) rfl (fun ls hl => ?_)
  refine lv_iconst (v := 1) hx hb d_La_end_13 (by decide) ?_
  exact xr_i hx hb hr hlocks hP hD hK hS (()) [0] rfl rfl (by decide) [0] rfl rfl d_La_end_14

set_option maxHeartbeats 4000000 in
set_option maxRecDepth 100000 in
theorem c_La_end_b (l : Launch) (htr : l.stackTraces = false) (D : va_G) (h0 ho : Nat) (cj : ClassId) (qa : Nat → Nat) (qk : Nat → ClassId) (p0 : Int32) (h1 : ¬ p0 < 0) (h2 : 15 < p0) (sz : Nat) : Met l y_La_end (Cond.codeWith y_La_end b_La_end 4 (some .int) [(0, 9, 12, 19)] :: bw) (xR 6 1 6) (va_Pc [.ref h0, .int p0, .ref ho] (xP D [(cj, .long)] sz [(h0, .inr (0, [.ref (qa 0), .ref (qa 1), .ref (qa 2), .int 0])), ((qa 0), .inr (1, [.ref (qa 3), .ref (qa 4), .int 0, .int 0, .int 0, .int 0, .int 0, .int (-1), .long 0, .int 0, .int 0, .int 0, .int 0, .int (-1), .int (-1)])), ((qa 3), .inr (4, [.ref (qa 5), .int 0, .int 0, .int 0, .ref (qa 6), .ref (qa 7), .ref (qa 8)])), (ho, .inl (cj, 1, .inr (.inl (fun _ => 0))))])) (xQ (S := Unit) (fun _ => some (.int 1)) (fun _ => [(ho, .inl (cj, 1, .inr (.inl (fun _ => 0))))]) (fun _ => [(cj, .long)]) D (va_A [(h0, .inr (0, [.ref (qa 0), .ref (qa 1), .ref (qa 2), .int 0])), ((qa 0), .inr (1, [.ref (qa 3), .ref (qa 4), .int 0, .int 0, .int 0, .int 0, .int 0, .int (-1), .long 0, .int 0, .int 0, .int 0, .int 0, .int (-1), .int (-1)])), ((qa 3), .inr (4, [.ref (qa 5), .int 0, .int 0, .int 0, .ref (qa 6), .ref (qa 7), .ref (qa 8)])), (ho, .inl (cj, 1, .inr (.inl (fun _ => 0))))] sz)) 1 6 (va_A [(h0, .inr (0, [.ref (qa 0), .ref (qa 1), .ref (qa 2), .int 0])), ((qa 0), .inr (1, [.ref (qa 3), .ref (qa 4), .int 0, .int 0, .int 0, .int 0, .int 0, .int (-1), .long 0, .int 0, .int 0, .int 0, .int 0, .int (-1), .int (-1)])), ((qa 3), .inr (4, [.ref (qa 5), .int 0, .int 0, .int 0, .ref (qa 6), .ref (qa 7), .ref (qa 8)])), (ho, .inl (cj, 1, .inr (.inl (fun _ => 0))))] sz) := by
  refine MetE.ofW (hh := [(0, 9, 12, 19)]) (cc := b_La_end) (maxL := 4) (ret := (some .int)) (by decide) rfl ?_
  intro p e s m args below meth c s₁ B hml hE hv
  obtain ⟨rfl, hsz, hP, hK, hD0, hN, hZ⟩ := hv
  have hx := B.exec
  have hb := B.bytes
  have hr := B.returns
  have hlocks := B.notSynchronized
  have hts : ∀ w ∈ bw, w.before _ s = true := fun w h => atoms_spec (ws := Cond.codeWith y_La_end b_La_end 4 (some .int) [(0, 9, 12, 19)] :: bw) B.pre w (List.mem_cons_of_mem _ h)
  have hown : s.vm.findClass "ObjectForgeLaw" = some m.cls := findClass_of_methodNamed B.named
  subst hsz
  have hP0 := hP
  have hD := hD0.self (sz := s.heap.size)
  generalize hAe : va_A [(h0, .inr (0, [.ref (qa 0), .ref (qa 1), .ref (qa 2), .int 0])), ((qa 0), .inr (1, [.ref (qa 3), .ref (qa 4), .int 0, .int 0, .int 0, .int 0, .int 0, .int (-1), .long 0, .int 0, .int 0, .int 0, .int 0, .int (-1), .int (-1)])), ((qa 3), .inr (4, [.ref (qa 5), .int 0, .int 0, .int 0, .ref (qa 6), .ref (qa 7), .ref (qa 8)])), (ho, .inl (cj, 1, .inr (.inl (fun _ => 0))))] s.heap.size = A at hD hZ ⊢
  have hA : ∀ q : Nat, s.heap.size ≤ q → A q := fun q h => by rw [← hAe]; exact Or.inr h
  have hS : va_S A s.heap s.heap [] := va_S.rf
  have hl := lv_entry ([.ref h0, .int p0, .ref ho]) (n := 4) (Nat.le_of_ble_eq_true rfl)
  rw [lg_entry_eq]
  generalize (lg_sl ([.ref h0, .int p0, .ref ho]) ++ List.replicate (4 - (lg_sl ([.ref h0, .int p0, .ref ho])).length) Slot.unset).toArray = ls at hl ⊢
  have hl : lv_has ls 4 [(0, .ref h0), (1, .int p0), (2, .ref ho)] := hl
  refine lv_aload_n hx hb d_La_end_0 rfl (lv_at hl 2 rfl) ?_
  refine lv_iconst (v := 0) hx hb d_La_end_1 (by decide) ?_
  refine lv_aload_n hx hb d_La_end_2 rfl (lv_at hl 0 rfl) ?_
  refine lv_iload_n hx hb d_La_end_3 rfl (lv_at hl 1 rfl) ?_
  refine xt_V (As := [.int p0]) (rest := [.int 0, .ref ho]) (n := 1) (wc := [(h0, .inr (0, [.ref (qa 0), .ref (qa 1), .ref (qa 2), .int 0])), ((qa 0), .inr (1, [.ref (qa 3), .ref (qa 4), .int 0, .int 0, .int 0, .int 0, .int 0, .int (-1), .long 0, .int 0, .int 0, .int 0, .int 0, .int (-1), .int (-1)])), ((qa 3), .inr (4, [.ref (qa 5), .int 0, .int 0, .int 0, .ref (qa 6), .ref (qa 7), .ref (qa 8)]))]) (wr := [(ho, .inl (cj, 1, .inr (.inl (fun _ => 0))))]) (tc := [])  ⟨hx, hb, hml, hown, hts⟩ (c_OF_end_b l htr D h0 qa p0 h1 h2 s.heap.size) rfl rfl w_229 w_226 w_227 w_228 w_1 (by decide +kernel) ⟨Nat.le_of_ble_eq_true rfl, Nat.le_of_ble_eq_true rfl⟩ hP hD hK hS hA hN hZ [0, 1, 2] [3] rfl rfl (by decide) (by decide) (by decide) [] rfl (ci := 0) (q0 := 0) (q := (R_OF, F_OF, 4)) rfl rfl rfl rfl hl.1 rfl (Nat.le_of_ble_eq_true rfl) d_La_end_4 ⟨Nat.le_of_ble_eq_true rfl, Nat.le_of_ble_eq_true rfl⟩ (fun x H locs hxn hcell hP hD hS => ?_)
  refine WT.catch1 (pc' := 12) (nm := "java/lang/IllegalArgumentException") hown (show c.exceptionTable.toList = [⟨0, 9, 12, 19⟩] from hE) rfl (by decide) rfl (hts _ w_225) hcell (va_tabs rfl rfl (hN.1 (.castable "java/lang/IllegalArgumentException" "java/lang/IllegalArgumentException") (by simp [xnF]))) ?_
  refine lv_astore_n (lv' := [(3, .ref x), (0, .ref h0), (1, .int p0), (2, .ref ho)]) hx hb d_La_end_12 rfl hl (by decide) rfl (fun ls hl => ?_)
  refine lv_iconst (v := 1) hx hb d_La_end_13 (by decide) ?_
  exact xr_i hx hb hr hlocks hP hD hK hS (()) [0] rfl rfl (by decide) [0] rfl rfl d_La_end_14

set_option maxHeartbeats 4000000 in
set_option maxRecDepth 100000 in
theorem c_La_end_g (l : Launch) (htr : l.stackTraces = false) (D : va_G) (h0 ho : Nat) (cj : ClassId) (qa : Nat → Nat) (qk : Nat → ClassId) (p0 : Int32) (h1 : ¬ p0 < 0) (h2 : ¬ 15 < p0) (h3 : ¬ p0 ≤ 0) (sz : Nat) : Met l y_La_end (Cond.codeWith y_La_end b_La_end 4 (some .int) [(0, 9, 12, 19)] :: bw) (xR 6 1 6) (va_Pc [.ref h0, .int p0, .ref ho] (xP D [(cj, .long)] sz [(h0, .inr (0, [.ref (qa 0), .ref (qa 1), .ref (qa 2), .int 0])), ((qa 0), .inr (1, [.ref (qa 3), .ref (qa 4), .int 0, .int 0, .int 0, .int 0, .int 0, .int (-1), .long 0, .int 0, .int 0, .int 0, .int 0, .int (-1), .int (-1)])), ((qa 3), .inr (4, [.ref (qa 5), .int 0, .int 0, .int 0, .ref (qa 6), .ref (qa 7), .ref (qa 8)])), (ho, .inl (cj, 1, .inr (.inl (fun _ => 0))))])) (xQ (S := Unit) (fun _ => some (.int 1)) (fun _ => [(ho, .inl (cj, 1, .inr (.inl (fun _ => 0))))]) (fun _ => [(cj, .long)]) D (va_A [(h0, .inr (0, [.ref (qa 0), .ref (qa 1), .ref (qa 2), .int 0])), ((qa 0), .inr (1, [.ref (qa 3), .ref (qa 4), .int 0, .int 0, .int 0, .int 0, .int 0, .int (-1), .long 0, .int 0, .int 0, .int 0, .int 0, .int (-1), .int (-1)])), ((qa 3), .inr (4, [.ref (qa 5), .int 0, .int 0, .int 0, .ref (qa 6), .ref (qa 7), .ref (qa 8)])), (ho, .inl (cj, 1, .inr (.inl (fun _ => 0))))] sz)) 1 6 (va_A [(h0, .inr (0, [.ref (qa 0), .ref (qa 1), .ref (qa 2), .int 0])), ((qa 0), .inr (1, [.ref (qa 3), .ref (qa 4), .int 0, .int 0, .int 0, .int 0, .int 0, .int (-1), .long 0, .int 0, .int 0, .int 0, .int 0, .int (-1), .int (-1)])), ((qa 3), .inr (4, [.ref (qa 5), .int 0, .int 0, .int 0, .ref (qa 6), .ref (qa 7), .ref (qa 8)])), (ho, .inl (cj, 1, .inr (.inl (fun _ => 0))))] sz) := by
  refine MetE.ofW (hh := [(0, 9, 12, 19)]) (cc := b_La_end) (maxL := 4) (ret := (some .int)) (by decide) rfl ?_
  intro p e s m args below meth c s₁ B hml hE hv
  obtain ⟨rfl, hsz, hP, hK, hD0, hN, hZ⟩ := hv
  have hx := B.exec
  have hb := B.bytes
  have hr := B.returns
  have hlocks := B.notSynchronized
  have hts : ∀ w ∈ bw, w.before _ s = true := fun w h => atoms_spec (ws := Cond.codeWith y_La_end b_La_end 4 (some .int) [(0, 9, 12, 19)] :: bw) B.pre w (List.mem_cons_of_mem _ h)
  have hown : s.vm.findClass "ObjectForgeLaw" = some m.cls := findClass_of_methodNamed B.named
  subst hsz
  have hP0 := hP
  have hD := hD0.self (sz := s.heap.size)
  generalize hAe : va_A [(h0, .inr (0, [.ref (qa 0), .ref (qa 1), .ref (qa 2), .int 0])), ((qa 0), .inr (1, [.ref (qa 3), .ref (qa 4), .int 0, .int 0, .int 0, .int 0, .int 0, .int (-1), .long 0, .int 0, .int 0, .int 0, .int 0, .int (-1), .int (-1)])), ((qa 3), .inr (4, [.ref (qa 5), .int 0, .int 0, .int 0, .ref (qa 6), .ref (qa 7), .ref (qa 8)])), (ho, .inl (cj, 1, .inr (.inl (fun _ => 0))))] s.heap.size = A at hD hZ ⊢
  have hA : ∀ q : Nat, s.heap.size ≤ q → A q := fun q h => by rw [← hAe]; exact Or.inr h
  have hS : va_S A s.heap s.heap [] := va_S.rf
  have hl := lv_entry ([.ref h0, .int p0, .ref ho]) (n := 4) (Nat.le_of_ble_eq_true rfl)
  rw [lg_entry_eq]
  generalize (lg_sl ([.ref h0, .int p0, .ref ho]) ++ List.replicate (4 - (lg_sl ([.ref h0, .int p0, .ref ho])).length) Slot.unset).toArray = ls at hl ⊢
  have hl : lv_has ls 4 [(0, .ref h0), (1, .int p0), (2, .ref ho)] := hl
  refine lv_aload_n hx hb d_La_end_0 rfl (lv_at hl 2 rfl) ?_
  refine lv_iconst (v := 0) hx hb d_La_end_1 (by decide) ?_
  refine lv_aload_n hx hb d_La_end_2 rfl (lv_at hl 0 rfl) ?_
  refine lv_iload_n hx hb d_La_end_3 rfl (lv_at hl 1 rfl) ?_
  refine xt_V (As := [.int p0]) (rest := [.int 0, .ref ho]) (n := 1) (wc := [(h0, .inr (0, [.ref (qa 0), .ref (qa 1), .ref (qa 2), .int 0])), ((qa 0), .inr (1, [.ref (qa 3), .ref (qa 4), .int 0, .int 0, .int 0, .int 0, .int 0, .int (-1), .long 0, .int 0, .int 0, .int 0, .int 0, .int (-1), .int (-1)])), ((qa 3), .inr (4, [.ref (qa 5), .int 0, .int 0, .int 0, .ref (qa 6), .ref (qa 7), .ref (qa 8)]))]) (wr := [(ho, .inl (cj, 1, .inr (.inl (fun _ => 0))))]) (tc := [])  ⟨hx, hb, hml, hown, hts⟩ (c_OF_end_g l htr D h0 qa p0 h1 h2 h3 s.heap.size) rfl rfl w_229 w_226 w_227 w_228 w_1 (by decide +kernel) ⟨Nat.le_of_ble_eq_true rfl, Nat.le_of_ble_eq_true rfl⟩ hP hD hK hS hA hN hZ [0, 1, 2] [3] rfl rfl (by decide) (by decide) (by decide) [] rfl (ci := 0) (q0 := 0) (q := (R_OF, F_OF, 4)) rfl rfl rfl rfl hl.1 rfl (Nat.le_of_ble_eq_true rfl) d_La_end_4 ⟨Nat.le_of_ble_eq_true rfl, Nat.le_of_ble_eq_true rfl⟩ (fun x H locs hxn hcell hP hD hS => ?_)
  refine WT.catch1 (pc' := 12) (nm := "java/lang/IllegalArgumentException") hown (show c.exceptionTable.toList = [⟨0, 9, 12, 19⟩] from hE) rfl (by decide) rfl (hts _ w_225) hcell (va_tabs rfl rfl (hN.1 (.castable "java/lang/IllegalArgumentException" "java/lang/IllegalArgumentException") (by simp [xnF]))) ?_
  refine lv_astore_n (lv' := [(3, .ref x), (0, .ref h0), (1, .int p0), (2, .ref ho)]) hx hb d_La_end_12 rfl hl (by decide) rfl (fun ls hl => ?_)
  refine lv_iconst (v := 1) hx hb d_La_end_13 (by decide) ?_
  exact xr_i hx hb hr hlocks hP hD hK hS (()) [0] rfl rfl (by decide) [0] rfl rfl d_La_end_14

theorem d_La_assemble_0 : decode b_La_assemble 0 = .ok (.aload_n 1, 1) := by decide +kernel
theorem d_La_assemble_1 : decode b_La_assemble 1 = .ok (.iconst 0, 1) := by decide +kernel
theorem d_La_assemble_2 : decode b_La_assemble 2 = .ok (.aload_n 0, 1) := by decide +kernel
theorem d_La_assemble_3 : decode b_La_assemble 3 = .ok (.invokevirtual 21, 3) := by decide +kernel
theorem d_La_assemble_6 : decode b_La_assemble 6 = .ok (.i2l, 1) := by decide +kernel
theorem d_La_assemble_7 : decode b_La_assemble 7 = .ok (.lastore, 1) := by decide +kernel
theorem d_La_assemble_8 : decode b_La_assemble 8 = .ok (.goto 6, 3) := by decide +kernel
theorem d_La_assemble_14 : decode b_La_assemble 14 = .ok (.iconst 0, 1) := by decide +kernel
theorem d_La_assemble_15 : decode b_La_assemble 15 = .ok (.ireturn, 1) := by decide +kernel
set_option maxHeartbeats 4000000 in
set_option maxRecDepth 100000 in
theorem c_La_assemble (l : Launch) (htr : l.stackTraces = false) (D : va_G) (h0 ho : Nat) (cj : ClassId) (qa : Nat → Nat) (qk : Nat → ClassId) (uf : Nat → Option Nat) (sz : Nat) : Met l y_La_assemble (Cond.codeWith y_La_assemble b_La_assemble 3 (some .int) [(0, 8, 11, 13)] :: bw) (xR 6 0 0) (va_Pc [.ref h0, .ref ho] (xP D [((qk 1), .int), ((qk 2), .object "ObjectForge$Unit"), (cj, .long)] sz [(h0, .inr (0, [.ref (qa 0), .ref (qa 1), .ref (qa 2), .int 0])), ((qa 0), .inr (1, [.ref (qa 3), .ref (qa 4), .int 0, .int 0, .int 0, .int 0, .int 0, .int (-1), .long 0, .int 0, .int 0, .int 0, .int 0, .int (-1), .int (-1)])), ((qa 3), .inr (4, [.ref (qa 5), .int 0, .int 0, .int 0, .ref (qa 6), .ref (qa 7), .ref (qa 8)])), ((qa 4), .inr (6, [.ref (qa 9), .ref (qa 10), .ref (qa 11), .ref (qa 12), .ref (qa 13)])), ((qa 10), .inl ((qk 1), 3, .inl (fun _ => 0))), ((qa 12), .inr (5, [.ref (qa 14), .ref (qa 15), .ref (qa 16), .ref (qa 17), .ref (qa 18), .ref (qa 19), .ref (qa 20), .int 0])), ((qa 13), .inr (3, [.ref (qa 21), .ref (qa 22), .ref (qa 23), .ref (qa 24), .ref (qa 25), .ref (qa 26), .int 0])), ((qa 2), .inl ((qk 2), 8, .inr (.inr (.inr (.inr uf))))), (ho, .inl (cj, 1, .inr (.inl (fun _ => 0))))])) (xQ (S := Unit) (fun _ => some (.int 0)) (fun _ => [(ho, .inl (cj, 1, .inr (.inl (vp_updL (fun _ => 0) (0 : Int32).toNatClampNeg 0))))]) (fun _ => [(cj, .long)]) D (va_A [(h0, .inr (0, [.ref (qa 0), .ref (qa 1), .ref (qa 2), .int 0])), ((qa 0), .inr (1, [.ref (qa 3), .ref (qa 4), .int 0, .int 0, .int 0, .int 0, .int 0, .int (-1), .long 0, .int 0, .int 0, .int 0, .int 0, .int (-1), .int (-1)])), ((qa 3), .inr (4, [.ref (qa 5), .int 0, .int 0, .int 0, .ref (qa 6), .ref (qa 7), .ref (qa 8)])), ((qa 4), .inr (6, [.ref (qa 9), .ref (qa 10), .ref (qa 11), .ref (qa 12), .ref (qa 13)])), ((qa 10), .inl ((qk 1), 3, .inl (fun _ => 0))), ((qa 12), .inr (5, [.ref (qa 14), .ref (qa 15), .ref (qa 16), .ref (qa 17), .ref (qa 18), .ref (qa 19), .ref (qa 20), .int 0])), ((qa 13), .inr (3, [.ref (qa 21), .ref (qa 22), .ref (qa 23), .ref (qa 24), .ref (qa 25), .ref (qa 26), .int 0])), ((qa 2), .inl ((qk 2), 8, .inr (.inr (.inr (.inr uf))))), (ho, .inl (cj, 1, .inr (.inl (fun _ => 0))))] sz)) 0 0 (va_A [(h0, .inr (0, [.ref (qa 0), .ref (qa 1), .ref (qa 2), .int 0])), ((qa 0), .inr (1, [.ref (qa 3), .ref (qa 4), .int 0, .int 0, .int 0, .int 0, .int 0, .int (-1), .long 0, .int 0, .int 0, .int 0, .int 0, .int (-1), .int (-1)])), ((qa 3), .inr (4, [.ref (qa 5), .int 0, .int 0, .int 0, .ref (qa 6), .ref (qa 7), .ref (qa 8)])), ((qa 4), .inr (6, [.ref (qa 9), .ref (qa 10), .ref (qa 11), .ref (qa 12), .ref (qa 13)])), ((qa 10), .inl ((qk 1), 3, .inl (fun _ => 0))), ((qa 12), .inr (5, [.ref (qa 14), .ref (qa 15), .ref (qa 16), .ref (qa 17), .ref (qa 18), .ref (qa 19), .ref (qa 20), .int 0])), ((qa 13), .inr (3, [.ref (qa 21), .ref (qa 22), .ref (qa 23), .ref (qa 24), .ref (qa 25), .ref (qa 26), .int 0])), ((qa 2), .inl ((qk 2), 8, .inr (.inr (.inr (.inr uf))))), (ho, .inl (cj, 1, .inr (.inl (fun _ => 0))))] sz) := by
  refine MetE.ofW (hh := [(0, 8, 11, 13)]) (cc := b_La_assemble) (maxL := 3) (ret := (some .int)) (by decide) rfl ?_
  intro p e s m args below meth c s₁ B hml hE hv
  obtain ⟨rfl, hsz, hP, hK, hD0, hN, hZ⟩ := hv
  have hx := B.exec
  have hb := B.bytes
  have hr := B.returns
  have hlocks := B.notSynchronized
  have hts : ∀ w ∈ bw, w.before _ s = true := fun w h => atoms_spec (ws := Cond.codeWith y_La_assemble b_La_assemble 3 (some .int) [(0, 8, 11, 13)] :: bw) B.pre w (List.mem_cons_of_mem _ h)
  have hown : s.vm.findClass "ObjectForgeLaw" = some m.cls := findClass_of_methodNamed B.named
  subst hsz
  have hP0 := hP
  have hD := hD0.self (sz := s.heap.size)
  generalize hAe : va_A [(h0, .inr (0, [.ref (qa 0), .ref (qa 1), .ref (qa 2), .int 0])), ((qa 0), .inr (1, [.ref (qa 3), .ref (qa 4), .int 0, .int 0, .int 0, .int 0, .int 0, .int (-1), .long 0, .int 0, .int 0, .int 0, .int 0, .int (-1), .int (-1)])), ((qa 3), .inr (4, [.ref (qa 5), .int 0, .int 0, .int 0, .ref (qa 6), .ref (qa 7), .ref (qa 8)])), ((qa 4), .inr (6, [.ref (qa 9), .ref (qa 10), .ref (qa 11), .ref (qa 12), .ref (qa 13)])), ((qa 10), .inl ((qk 1), 3, .inl (fun _ => 0))), ((qa 12), .inr (5, [.ref (qa 14), .ref (qa 15), .ref (qa 16), .ref (qa 17), .ref (qa 18), .ref (qa 19), .ref (qa 20), .int 0])), ((qa 13), .inr (3, [.ref (qa 21), .ref (qa 22), .ref (qa 23), .ref (qa 24), .ref (qa 25), .ref (qa 26), .int 0])), ((qa 2), .inl ((qk 2), 8, .inr (.inr (.inr (.inr uf))))), (ho, .inl (cj, 1, .inr (.inl (fun _ => 0))))] s.heap.size = A at hD hZ ⊢
  have hA : ∀ q : Nat, s.heap.size ≤ q → A q := fun q h => by rw [← hAe]; exact Or.inr h
  have hS : va_S A s.heap s.heap [] := va_S.rf
  have hl := lv_entry ([.ref h0, .ref ho]) (n := 3) (Nat.le_of_ble_eq_true rfl)
  rw [lg_entry_eq]
  generalize (lg_sl ([.ref h0, .ref ho]) ++ List.replicate (3 - (lg_sl ([.ref h0, .ref ho])).length) Slot.unset).toArray = ls at hl ⊢
  have hl : lv_has ls 3 [(0, .ref h0), (1, .ref ho)] := hl
  refine lv_aload_n hx hb d_La_assemble_0 rfl (lv_at hl 1 rfl) ?_
  refine lv_iconst (v := 0) hx hb d_La_assemble_1 (by decide) ?_
  refine lv_aload_n hx hb d_La_assemble_2 rfl (lv_at hl 0 rfl) ?_
  refine xc_V (As := []) (rest := [.int 0, .ref ho]) (n := 0) (wc := [(h0, .inr (0, [.ref (qa 0), .ref (qa 1), .ref (qa 2), .int 0])), ((qa 0), .inr (1, [.ref (qa 3), .ref (qa 4), .int 0, .int 0, .int 0, .int 0, .int 0, .int (-1), .long 0, .int 0, .int 0, .int 0, .int 0, .int (-1), .int (-1)])), ((qa 3), .inr (4, [.ref (qa 5), .int 0, .int 0, .int 0, .ref (qa 6), .ref (qa 7), .ref (qa 8)])), ((qa 4), .inr (6, [.ref (qa 9), .ref (qa 10), .ref (qa 11), .ref (qa 12), .ref (qa 13)])), ((qa 10), .inl ((qk 1), 3, .inl (fun _ => 0))), ((qa 12), .inr (5, [.ref (qa 14), .ref (qa 15), .ref (qa 16), .ref (qa 17), .ref (qa 18), .ref (qa 19), .ref (qa 20), .int 0])), ((qa 13), .inr (3, [.ref (qa 21), .ref (qa 22), .ref (qa 23), .ref (qa 24), .ref (qa 25), .ref (qa 26), .int 0])), ((qa 2), .inl ((qk 2), 8, .inr (.inr (.inr (.inr uf)))))]) (wr := [(ho, .inl (cj, 1, .inr (.inl (fun _ => 0))))]) (tc := [((qk 1), .int), ((qk 2), .object "ObjectForge$Unit")]) (tr := [(cj, .long)]) ⟨hx, hb, hml, hown, hts⟩ (c_OF_assemble l D h0 qa qk uf s.heap.size) rfl rfl w_250 w_247 w_248 w_249 w_1 (by decide +kernel) ⟨Nat.le_of_ble_eq_true rfl, Nat.le_of_ble_eq_true rfl⟩ hP hD hK hS hA hN hZ [0, 1, 2, 3, 4, 5, 6, 7] [8] rfl rfl (by decide) (by decide) (by decide) [0, 1] [2] rfl rfl (ci := 0) (q0 := 0) (q := (R_OF, F_OF, 4)) rfl rfl rfl rfl hl.1 rfl (Nat.le_of_ble_eq_true rfl) d_La_assemble_3 ⟨Nat.le_of_ble_eq_true rfl, Nat.le_of_ble_eq_true rfl⟩ (fun u1 H locs hP hD hK hS => ?_)
  have hP : va_P D cls [(ho, .inl (cj, 1, .inr (.inl (fun _ => 0)))), (h0, .inr (0, [.ref (qa 0), .ref (qa 1), .ref (qa 2), .int 1]))] H := hP
  have hD : va_D A [(ho, .inl (cj, 1, .inr (.inl (fun _ => 0)))), (h0, .inr (0, [.ref (qa 0), .ref (qa 1), .ref (qa 2), .int 1]))] := hD
  have hK : va_K D cls [(cj, .long)] s := hK
  refine W.eq (g2 := F0 m 6 ls [.int 0, .int 0, .ref ho]) rfl ?_
  refine lv_i2l (v := 0) hx hb d_La_assemble_6 (by first | rfl | decide) ?_
  refine va_last hx hb hK hP hD hS 0 0 rfl rfl (by unfold vp_in; decide) d_La_assemble_7 (fun H locs hP hD hS => ?_)
  have hP : va_P D cls [(ho, .inl (cj, 1, .inr (.inl (vp_updL (fun _ => 0) (0 : Int32).toNatClampNeg 0)))), (h0, .inr (0, [.ref (qa 0), .ref (qa 1), .ref (qa 2), .int 1]))] H := hP
  have hD : va_D A [(ho, .inl (cj, 1, .inr (.inl (vp_updL (fun _ => 0) (0 : Int32).toNatClampNeg 0)))), (h0, .inr (0, [.ref (qa 0), .ref (qa 1), .ref (qa 2), .int 1]))] := hD
  refine lv_goto (tgt := 14) hx hb d_La_assemble_8 (by decide) ?_
  refine lv_iconst (v := 0) hx hb d_La_assemble_14 (by decide) ?_
  exact xr_i hx hb hr hlocks hP hD hK hS (()) [0] rfl rfl (by decide) [0] rfl rfl d_La_assemble_15

theorem d_La_fault_0 : decode b_La_fault 0 = .ok (.aload_n 2, 1) := by decide +kernel
theorem d_La_fault_1 : decode b_La_fault 1 = .ok (.iconst 0, 1) := by decide +kernel
theorem d_La_fault_2 : decode b_La_fault 2 = .ok (.aload_n 0, 1) := by decide +kernel
theorem d_La_fault_3 : decode b_La_fault 3 = .ok (.iload_n 1, 1) := by decide +kernel
theorem d_La_fault_4 : decode b_La_fault 4 = .ok (.invokevirtual 25, 3) := by decide +kernel
theorem d_La_fault_7 : decode b_La_fault 7 = .ok (.i2l, 1) := by decide +kernel
theorem d_La_fault_8 : decode b_La_fault 8 = .ok (.lastore, 1) := by decide +kernel
theorem d_La_fault_9 : decode b_La_fault 9 = .ok (.goto 6, 3) := by decide +kernel
theorem d_La_fault_15 : decode b_La_fault 15 = .ok (.iconst 0, 1) := by decide +kernel
theorem d_La_fault_16 : decode b_La_fault 16 = .ok (.ireturn, 1) := by decide +kernel
set_option maxHeartbeats 4000000 in
set_option maxRecDepth 100000 in
theorem c_La_fault_0 (l : Launch) (htr : l.stackTraces = false) (D : va_G) (h0 ho : Nat) (cj : ClassId) (qa : Nat → Nat) (qk : Nat → ClassId) (sz : Nat) : Met l y_La_fault (Cond.codeWith y_La_fault b_La_fault 4 (some .int) [(0, 9, 12, 28)] :: bw) (xR 6 0 0) (va_Pc [.ref h0, .int 0, .ref ho] (xP D [(cj, .long)] sz [(h0, .inr (0, [.ref (qa 0), .ref (qa 1), .ref (qa 2), .int 0])), ((qa 0), .inr (1, [.ref (qa 3), .ref (qa 4), .int 0, .int 0, .int 0, .int 0, .int 0, .int (-1), .long 0, .int 0, .int 0, .int 0, .int 0, .int (-1), .int (-1)])), ((qa 1), .inr (2, [.ref (qa 27), .int 0, .int 0, .int 0, .int 0, .int (-1), .int (-1)])), (ho, .inl (cj, 1, .inr (.inl (fun _ => 0))))])) (xQ (S := Unit) (fun _ => some (.int 0)) (fun _ => [(ho, .inl (cj, 1, .inr (.inl (vp_updL (fun _ => 0) (0 : Int32).toNatClampNeg 0))))]) (fun _ => [(cj, .long)]) D (va_A [(h0, .inr (0, [.ref (qa 0), .ref (qa 1), .ref (qa 2), .int 0])), ((qa 0), .inr (1, [.ref (qa 3), .ref (qa 4), .int 0, .int 0, .int 0, .int 0, .int 0, .int (-1), .long 0, .int 0, .int 0, .int 0, .int 0, .int (-1), .int (-1)])), ((qa 1), .inr (2, [.ref (qa 27), .int 0, .int 0, .int 0, .int 0, .int (-1), .int (-1)])), (ho, .inl (cj, 1, .inr (.inl (fun _ => 0))))] sz)) 0 0 (va_A [(h0, .inr (0, [.ref (qa 0), .ref (qa 1), .ref (qa 2), .int 0])), ((qa 0), .inr (1, [.ref (qa 3), .ref (qa 4), .int 0, .int 0, .int 0, .int 0, .int 0, .int (-1), .long 0, .int 0, .int 0, .int 0, .int 0, .int (-1), .int (-1)])), ((qa 1), .inr (2, [.ref (qa 27), .int 0, .int 0, .int 0, .int 0, .int (-1), .int (-1)])), (ho, .inl (cj, 1, .inr (.inl (fun _ => 0))))] sz) := by
  refine MetE.ofW (hh := [(0, 9, 12, 28)]) (cc := b_La_fault) (maxL := 4) (ret := (some .int)) (by decide) rfl ?_
  intro p e s m args below meth c s₁ B hml hE hv
  obtain ⟨rfl, hsz, hP, hK, hD0, hN, hZ⟩ := hv
  have hx := B.exec
  have hb := B.bytes
  have hr := B.returns
  have hlocks := B.notSynchronized
  have hts : ∀ w ∈ bw, w.before _ s = true := fun w h => atoms_spec (ws := Cond.codeWith y_La_fault b_La_fault 4 (some .int) [(0, 9, 12, 28)] :: bw) B.pre w (List.mem_cons_of_mem _ h)
  have hown : s.vm.findClass "ObjectForgeLaw" = some m.cls := findClass_of_methodNamed B.named
  subst hsz
  have hP0 := hP
  have hD := hD0.self (sz := s.heap.size)
  generalize hAe : va_A [(h0, .inr (0, [.ref (qa 0), .ref (qa 1), .ref (qa 2), .int 0])), ((qa 0), .inr (1, [.ref (qa 3), .ref (qa 4), .int 0, .int 0, .int 0, .int 0, .int 0, .int (-1), .long 0, .int 0, .int 0, .int 0, .int 0, .int (-1), .int (-1)])), ((qa 1), .inr (2, [.ref (qa 27), .int 0, .int 0, .int 0, .int 0, .int (-1), .int (-1)])), (ho, .inl (cj, 1, .inr (.inl (fun _ => 0))))] s.heap.size = A at hD hZ ⊢
  have hA : ∀ q : Nat, s.heap.size ≤ q → A q := fun q h => by rw [← hAe]; exact Or.inr h
  have hS : va_S A s.heap s.heap [] := va_S.rf
  have hl := lv_entry ([.ref h0, .int 0, .ref ho]) (n := 4) (Nat.le_of_ble_eq_true rfl)
  rw [lg_entry_eq]
  generalize (lg_sl ([.ref h0, .int 0, .ref ho]) ++ List.replicate (4 - (lg_sl ([.ref h0, .int 0, .ref ho])).length) Slot.unset).toArray = ls at hl ⊢
  have hl : lv_has ls 4 [(0, .ref h0), (1, .int 0), (2, .ref ho)] := hl
  refine lv_aload_n hx hb d_La_fault_0 rfl (lv_at hl 2 rfl) ?_
  refine lv_iconst (v := 0) hx hb d_La_fault_1 (by decide) ?_
  refine lv_aload_n hx hb d_La_fault_2 rfl (lv_at hl 0 rfl) ?_
  refine lv_iload_n hx hb d_La_fault_3 rfl (lv_at hl 1 rfl) ?_
  refine xc_V (As := [.int 0]) (rest := [.int 0, .ref ho]) (n := 1) (wc := [(h0, .inr (0, [.ref (qa 0), .ref (qa 1), .ref (qa 2), .int 0])), ((qa 0), .inr (1, [.ref (qa 3), .ref (qa 4), .int 0, .int 0, .int 0, .int 0, .int 0, .int (-1), .long 0, .int 0, .int 0, .int 0, .int 0, .int (-1), .int (-1)])), ((qa 1), .inr (2, [.ref (qa 27), .int 0, .int 0, .int 0, .int 0, .int (-1), .int (-1)]))]) (wr := [(ho, .inl (cj, 1, .inr (.inl (fun _ => 0))))]) (tc := []) (tr := [(cj, .long)]) ⟨hx, hb, hml, hown, hts⟩ (c_OF_fault_0 l D h0 qa s.heap.size) rfl rfl w_302 w_299 w_300 w_301 w_1 (by decide +kernel) ⟨Nat.le_of_ble_eq_true rfl, Nat.le_of_ble_eq_true rfl⟩ hP hD hK hS hA hN hZ [0, 1, 2] [3] rfl rfl (by decide) (by decide) (by decide) [] [0] rfl rfl (ci := 0) (q0 := 0) (q := (R_OF, F_OF, 4)) rfl rfl rfl rfl hl.1 rfl (Nat.le_of_ble_eq_true rfl) d_La_fault_4 ⟨Nat.le_of_ble_eq_true rfl, Nat.le_of_ble_eq_true rfl⟩ (fun u1 H locs hP hD hK hS => ?_)
  have hP : va_P D cls [(ho, .inl (cj, 1, .inr (.inl (fun _ => 0)))), (h0, .inr (0, [.ref (qa 0), .ref (qa 1), .ref (qa 2), .int 0])), ((qa 0), .inr (1, [.ref (qa 3), .ref (qa 4), .int 0, .int 0, .int 0, .int 0, .int 0, .int (-1), .long 0, .int 0, .int 0, .int 0, .int 0, .int (-1), .int (-1)])), ((qa 1), .inr (2, [.ref (qa 27), .int 0, .int 0, .int 0, .int 0, .int (-1), .int (-1)]))] H := hP
  have hD : va_D A [(ho, .inl (cj, 1, .inr (.inl (fun _ => 0)))), (h0, .inr (0, [.ref (qa 0), .ref (qa 1), .ref (qa 2), .int 0])), ((qa 0), .inr (1, [.ref (qa 3), .ref (qa 4), .int 0, .int 0, .int 0, .int 0, .int 0, .int (-1), .long 0, .int 0, .int 0, .int 0, .int 0, .int (-1), .int (-1)])), ((qa 1), .inr (2, [.ref (qa 27), .int 0, .int 0, .int 0, .int 0, .int (-1), .int (-1)]))] := hD
  have hK : va_K D cls [(cj, .long)] s := hK
  refine W.eq (g2 := F0 m 7 ls [.int 0, .int 0, .ref ho]) rfl ?_
  refine lv_i2l (v := 0) hx hb d_La_fault_7 (by first | rfl | decide) ?_
  refine va_last hx hb hK hP hD hS 0 0 rfl rfl (by unfold vp_in; decide) d_La_fault_8 (fun H locs hP hD hS => ?_)
  have hP : va_P D cls [(ho, .inl (cj, 1, .inr (.inl (vp_updL (fun _ => 0) (0 : Int32).toNatClampNeg 0)))), (h0, .inr (0, [.ref (qa 0), .ref (qa 1), .ref (qa 2), .int 0])), ((qa 0), .inr (1, [.ref (qa 3), .ref (qa 4), .int 0, .int 0, .int 0, .int 0, .int 0, .int (-1), .long 0, .int 0, .int 0, .int 0, .int 0, .int (-1), .int (-1)])), ((qa 1), .inr (2, [.ref (qa 27), .int 0, .int 0, .int 0, .int 0, .int (-1), .int (-1)]))] H := hP
  have hD : va_D A [(ho, .inl (cj, 1, .inr (.inl (vp_updL (fun _ => 0) (0 : Int32).toNatClampNeg 0)))), (h0, .inr (0, [.ref (qa 0), .ref (qa 1), .ref (qa 2), .int 0])), ((qa 0), .inr (1, [.ref (qa 3), .ref (qa 4), .int 0, .int 0, .int 0, .int 0, .int 0, .int (-1), .long 0, .int 0, .int 0, .int 0, .int 0, .int (-1), .int (-1)])), ((qa 1), .inr (2, [.ref (qa 27), .int 0, .int 0, .int 0, .int 0, .int (-1), .int (-1)]))] := hD
  refine lv_goto (tgt := 15) hx hb d_La_fault_9 (by decide) ?_
  refine lv_iconst (v := 0) hx hb d_La_fault_15 (by decide) ?_
  exact xr_i hx hb hr hlocks hP hD hK hS (()) [0] rfl rfl (by decide) [0] rfl rfl d_La_fault_16

set_option maxHeartbeats 4000000 in
set_option maxRecDepth 100000 in
theorem c_La_fault_1 (l : Launch) (htr : l.stackTraces = false) (D : va_G) (h0 ho : Nat) (cj : ClassId) (qa : Nat → Nat) (qk : Nat → ClassId) (sz : Nat) : Met l y_La_fault (Cond.codeWith y_La_fault b_La_fault 4 (some .int) [(0, 9, 12, 28)] :: bw) (xR 6 0 0) (va_Pc [.ref h0, .int 1, .ref ho] (xP D [(cj, .long)] sz [(h0, .inr (0, [.ref (qa 0), .ref (qa 1), .ref (qa 2), .int 0])), ((qa 0), .inr (1, [.ref (qa 3), .ref (qa 4), .int 0, .int 0, .int 0, .int 0, .int 0, .int (-1), .long 0, .int 0, .int 0, .int 0, .int 0, .int (-1), .int (-1)])), ((qa 1), .inr (2, [.ref (qa 27), .int 0, .int 0, .int 0, .int 0, .int (-1), .int (-1)])), (ho, .inl (cj, 1, .inr (.inl (fun _ => 0))))])) (xQ (S := Unit) (fun _ => some (.int 0)) (fun _ => [(ho, .inl (cj, 1, .inr (.inl (vp_updL (fun _ => 0) (0 : Int32).toNatClampNeg 0))))]) (fun _ => [(cj, .long)]) D (va_A [(h0, .inr (0, [.ref (qa 0), .ref (qa 1), .ref (qa 2), .int 0])), ((qa 0), .inr (1, [.ref (qa 3), .ref (qa 4), .int 0, .int 0, .int 0, .int 0, .int 0, .int (-1), .long 0, .int 0, .int 0, .int 0, .int 0, .int (-1), .int (-1)])), ((qa 1), .inr (2, [.ref (qa 27), .int 0, .int 0, .int 0, .int 0, .int (-1), .int (-1)])), (ho, .inl (cj, 1, .inr (.inl (fun _ => 0))))] sz)) 0 0 (va_A [(h0, .inr (0, [.ref (qa 0), .ref (qa 1), .ref (qa 2), .int 0])), ((qa 0), .inr (1, [.ref (qa 3), .ref (qa 4), .int 0, .int 0, .int 0, .int 0, .int 0, .int (-1), .long 0, .int 0, .int 0, .int 0, .int 0, .int (-1), .int (-1)])), ((qa 1), .inr (2, [.ref (qa 27), .int 0, .int 0, .int 0, .int 0, .int (-1), .int (-1)])), (ho, .inl (cj, 1, .inr (.inl (fun _ => 0))))] sz) := by
  refine MetE.ofW (hh := [(0, 9, 12, 28)]) (cc := b_La_fault) (maxL := 4) (ret := (some .int)) (by decide) rfl ?_
  intro p e s m args below meth c s₁ B hml hE hv
  obtain ⟨rfl, hsz, hP, hK, hD0, hN, hZ⟩ := hv
  have hx := B.exec
  have hb := B.bytes
  have hr := B.returns
  have hlocks := B.notSynchronized
  have hts : ∀ w ∈ bw, w.before _ s = true := fun w h => atoms_spec (ws := Cond.codeWith y_La_fault b_La_fault 4 (some .int) [(0, 9, 12, 28)] :: bw) B.pre w (List.mem_cons_of_mem _ h)
  have hown : s.vm.findClass "ObjectForgeLaw" = some m.cls := findClass_of_methodNamed B.named
  subst hsz
  have hP0 := hP
  have hD := hD0.self (sz := s.heap.size)
  generalize hAe : va_A [(h0, .inr (0, [.ref (qa 0), .ref (qa 1), .ref (qa 2), .int 0])), ((qa 0), .inr (1, [.ref (qa 3), .ref (qa 4), .int 0, .int 0, .int 0, .int 0, .int 0, .int (-1), .long 0, .int 0, .int 0, .int 0, .int 0, .int (-1), .int (-1)])), ((qa 1), .inr (2, [.ref (qa 27), .int 0, .int 0, .int 0, .int 0, .int (-1), .int (-1)])), (ho, .inl (cj, 1, .inr (.inl (fun _ => 0))))] s.heap.size = A at hD hZ ⊢
  have hA : ∀ q : Nat, s.heap.size ≤ q → A q := fun q h => by rw [← hAe]; exact Or.inr h
  have hS : va_S A s.heap s.heap [] := va_S.rf
  have hl := lv_entry ([.ref h0, .int 1, .ref ho]) (n := 4) (Nat.le_of_ble_eq_true rfl)
  rw [lg_entry_eq]
  generalize (lg_sl ([.ref h0, .int 1, .ref ho]) ++ List.replicate (4 - (lg_sl ([.ref h0, .int 1, .ref ho])).length) Slot.unset).toArray = ls at hl ⊢
  have hl : lv_has ls 4 [(0, .ref h0), (1, .int 1), (2, .ref ho)] := hl
  refine lv_aload_n hx hb d_La_fault_0 rfl (lv_at hl 2 rfl) ?_
  refine lv_iconst (v := 0) hx hb d_La_fault_1 (by decide) ?_
  refine lv_aload_n hx hb d_La_fault_2 rfl (lv_at hl 0 rfl) ?_
  refine lv_iload_n hx hb d_La_fault_3 rfl (lv_at hl 1 rfl) ?_
  refine xc_V (As := [.int 1]) (rest := [.int 0, .ref ho]) (n := 1) (wc := [(h0, .inr (0, [.ref (qa 0), .ref (qa 1), .ref (qa 2), .int 0])), ((qa 0), .inr (1, [.ref (qa 3), .ref (qa 4), .int 0, .int 0, .int 0, .int 0, .int 0, .int (-1), .long 0, .int 0, .int 0, .int 0, .int 0, .int (-1), .int (-1)])), ((qa 1), .inr (2, [.ref (qa 27), .int 0, .int 0, .int 0, .int 0, .int (-1), .int (-1)]))]) (wr := [(ho, .inl (cj, 1, .inr (.inl (fun _ => 0))))]) (tc := []) (tr := [(cj, .long)]) ⟨hx, hb, hml, hown, hts⟩ (c_OF_fault_1 l D h0 qa s.heap.size) rfl rfl w_302 w_299 w_300 w_301 w_1 (by decide +kernel) ⟨Nat.le_of_ble_eq_true rfl, Nat.le_of_ble_eq_true rfl⟩ hP hD hK hS hA hN hZ [0, 1, 2] [3] rfl rfl (by decide) (by decide) (by decide) [] [0] rfl rfl (ci := 0) (q0 := 0) (q := (R_OF, F_OF, 4)) rfl rfl rfl rfl hl.1 rfl (Nat.le_of_ble_eq_true rfl) d_La_fault_4 ⟨Nat.le_of_ble_eq_true rfl, Nat.le_of_ble_eq_true rfl⟩ (fun u1 H locs hP hD hK hS => ?_)
  have hP : va_P D cls [(ho, .inl (cj, 1, .inr (.inl (fun _ => 0)))), (h0, .inr (0, [.ref (qa 0), .ref (qa 1), .ref (qa 2), .int 0])), ((qa 0), .inr (1, [.ref (qa 3), .ref (qa 4), .int 0, .int 0, .int 0, .int 0, .int 0, .int (-1), .long 0, .int 0, .int 0, .int 0, .int 0, .int (-1), .int (-1)])), ((qa 1), .inr (2, [.ref (qa 27), .int 0, .int 0, .int 0, .int 0, .int (-1), .int (-1)]))] H := hP
  have hD : va_D A [(ho, .inl (cj, 1, .inr (.inl (fun _ => 0)))), (h0, .inr (0, [.ref (qa 0), .ref (qa 1), .ref (qa 2), .int 0])), ((qa 0), .inr (1, [.ref (qa 3), .ref (qa 4), .int 0, .int 0, .int 0, .int 0, .int 0, .int (-1), .long 0, .int 0, .int 0, .int 0, .int 0, .int (-1), .int (-1)])), ((qa 1), .inr (2, [.ref (qa 27), .int 0, .int 0, .int 0, .int 0, .int (-1), .int (-1)]))] := hD
  have hK : va_K D cls [(cj, .long)] s := hK
  refine W.eq (g2 := F0 m 7 ls [.int 0, .int 0, .ref ho]) rfl ?_
  refine lv_i2l (v := 0) hx hb d_La_fault_7 (by first | rfl | decide) ?_
  refine va_last hx hb hK hP hD hS 0 0 rfl rfl (by unfold vp_in; decide) d_La_fault_8 (fun H locs hP hD hS => ?_)
  have hP : va_P D cls [(ho, .inl (cj, 1, .inr (.inl (vp_updL (fun _ => 0) (0 : Int32).toNatClampNeg 0)))), (h0, .inr (0, [.ref (qa 0), .ref (qa 1), .ref (qa 2), .int 0])), ((qa 0), .inr (1, [.ref (qa 3), .ref (qa 4), .int 0, .int 0, .int 0, .int 0, .int 0, .int (-1), .long 0, .int 0, .int 0, .int 0, .int 0, .int (-1), .int (-1)])), ((qa 1), .inr (2, [.ref (qa 27), .int 0, .int 0, .int 0, .int 0, .int (-1), .int (-1)]))] H := hP
  have hD : va_D A [(ho, .inl (cj, 1, .inr (.inl (vp_updL (fun _ => 0) (0 : Int32).toNatClampNeg 0)))), (h0, .inr (0, [.ref (qa 0), .ref (qa 1), .ref (qa 2), .int 0])), ((qa 0), .inr (1, [.ref (qa 3), .ref (qa 4), .int 0, .int 0, .int 0, .int 0, .int 0, .int (-1), .long 0, .int 0, .int 0, .int 0, .int 0, .int (-1), .int (-1)])), ((qa 1), .inr (2, [.ref (qa 27), .int 0, .int 0, .int 0, .int 0, .int (-1), .int (-1)]))] := hD
  refine lv_goto (tgt := 15) hx hb d_La_fault_9 (by decide) ?_
  refine lv_iconst (v := 0) hx hb d_La_fault_15 (by decide) ?_
  exact xr_i hx hb hr hlocks hP hD hK hS (()) [0] rfl rfl (by decide) [0] rfl rfl d_La_fault_16

set_option maxHeartbeats 4000000 in
set_option maxRecDepth 100000 in
theorem c_La_fault_2 (l : Launch) (htr : l.stackTraces = false) (D : va_G) (h0 ho : Nat) (cj : ClassId) (qa : Nat → Nat) (qk : Nat → ClassId) (sz : Nat) : Met l y_La_fault (Cond.codeWith y_La_fault b_La_fault 4 (some .int) [(0, 9, 12, 28)] :: bw) (xR 6 0 0) (va_Pc [.ref h0, .int 2, .ref ho] (xP D [(cj, .long)] sz [(h0, .inr (0, [.ref (qa 0), .ref (qa 1), .ref (qa 2), .int 0])), ((qa 0), .inr (1, [.ref (qa 3), .ref (qa 4), .int 0, .int 0, .int 0, .int 0, .int 0, .int (-1), .long 0, .int 0, .int 0, .int 0, .int 0, .int (-1), .int (-1)])), ((qa 1), .inr (2, [.ref (qa 27), .int 0, .int 0, .int 0, .int 0, .int (-1), .int (-1)])), (ho, .inl (cj, 1, .inr (.inl (fun _ => 0))))])) (xQ (S := Unit) (fun _ => some (.int 0)) (fun _ => [(ho, .inl (cj, 1, .inr (.inl (vp_updL (fun _ => 0) (0 : Int32).toNatClampNeg 0))))]) (fun _ => [(cj, .long)]) D (va_A [(h0, .inr (0, [.ref (qa 0), .ref (qa 1), .ref (qa 2), .int 0])), ((qa 0), .inr (1, [.ref (qa 3), .ref (qa 4), .int 0, .int 0, .int 0, .int 0, .int 0, .int (-1), .long 0, .int 0, .int 0, .int 0, .int 0, .int (-1), .int (-1)])), ((qa 1), .inr (2, [.ref (qa 27), .int 0, .int 0, .int 0, .int 0, .int (-1), .int (-1)])), (ho, .inl (cj, 1, .inr (.inl (fun _ => 0))))] sz)) 0 0 (va_A [(h0, .inr (0, [.ref (qa 0), .ref (qa 1), .ref (qa 2), .int 0])), ((qa 0), .inr (1, [.ref (qa 3), .ref (qa 4), .int 0, .int 0, .int 0, .int 0, .int 0, .int (-1), .long 0, .int 0, .int 0, .int 0, .int 0, .int (-1), .int (-1)])), ((qa 1), .inr (2, [.ref (qa 27), .int 0, .int 0, .int 0, .int 0, .int (-1), .int (-1)])), (ho, .inl (cj, 1, .inr (.inl (fun _ => 0))))] sz) := by
  refine MetE.ofW (hh := [(0, 9, 12, 28)]) (cc := b_La_fault) (maxL := 4) (ret := (some .int)) (by decide) rfl ?_
  intro p e s m args below meth c s₁ B hml hE hv
  obtain ⟨rfl, hsz, hP, hK, hD0, hN, hZ⟩ := hv
  have hx := B.exec
  have hb := B.bytes
  have hr := B.returns
  have hlocks := B.notSynchronized
  have hts : ∀ w ∈ bw, w.before _ s = true := fun w h => atoms_spec (ws := Cond.codeWith y_La_fault b_La_fault 4 (some .int) [(0, 9, 12, 28)] :: bw) B.pre w (List.mem_cons_of_mem _ h)
  have hown : s.vm.findClass "ObjectForgeLaw" = some m.cls := findClass_of_methodNamed B.named
  subst hsz
  have hP0 := hP
  have hD := hD0.self (sz := s.heap.size)
  generalize hAe : va_A [(h0, .inr (0, [.ref (qa 0), .ref (qa 1), .ref (qa 2), .int 0])), ((qa 0), .inr (1, [.ref (qa 3), .ref (qa 4), .int 0, .int 0, .int 0, .int 0, .int 0, .int (-1), .long 0, .int 0, .int 0, .int 0, .int 0, .int (-1), .int (-1)])), ((qa 1), .inr (2, [.ref (qa 27), .int 0, .int 0, .int 0, .int 0, .int (-1), .int (-1)])), (ho, .inl (cj, 1, .inr (.inl (fun _ => 0))))] s.heap.size = A at hD hZ ⊢
  have hA : ∀ q : Nat, s.heap.size ≤ q → A q := fun q h => by rw [← hAe]; exact Or.inr h
  have hS : va_S A s.heap s.heap [] := va_S.rf
  have hl := lv_entry ([.ref h0, .int 2, .ref ho]) (n := 4) (Nat.le_of_ble_eq_true rfl)
  rw [lg_entry_eq]
  generalize (lg_sl ([.ref h0, .int 2, .ref ho]) ++ List.replicate (4 - (lg_sl ([.ref h0, .int 2, .ref ho])).length) Slot.unset).toArray = ls at hl ⊢
  have hl : lv_has ls 4 [(0, .ref h0), (1, .int 2), (2, .ref ho)] := hl
  refine lv_aload_n hx hb d_La_fault_0 rfl (lv_at hl 2 rfl) ?_
  refine lv_iconst (v := 0) hx hb d_La_fault_1 (by decide) ?_
  refine lv_aload_n hx hb d_La_fault_2 rfl (lv_at hl 0 rfl) ?_
  refine lv_iload_n hx hb d_La_fault_3 rfl (lv_at hl 1 rfl) ?_
  refine xc_V (As := [.int 2]) (rest := [.int 0, .ref ho]) (n := 1) (wc := [(h0, .inr (0, [.ref (qa 0), .ref (qa 1), .ref (qa 2), .int 0])), ((qa 0), .inr (1, [.ref (qa 3), .ref (qa 4), .int 0, .int 0, .int 0, .int 0, .int 0, .int (-1), .long 0, .int 0, .int 0, .int 0, .int 0, .int (-1), .int (-1)])), ((qa 1), .inr (2, [.ref (qa 27), .int 0, .int 0, .int 0, .int 0, .int (-1), .int (-1)]))]) (wr := [(ho, .inl (cj, 1, .inr (.inl (fun _ => 0))))]) (tc := []) (tr := [(cj, .long)]) ⟨hx, hb, hml, hown, hts⟩ (c_OF_fault_2 l D h0 qa s.heap.size) rfl rfl w_302 w_299 w_300 w_301 w_1 (by decide +kernel) ⟨Nat.le_of_ble_eq_true rfl, Nat.le_of_ble_eq_true rfl⟩ hP hD hK hS hA hN hZ [0, 1, 2] [3] rfl rfl (by decide) (by decide) (by decide) [] [0] rfl rfl (ci := 0) (q0 := 0) (q := (R_OF, F_OF, 4)) rfl rfl rfl rfl hl.1 rfl (Nat.le_of_ble_eq_true rfl) d_La_fault_4 ⟨Nat.le_of_ble_eq_true rfl, Nat.le_of_ble_eq_true rfl⟩ (fun u1 H locs hP hD hK hS => ?_)
  have hP : va_P D cls [(ho, .inl (cj, 1, .inr (.inl (fun _ => 0)))), (h0, .inr (0, [.ref (qa 0), .ref (qa 1), .ref (qa 2), .int 0])), ((qa 0), .inr (1, [.ref (qa 3), .ref (qa 4), .int 0, .int 0, .int 0, .int 0, .int 0, .int (-1), .long 0, .int 0, .int 0, .int 0, .int 0, .int (-1), .int (-1)])), ((qa 1), .inr (2, [.ref (qa 27), .int 0, .int 0, .int 0, .int 0, .int (-1), .int (-1)]))] H := hP
  have hD : va_D A [(ho, .inl (cj, 1, .inr (.inl (fun _ => 0)))), (h0, .inr (0, [.ref (qa 0), .ref (qa 1), .ref (qa 2), .int 0])), ((qa 0), .inr (1, [.ref (qa 3), .ref (qa 4), .int 0, .int 0, .int 0, .int 0, .int 0, .int (-1), .long 0, .int 0, .int 0, .int 0, .int 0, .int (-1), .int (-1)])), ((qa 1), .inr (2, [.ref (qa 27), .int 0, .int 0, .int 0, .int 0, .int (-1), .int (-1)]))] := hD
  have hK : va_K D cls [(cj, .long)] s := hK
  refine W.eq (g2 := F0 m 7 ls [.int 0, .int 0, .ref ho]) rfl ?_
  refine lv_i2l (v := 0) hx hb d_La_fault_7 (by first | rfl | decide) ?_
  refine va_last hx hb hK hP hD hS 0 0 rfl rfl (by unfold vp_in; decide) d_La_fault_8 (fun H locs hP hD hS => ?_)
  have hP : va_P D cls [(ho, .inl (cj, 1, .inr (.inl (vp_updL (fun _ => 0) (0 : Int32).toNatClampNeg 0)))), (h0, .inr (0, [.ref (qa 0), .ref (qa 1), .ref (qa 2), .int 0])), ((qa 0), .inr (1, [.ref (qa 3), .ref (qa 4), .int 0, .int 0, .int 0, .int 0, .int 0, .int (-1), .long 0, .int 0, .int 0, .int 0, .int 0, .int (-1), .int (-1)])), ((qa 1), .inr (2, [.ref (qa 27), .int 0, .int 0, .int 0, .int 0, .int (-1), .int (-1)]))] H := hP
  have hD : va_D A [(ho, .inl (cj, 1, .inr (.inl (vp_updL (fun _ => 0) (0 : Int32).toNatClampNeg 0)))), (h0, .inr (0, [.ref (qa 0), .ref (qa 1), .ref (qa 2), .int 0])), ((qa 0), .inr (1, [.ref (qa 3), .ref (qa 4), .int 0, .int 0, .int 0, .int 0, .int 0, .int (-1), .long 0, .int 0, .int 0, .int 0, .int 0, .int (-1), .int (-1)])), ((qa 1), .inr (2, [.ref (qa 27), .int 0, .int 0, .int 0, .int 0, .int (-1), .int (-1)]))] := hD
  refine lv_goto (tgt := 15) hx hb d_La_fault_9 (by decide) ?_
  refine lv_iconst (v := 0) hx hb d_La_fault_15 (by decide) ?_
  exact xr_i hx hb hr hlocks hP hD hK hS (()) [0] rfl rfl (by decide) [0] rfl rfl d_La_fault_16

set_option maxHeartbeats 4000000 in
set_option maxRecDepth 100000 in
theorem c_La_fault_3 (l : Launch) (htr : l.stackTraces = false) (D : va_G) (h0 ho : Nat) (cj : ClassId) (qa : Nat → Nat) (qk : Nat → ClassId) (sz : Nat) : Met l y_La_fault (Cond.codeWith y_La_fault b_La_fault 4 (some .int) [(0, 9, 12, 28)] :: bw) (xR 6 0 0) (va_Pc [.ref h0, .int 3, .ref ho] (xP D [(cj, .long)] sz [(h0, .inr (0, [.ref (qa 0), .ref (qa 1), .ref (qa 2), .int 0])), ((qa 0), .inr (1, [.ref (qa 3), .ref (qa 4), .int 0, .int 0, .int 0, .int 0, .int 0, .int (-1), .long 0, .int 0, .int 0, .int 0, .int 0, .int (-1), .int (-1)])), ((qa 1), .inr (2, [.ref (qa 27), .int 0, .int 0, .int 0, .int 0, .int (-1), .int (-1)])), (ho, .inl (cj, 1, .inr (.inl (fun _ => 0))))])) (xQ (S := Unit) (fun _ => some (.int 0)) (fun _ => [(ho, .inl (cj, 1, .inr (.inl (vp_updL (fun _ => 0) (0 : Int32).toNatClampNeg (-1)))))]) (fun _ => [(cj, .long)]) D (va_A [(h0, .inr (0, [.ref (qa 0), .ref (qa 1), .ref (qa 2), .int 0])), ((qa 0), .inr (1, [.ref (qa 3), .ref (qa 4), .int 0, .int 0, .int 0, .int 0, .int 0, .int (-1), .long 0, .int 0, .int 0, .int 0, .int 0, .int (-1), .int (-1)])), ((qa 1), .inr (2, [.ref (qa 27), .int 0, .int 0, .int 0, .int 0, .int (-1), .int (-1)])), (ho, .inl (cj, 1, .inr (.inl (fun _ => 0))))] sz)) 0 0 (va_A [(h0, .inr (0, [.ref (qa 0), .ref (qa 1), .ref (qa 2), .int 0])), ((qa 0), .inr (1, [.ref (qa 3), .ref (qa 4), .int 0, .int 0, .int 0, .int 0, .int 0, .int (-1), .long 0, .int 0, .int 0, .int 0, .int 0, .int (-1), .int (-1)])), ((qa 1), .inr (2, [.ref (qa 27), .int 0, .int 0, .int 0, .int 0, .int (-1), .int (-1)])), (ho, .inl (cj, 1, .inr (.inl (fun _ => 0))))] sz) := by
  refine MetE.ofW (hh := [(0, 9, 12, 28)]) (cc := b_La_fault) (maxL := 4) (ret := (some .int)) (by decide) rfl ?_
  intro p e s m args below meth c s₁ B hml hE hv
  obtain ⟨rfl, hsz, hP, hK, hD0, hN, hZ⟩ := hv
  have hx := B.exec
  have hb := B.bytes
  have hr := B.returns
  have hlocks := B.notSynchronized
  have hts : ∀ w ∈ bw, w.before _ s = true := fun w h => atoms_spec (ws := Cond.codeWith y_La_fault b_La_fault 4 (some .int) [(0, 9, 12, 28)] :: bw) B.pre w (List.mem_cons_of_mem _ h)
  have hown : s.vm.findClass "ObjectForgeLaw" = some m.cls := findClass_of_methodNamed B.named
  subst hsz
  have hP0 := hP
  have hD := hD0.self (sz := s.heap.size)
  generalize hAe : va_A [(h0, .inr (0, [.ref (qa 0), .ref (qa 1), .ref (qa 2), .int 0])), ((qa 0), .inr (1, [.ref (qa 3), .ref (qa 4), .int 0, .int 0, .int 0, .int 0, .int 0, .int (-1), .long 0, .int 0, .int 0, .int 0, .int 0, .int (-1), .int (-1)])), ((qa 1), .inr (2, [.ref (qa 27), .int 0, .int 0, .int 0, .int 0, .int (-1), .int (-1)])), (ho, .inl (cj, 1, .inr (.inl (fun _ => 0))))] s.heap.size = A at hD hZ ⊢
  have hA : ∀ q : Nat, s.heap.size ≤ q → A q := fun q h => by rw [← hAe]; exact Or.inr h
  have hS : va_S A s.heap s.heap [] := va_S.rf
  have hl := lv_entry ([.ref h0, .int 3, .ref ho]) (n := 4) (Nat.le_of_ble_eq_true rfl)
  rw [lg_entry_eq]
  generalize (lg_sl ([.ref h0, .int 3, .ref ho]) ++ List.replicate (4 - (lg_sl ([.ref h0, .int 3, .ref ho])).length) Slot.unset).toArray = ls at hl ⊢
  have hl : lv_has ls 4 [(0, .ref h0), (1, .int 3), (2, .ref ho)] := hl
  refine lv_aload_n hx hb d_La_fault_0 rfl (lv_at hl 2 rfl) ?_
  refine lv_iconst (v := 0) hx hb d_La_fault_1 (by decide) ?_
  refine lv_aload_n hx hb d_La_fault_2 rfl (lv_at hl 0 rfl) ?_
  refine lv_iload_n hx hb d_La_fault_3 rfl (lv_at hl 1 rfl) ?_
  refine xc_V (As := [.int 3]) (rest := [.int 0, .ref ho]) (n := 1) (wc := [(h0, .inr (0, [.ref (qa 0), .ref (qa 1), .ref (qa 2), .int 0])), ((qa 0), .inr (1, [.ref (qa 3), .ref (qa 4), .int 0, .int 0, .int 0, .int 0, .int 0, .int (-1), .long 0, .int 0, .int 0, .int 0, .int 0, .int (-1), .int (-1)])), ((qa 1), .inr (2, [.ref (qa 27), .int 0, .int 0, .int 0, .int 0, .int (-1), .int (-1)]))]) (wr := [(ho, .inl (cj, 1, .inr (.inl (fun _ => 0))))]) (tc := []) (tr := [(cj, .long)]) ⟨hx, hb, hml, hown, hts⟩ (c_OF_fault_3 l D h0 qa s.heap.size) rfl rfl w_302 w_299 w_300 w_301 w_1 (by decide +kernel) ⟨Nat.le_of_ble_eq_true rfl, Nat.le_of_ble_eq_true rfl⟩ hP hD hK hS hA hN hZ [0, 1, 2] [3] rfl rfl (by decide) (by decide) (by decide) [] [0] rfl rfl (ci := 0) (q0 := 0) (q := (R_OF, F_OF, 4)) rfl rfl rfl rfl hl.1 rfl (Nat.le_of_ble_eq_true rfl) d_La_fault_4 ⟨Nat.le_of_ble_eq_true rfl, Nat.le_of_ble_eq_true rfl⟩ (fun u1 H locs hP hD hK hS => ?_)
  have hP : va_P D cls [(ho, .inl (cj, 1, .inr (.inl (fun _ => 0)))), (h0, .inr (0, [.ref (qa 0), .ref (qa 1), .ref (qa 2), .int 0])), ((qa 0), .inr (1, [.ref (qa 3), .ref (qa 4), .int 0, .int 0, .int 0, .int 0, .int 0, .int (-1), .long 0, .int 0, .int 0, .int 0, .int 0, .int (-1), .int (-1)])), ((qa 1), .inr (2, [.ref (qa 27), .int 0, .int 0, .int 0, .int 0, .int (-1), .int (-1)]))] H := hP
  have hD : va_D A [(ho, .inl (cj, 1, .inr (.inl (fun _ => 0)))), (h0, .inr (0, [.ref (qa 0), .ref (qa 1), .ref (qa 2), .int 0])), ((qa 0), .inr (1, [.ref (qa 3), .ref (qa 4), .int 0, .int 0, .int 0, .int 0, .int 0, .int (-1), .long 0, .int 0, .int 0, .int 0, .int 0, .int (-1), .int (-1)])), ((qa 1), .inr (2, [.ref (qa 27), .int 0, .int 0, .int 0, .int 0, .int (-1), .int (-1)]))] := hD
  have hK : va_K D cls [(cj, .long)] s := hK
  refine W.eq (g2 := F0 m 7 ls [.int (-1), .int 0, .ref ho]) rfl ?_
  refine lv_i2l (v := (-1)) hx hb d_La_fault_7 (by first | rfl | decide) ?_
  refine va_last hx hb hK hP hD hS 0 0 rfl rfl (by unfold vp_in; decide) d_La_fault_8 (fun H locs hP hD hS => ?_)
  have hP : va_P D cls [(ho, .inl (cj, 1, .inr (.inl (vp_updL (fun _ => 0) (0 : Int32).toNatClampNeg (-1))))), (h0, .inr (0, [.ref (qa 0), .ref (qa 1), .ref (qa 2), .int 0])), ((qa 0), .inr (1, [.ref (qa 3), .ref (qa 4), .int 0, .int 0, .int 0, .int 0, .int 0, .int (-1), .long 0, .int 0, .int 0, .int 0, .int 0, .int (-1), .int (-1)])), ((qa 1), .inr (2, [.ref (qa 27), .int 0, .int 0, .int 0, .int 0, .int (-1), .int (-1)]))] H := hP
  have hD : va_D A [(ho, .inl (cj, 1, .inr (.inl (vp_updL (fun _ => 0) (0 : Int32).toNatClampNeg (-1))))), (h0, .inr (0, [.ref (qa 0), .ref (qa 1), .ref (qa 2), .int 0])), ((qa 0), .inr (1, [.ref (qa 3), .ref (qa 4), .int 0, .int 0, .int 0, .int 0, .int 0, .int (-1), .long 0, .int 0, .int 0, .int 0, .int 0, .int (-1), .int (-1)])), ((qa 1), .inr (2, [.ref (qa 27), .int 0, .int 0, .int 0, .int 0, .int (-1), .int (-1)]))] := hD
  refine lv_goto (tgt := 15) hx hb d_La_fault_9 (by decide) ?_
  refine lv_iconst (v := 0) hx hb d_La_fault_15 (by decide) ?_
  exact xr_i hx hb hr hlocks hP hD hK hS (()) [0] rfl rfl (by decide) [0] rfl rfl d_La_fault_16

set_option maxHeartbeats 4000000 in
set_option maxRecDepth 100000 in
theorem c_La_fault_4 (l : Launch) (htr : l.stackTraces = false) (D : va_G) (h0 ho : Nat) (cj : ClassId) (qa : Nat → Nat) (qk : Nat → ClassId) (sz : Nat) : Met l y_La_fault (Cond.codeWith y_La_fault b_La_fault 4 (some .int) [(0, 9, 12, 28)] :: bw) (xR 6 0 0) (va_Pc [.ref h0, .int 4, .ref ho] (xP D [(cj, .long)] sz [(h0, .inr (0, [.ref (qa 0), .ref (qa 1), .ref (qa 2), .int 0])), ((qa 0), .inr (1, [.ref (qa 3), .ref (qa 4), .int 0, .int 0, .int 0, .int 0, .int 0, .int (-1), .long 0, .int 0, .int 0, .int 0, .int 0, .int (-1), .int (-1)])), ((qa 1), .inr (2, [.ref (qa 27), .int 0, .int 0, .int 0, .int 0, .int (-1), .int (-1)])), (ho, .inl (cj, 1, .inr (.inl (fun _ => 0))))])) (xQ (S := Unit) (fun _ => some (.int 0)) (fun _ => [(ho, .inl (cj, 1, .inr (.inl (vp_updL (fun _ => 0) (0 : Int32).toNatClampNeg (-1)))))]) (fun _ => [(cj, .long)]) D (va_A [(h0, .inr (0, [.ref (qa 0), .ref (qa 1), .ref (qa 2), .int 0])), ((qa 0), .inr (1, [.ref (qa 3), .ref (qa 4), .int 0, .int 0, .int 0, .int 0, .int 0, .int (-1), .long 0, .int 0, .int 0, .int 0, .int 0, .int (-1), .int (-1)])), ((qa 1), .inr (2, [.ref (qa 27), .int 0, .int 0, .int 0, .int 0, .int (-1), .int (-1)])), (ho, .inl (cj, 1, .inr (.inl (fun _ => 0))))] sz)) 0 0 (va_A [(h0, .inr (0, [.ref (qa 0), .ref (qa 1), .ref (qa 2), .int 0])), ((qa 0), .inr (1, [.ref (qa 3), .ref (qa 4), .int 0, .int 0, .int 0, .int 0, .int 0, .int (-1), .long 0, .int 0, .int 0, .int 0, .int 0, .int (-1), .int (-1)])), ((qa 1), .inr (2, [.ref (qa 27), .int 0, .int 0, .int 0, .int 0, .int (-1), .int (-1)])), (ho, .inl (cj, 1, .inr (.inl (fun _ => 0))))] sz) := by
  refine MetE.ofW (hh := [(0, 9, 12, 28)]) (cc := b_La_fault) (maxL := 4) (ret := (some .int)) (by decide) rfl ?_
  intro p e s m args below meth c s₁ B hml hE hv
  obtain ⟨rfl, hsz, hP, hK, hD0, hN, hZ⟩ := hv
  have hx := B.exec
  have hb := B.bytes
  have hr := B.returns
  have hlocks := B.notSynchronized
  have hts : ∀ w ∈ bw, w.before _ s = true := fun w h => atoms_spec (ws := Cond.codeWith y_La_fault b_La_fault 4 (some .int) [(0, 9, 12, 28)] :: bw) B.pre w (List.mem_cons_of_mem _ h)
  have hown : s.vm.findClass "ObjectForgeLaw" = some m.cls := findClass_of_methodNamed B.named
  subst hsz
  have hP0 := hP
  have hD := hD0.self (sz := s.heap.size)
  generalize hAe : va_A [(h0, .inr (0, [.ref (qa 0), .ref (qa 1), .ref (qa 2), .int 0])), ((qa 0), .inr (1, [.ref (qa 3), .ref (qa 4), .int 0, .int 0, .int 0, .int 0, .int 0, .int (-1), .long 0, .int 0, .int 0, .int 0, .int 0, .int (-1), .int (-1)])), ((qa 1), .inr (2, [.ref (qa 27), .int 0, .int 0, .int 0, .int 0, .int (-1), .int (-1)])), (ho, .inl (cj, 1, .inr (.inl (fun _ => 0))))] s.heap.size = A at hD hZ ⊢
  have hA : ∀ q : Nat, s.heap.size ≤ q → A q := fun q h => by rw [← hAe]; exact Or.inr h
  have hS : va_S A s.heap s.heap [] := va_S.rf
  have hl := lv_entry ([.ref h0, .int 4, .ref ho]) (n := 4) (Nat.le_of_ble_eq_true rfl)
  rw [lg_entry_eq]
  generalize (lg_sl ([.ref h0, .int 4, .ref ho]) ++ List.replicate (4 - (lg_sl ([.ref h0, .int 4, .ref ho])).length) Slot.unset).toArray = ls at hl ⊢
  have hl : lv_has ls 4 [(0, .ref h0), (1, .int 4), (2, .ref ho)] := hl
  refine lv_aload_n hx hb d_La_fault_0 rfl (lv_at hl 2 rfl) ?_
  refine lv_iconst (v := 0) hx hb d_La_fault_1 (by decide) ?_
  refine lv_aload_n hx hb d_La_fault_2 rfl (lv_at hl 0 rfl) ?_
  refine lv_iload_n hx hb d_La_fault_3 rfl (lv_at hl 1 rfl) ?_
  refine xc_V (As := [.int 4]) (rest := [.int 0, .ref ho]) (n := 1) (wc := [(h0, .inr (0, [.ref (qa 0), .ref (qa 1), .ref (qa 2), .int 0])), ((qa 0), .inr (1, [.ref (qa 3), .ref (qa 4), .int 0, .int 0, .int 0, .int 0, .int 0, .int (-1), .long 0, .int 0, .int 0, .int 0, .int 0, .int (-1), .int (-1)])), ((qa 1), .inr (2, [.ref (qa 27), .int 0, .int 0, .int 0, .int 0, .int (-1), .int (-1)]))]) (wr := [(ho, .inl (cj, 1, .inr (.inl (fun _ => 0))))]) (tc := []) (tr := [(cj, .long)]) ⟨hx, hb, hml, hown, hts⟩ (c_OF_fault_4 l D h0 qa s.heap.size) rfl rfl w_302 w_299 w_300 w_301 w_1 (by decide +kernel) ⟨Nat.le_of_ble_eq_true rfl, Nat.le_of_ble_eq_true rfl⟩ hP hD hK hS hA hN hZ [0, 1, 2] [3] rfl rfl (by decide) (by decide) (by decide) [] [0] rfl rfl (ci := 0) (q0 := 0) (q := (R_OF, F_OF, 4)) rfl rfl rfl rfl hl.1 rfl (Nat.le_of_ble_eq_true rfl) d_La_fault_4 ⟨Nat.le_of_ble_eq_true rfl, Nat.le_of_ble_eq_true rfl⟩ (fun u1 H locs hP hD hK hS => ?_)
  have hP : va_P D cls [(ho, .inl (cj, 1, .inr (.inl (fun _ => 0)))), (h0, .inr (0, [.ref (qa 0), .ref (qa 1), .ref (qa 2), .int 0])), ((qa 0), .inr (1, [.ref (qa 3), .ref (qa 4), .int 0, .int 0, .int 0, .int 0, .int 0, .int (-1), .long 0, .int 0, .int 0, .int 0, .int 0, .int (-1), .int (-1)])), ((qa 1), .inr (2, [.ref (qa 27), .int 0, .int 0, .int 0, .int 0, .int (-1), .int (-1)]))] H := hP
  have hD : va_D A [(ho, .inl (cj, 1, .inr (.inl (fun _ => 0)))), (h0, .inr (0, [.ref (qa 0), .ref (qa 1), .ref (qa 2), .int 0])), ((qa 0), .inr (1, [.ref (qa 3), .ref (qa 4), .int 0, .int 0, .int 0, .int 0, .int 0, .int (-1), .long 0, .int 0, .int 0, .int 0, .int 0, .int (-1), .int (-1)])), ((qa 1), .inr (2, [.ref (qa 27), .int 0, .int 0, .int 0, .int 0, .int (-1), .int (-1)]))] := hD
  have hK : va_K D cls [(cj, .long)] s := hK
  refine W.eq (g2 := F0 m 7 ls [.int (-1), .int 0, .ref ho]) rfl ?_
  refine lv_i2l (v := (-1)) hx hb d_La_fault_7 (by first | rfl | decide) ?_
  refine va_last hx hb hK hP hD hS 0 0 rfl rfl (by unfold vp_in; decide) d_La_fault_8 (fun H locs hP hD hS => ?_)
  have hP : va_P D cls [(ho, .inl (cj, 1, .inr (.inl (vp_updL (fun _ => 0) (0 : Int32).toNatClampNeg (-1))))), (h0, .inr (0, [.ref (qa 0), .ref (qa 1), .ref (qa 2), .int 0])), ((qa 0), .inr (1, [.ref (qa 3), .ref (qa 4), .int 0, .int 0, .int 0, .int 0, .int 0, .int (-1), .long 0, .int 0, .int 0, .int 0, .int 0, .int (-1), .int (-1)])), ((qa 1), .inr (2, [.ref (qa 27), .int 0, .int 0, .int 0, .int 0, .int (-1), .int (-1)]))] H := hP
  have hD : va_D A [(ho, .inl (cj, 1, .inr (.inl (vp_updL (fun _ => 0) (0 : Int32).toNatClampNeg (-1))))), (h0, .inr (0, [.ref (qa 0), .ref (qa 1), .ref (qa 2), .int 0])), ((qa 0), .inr (1, [.ref (qa 3), .ref (qa 4), .int 0, .int 0, .int 0, .int 0, .int 0, .int (-1), .long 0, .int 0, .int 0, .int 0, .int 0, .int (-1), .int (-1)])), ((qa 1), .inr (2, [.ref (qa 27), .int 0, .int 0, .int 0, .int 0, .int (-1), .int (-1)]))] := hD
  refine lv_goto (tgt := 15) hx hb d_La_fault_9 (by decide) ?_
  refine lv_iconst (v := 0) hx hb d_La_fault_15 (by decide) ?_
  exact xr_i hx hb hr hlocks hP hD hK hS (()) [0] rfl rfl (by decide) [0] rfl rfl d_La_fault_16

theorem d_La_fault_12 : decode b_La_fault 12 = .ok (.astore_n 3, 1) := by decide +kernel
theorem d_La_fault_13 : decode b_La_fault 13 = .ok (.iconst 1, 1) := by decide +kernel
theorem d_La_fault_14 : decode b_La_fault 14 = .ok (.ireturn, 1) := by decide +kernel
set_option maxHeartbeats 4000000 in
set_option maxRecDepth 100000 in
theorem c_La_fault_x (l : Launch) (htr : l.stackTraces = false) (D : va_G) (h0 ho : Nat) (cj : ClassId) (qa : Nat → Nat) (qk : Nat → ClassId) (p0 : Int32) (h1 : p0.toInt < 0 ∨ 4 < p0.toInt) (sz : Nat) : Met l y_La_fault (Cond.codeWith y_La_fault b_La_fault 4 (some .int) [(0, 9, 12, 28)] :: bw) (xR 6 1 6) (va_Pc [.ref h0, .int p0, .ref ho] (xP D [(cj, .long)] sz [(h0, .inr (0, [.ref (qa 0), .ref (qa 1), .ref (qa 2), .int 0])), (ho, .inl (cj, 1, .inr (.inl (fun _ => 0))))])) (xQ (S := Unit) (fun _ => some (.int 1)) (fun _ => [(ho, .inl (cj, 1, .inr (.inl (fun _ => 0))))]) (fun _ => [(cj, .long)]) D (va_A [(h0, .inr (0, [.ref (qa 0), .ref (qa 1), .ref (qa 2), .int 0])), (ho, .inl (cj, 1, .inr (.inl (fun _ => 0))))] sz)) 1 6 (va_A [(h0, .inr (0, [.ref (qa 0), .ref (qa 1), .ref (qa 2), .int 0])), (ho, .inl (cj, 1, .inr (.inl (fun _ => 0))))] sz) := by
  refine MetE.ofW (hh := [(0, 9, 12, 28)]) (cc := b_La_fault) (maxL := 4) (ret := (some .int)) (by decide) rfl ?_
  intro p e s m args below meth c s₁ B hml hE hv
  obtain ⟨rfl, hsz, hP, hK, hD0, hN, hZ⟩ := hv
  have hx := B.exec
  have hb := B.bytes
  have hr := B.returns
  have hlocks := B.notSynchronized
  have hts : ∀ w ∈ bw, w.before _ s = true := fun w h => atoms_spec (ws := Cond.codeWith y_La_fault b_La_fault 4 (some .int) [(0, 9, 12, 28)] :: bw) B.pre w (List.mem_cons_of_mem _ h)
  have hown : s.vm.findClass "ObjectForgeLaw" = some m.cls := findClass_of_methodNamed B.named
  subst hsz
  have hP0 := hP
  have hD := hD0.self (sz := s.heap.size)
  generalize hAe : va_A [(h0, .inr (0, [.ref (qa 0), .ref (qa 1), .ref (qa 2), .int 0])), (ho, .inl (cj, 1, .inr (.inl (fun _ => 0))))] s.heap.size = A at hD hZ ⊢
  have hA : ∀ q : Nat, s.heap.size ≤ q → A q := fun q h => by rw [← hAe]; exact Or.inr h
  have hS : va_S A s.heap s.heap [] := va_S.rf
  have hl := lv_entry ([.ref h0, .int p0, .ref ho]) (n := 4) (Nat.le_of_ble_eq_true rfl)
  rw [lg_entry_eq]
  generalize (lg_sl ([.ref h0, .int p0, .ref ho]) ++ List.replicate (4 - (lg_sl ([.ref h0, .int p0, .ref ho])).length) Slot.unset).toArray = ls at hl ⊢
  have hl : lv_has ls 4 [(0, .ref h0), (1, .int p0), (2, .ref ho)] := hl
  refine lv_aload_n hx hb d_La_fault_0 rfl (lv_at hl 2 rfl) ?_
  refine lv_iconst (v := 0) hx hb d_La_fault_1 (by decide) ?_
  refine lv_aload_n hx hb d_La_fault_2 rfl (lv_at hl 0 rfl) ?_
  refine lv_iload_n hx hb d_La_fault_3 rfl (lv_at hl 1 rfl) ?_
  refine xt_V (As := [.int p0]) (rest := [.int 0, .ref ho]) (n := 1) (wc := [(h0, .inr (0, [.ref (qa 0), .ref (qa 1), .ref (qa 2), .int 0]))]) (wr := [(ho, .inl (cj, 1, .inr (.inl (fun _ => 0))))]) (tc := [])  ⟨hx, hb, hml, hown, hts⟩ (c_OF_fault_x l htr D h0 qa p0 h1 s.heap.size) rfl rfl w_302 w_299 w_300 w_301 w_1 (by decide +kernel) ⟨Nat.le_of_ble_eq_true rfl, Nat.le_of_ble_eq_true rfl⟩ hP hD hK hS hA hN hZ [0] [1] rfl rfl (by decide) (by decide) (by decide) [] rfl (ci := 0) (q0 := 0) (q := (R_OF, F_OF, 4)) rfl rfl rfl rfl hl.1 rfl (Nat.le_of_ble_eq_true rfl) d_La_fault_4 ⟨Nat.le_of_ble_eq_true rfl, Nat.le_of_ble_eq_true rfl⟩ (fun x H locs hxn hcell hP hD hS => ?_)
  refine WT.catch1 (pc' := 12) (nm := "java/lang/IndexOutOfBoundsException") hown (show c.exceptionTable.toList = [⟨0, 9, 12, 28⟩] from hE) rfl (by decide) rfl (hts _ w_298) hcell (va_tabs rfl rfl (hN.1 (.castable "java/lang/IndexOutOfBoundsException" "java/lang/IndexOutOfBoundsException") (by simp [xnF]))) ?_
  refine lv_astore_n (lv' := [(3, .ref x), (0, .ref h0), (1, .int p0), (2, .ref ho)]) hx hb d_La_fault_12 rfl hl (by decide) rfl (fun ls hl => ?_)
  refine lv_iconst (v := 1) hx hb d_La_fault_13 (by decide) ?_
  exact xr_i hx hb hr hlocks hP hD hK hS (()) [0] rfl rfl (by decide) [0] rfl rfl d_La_fault_14

theorem d_La_size_0 : decode b_La_size 0 = .ok (.aload_n 3, 1) := by decide +kernel
theorem d_La_size_1 : decode b_La_size 1 = .ok (.iconst 0, 1) := by decide +kernel
theorem d_La_size_2 : decode b_La_size 2 = .ok (.aload_n 0, 1) := by decide +kernel
theorem d_La_size_3 : decode b_La_size 3 = .ok (.iload_n 1, 1) := by decide +kernel
theorem d_La_size_4 : decode b_La_size 4 = .ok (.iload_n 2, 1) := by decide +kernel
theorem d_La_size_5 : decode b_La_size 5 = .ok (.invokevirtual 30, 3) := by decide +kernel
theorem d_La_size_13 : decode b_La_size 13 = .ok (.astore 4, 2) := by decide +kernel
theorem d_La_size_15 : decode b_La_size 15 = .ok (.iconst 1, 1) := by decide +kernel
theorem d_La_size_16 : decode b_La_size 16 = .ok (.ireturn, 1) := by decide +kernel
set_option maxHeartbeats 4000000 in
set_option maxRecDepth 100000 in
theorem c_La_size_n (l : Launch) (htr : l.stackTraces = false) (D : va_G) (h0 ho : Nat) (cj : ClassId) (qa : Nat → Nat) (qk : Nat → ClassId) (p0 p1 : Int32) (hk : p0 < 0) (sz : Nat) : Met l y_La_size (Cond.codeWith y_La_size b_La_size 5 (some .int) [(0, 10, 13, 28)] :: bw) (xR 6 1 6) (va_Pc [.ref h0, .int p0, .int p1, .ref ho] (xP D [(cj, .long)] sz [(h0, .inr (0, [.ref (qa 0), .ref (qa 1), .ref (qa 2), .int 0])), (ho, .inl (cj, 1, .inr (.inl (fun _ => 0))))])) (xQ (S := Unit) (fun _ => some (.int 1)) (fun _ => [(ho, .inl (cj, 1, .inr (.inl (fun _ => 0))))]) (fun _ => [(cj, .long)]) D (va_A [(h0, .inr (0, [.ref (qa 0), .ref (qa 1), .ref (qa 2), .int 0])), (ho, .inl (cj, 1, .inr (.inl (fun _ => 0))))] sz)) 1 6 (va_A [(h0, .inr (0, [.ref (qa 0), .ref (qa 1), .ref (qa 2), .int 0])), (ho, .inl (cj, 1, .inr (.inl (fun _ => 0))))] sz) := by
  refine MetE.ofW (hh := [(0, 10, 13, 28)]) (cc := b_La_size) (maxL := 5) (ret := (some .int)) (by decide) rfl ?_
  intro p e s m args below meth c s₁ B hml hE hv
  obtain ⟨rfl, hsz, hP, hK, hD0, hN, hZ⟩ := hv
  have hx := B.exec
  have hb := B.bytes
  have hr := B.returns
  have hlocks := B.notSynchronized
  have hts : ∀ w ∈ bw, w.before _ s = true := fun w h => atoms_spec (ws := Cond.codeWith y_La_size b_La_size 5 (some .int) [(0, 10, 13, 28)] :: bw) B.pre w (List.mem_cons_of_mem _ h)
  have hown : s.vm.findClass "ObjectForgeLaw" = some m.cls := findClass_of_methodNamed B.named
  subst hsz
  have hP0 := hP
  have hD := hD0.self (sz := s.heap.size)
  generalize hAe : va_A [(h0, .inr (0, [.ref (qa 0), .ref (qa 1), .ref (qa 2), .int 0])), (ho, .inl (cj, 1, .inr (.inl (fun _ => 0))))] s.heap.size = A at hD hZ ⊢
  have hA : ∀ q : Nat, s.heap.size ≤ q → A q := fun q h => by rw [← hAe]; exact Or.inr h
  have hS : va_S A s.heap s.heap [] := va_S.rf
  have hl := lv_entry ([.ref h0, .int p0, .int p1, .ref ho]) (n := 5) (Nat.le_of_ble_eq_true rfl)
  rw [lg_entry_eq]
  generalize (lg_sl ([.ref h0, .int p0, .int p1, .ref ho]) ++ List.replicate (5 - (lg_sl ([.ref h0, .int p0, .int p1, .ref ho])).length) Slot.unset).toArray = ls at hl ⊢
  have hl : lv_has ls 5 [(0, .ref h0), (1, .int p0), (2, .int p1), (3, .ref ho)] := hl
  refine lv_aload_n hx hb d_La_size_0 rfl (lv_at hl 3 rfl) ?_
  refine lv_iconst (v := 0) hx hb d_La_size_1 (by decide) ?_
  refine lv_aload_n hx hb d_La_size_2 rfl (lv_at hl 0 rfl) ?_
  refine lv_iload_n hx hb d_La_size_3 rfl (lv_at hl 1 rfl) ?_
  refine lv_iload_n hx hb d_La_size_4 rfl (lv_at hl 2 rfl) ?_
  refine xt_V (As := [.int p0, .int p1]) (rest := [.int 0, .ref ho]) (n := 2) (wc := [(h0, .inr (0, [.ref (qa 0), .ref (qa 1), .ref (qa 2), .int 0]))]) (wr := [(ho, .inl (cj, 1, .inr (.inl (fun _ => 0))))]) (tc := [])  ⟨hx, hb, hml, hown, hts⟩ (c_OF_size_n l htr D h0 qa p0 p1 hk s.heap.size) rfl rfl w_320 w_317 w_318 w_319 w_1 (by decide +kernel) ⟨Nat.le_of_ble_eq_true rfl, Nat.le_of_ble_eq_true rfl⟩ hP hD hK hS hA hN hZ [0] [1] rfl rfl (by decide) (by decide) (by decide) [] rfl (ci := 0) (q0 := 0) (q := (R_OF, F_OF, 4)) rfl rfl rfl rfl hl.1 rfl (Nat.le_of_ble_eq_true rfl) d_La_size_5 ⟨Nat.le_of_ble_eq_true rfl, Nat.le_of_ble_eq_true rfl⟩ (fun x H locs hxn hcell hP hD hS => ?_)
  refine WT.catch1 (pc' := 13) (nm := "java/lang/IndexOutOfBoundsException") hown (show c.exceptionTable.toList = [⟨0, 10, 13, 28⟩] from hE) rfl (by decide) rfl (hts _ w_298) hcell (va_tabs rfl rfl (hN.1 (.castable "java/lang/IndexOutOfBoundsException" "java/lang/IndexOutOfBoundsException") (by simp [xnF]))) ?_
  refine lv_astore (lv' := [(4, .ref x), (0, .ref h0), (1, .int p0), (2, .int p1), (3, .ref ho)]) hx hb d_La_size_13 hl (by decide) rfl (fun ls hl => ?_)
  refine lv_iconst (v := 1) hx hb d_La_size_15 (by decide) ?_
  exact xr_i hx hb hr hlocks hP hD hK hS (()) [0] rfl rfl (by decide) [0] rfl rfl d_La_size_16

set_option maxHeartbeats 4000000 in
set_option maxRecDepth 100000 in
theorem c_La_size_g (l : Launch) (htr : l.stackTraces = false) (D : va_G) (h0 ho : Nat) (cj : ClassId) (qa : Nat → Nat) (qk : Nat → ClassId) (p0 p1 : Int32) (hk : ¬ p0 < 0) (hg : ¬ p0 < 0) (sz : Nat) : Met l y_La_size (Cond.codeWith y_La_size b_La_size 5 (some .int) [(0, 10, 13, 28)] :: bw) (xR 6 1 6) (va_Pc [.ref h0, .int p0, .int p1, .ref ho] (xP D [(cj, .long)] sz [(h0, .inr (0, [.ref (qa 0), .ref (qa 1), .ref (qa 2), .int 0])), (ho, .inl (cj, 1, .inr (.inl (fun _ => 0))))])) (xQ (S := Unit) (fun _ => some (.int 1)) (fun _ => [(ho, .inl (cj, 1, .inr (.inl (fun _ => 0))))]) (fun _ => [(cj, .long)]) D (va_A [(h0, .inr (0, [.ref (qa 0), .ref (qa 1), .ref (qa 2), .int 0])), (ho, .inl (cj, 1, .inr (.inl (fun _ => 0))))] sz)) 1 6 (va_A [(h0, .inr (0, [.ref (qa 0), .ref (qa 1), .ref (qa 2), .int 0])), (ho, .inl (cj, 1, .inr (.inl (fun _ => 0))))] sz) := by
  refine MetE.ofW (hh := [(0, 10, 13, 28)]) (cc := b_La_size) (maxL := 5) (ret := (some .int)) (by decide) rfl ?_
  intro p e s m args below meth c s₁ B hml hE hv
  obtain ⟨rfl, hsz, hP, hK, hD0, hN, hZ⟩ := hv
  have hx := B.exec
  have hb := B.bytes
  have hr := B.returns
  have hlocks := B.notSynchronized
  have hts : ∀ w ∈ bw, w.before _ s = true := fun w h => atoms_spec (ws := Cond.codeWith y_La_size b_La_size 5 (some .int) [(0, 10, 13, 28)] :: bw) B.pre w (List.mem_cons_of_mem _ h)
  have hown : s.vm.findClass "ObjectForgeLaw" = some m.cls := findClass_of_methodNamed B.named
  subst hsz
  have hP0 := hP
  have hD := hD0.self (sz := s.heap.size)
  generalize hAe : va_A [(h0, .inr (0, [.ref (qa 0), .ref (qa 1), .ref (qa 2), .int 0])), (ho, .inl (cj, 1, .inr (.inl (fun _ => 0))))] s.heap.size = A at hD hZ ⊢
  have hA : ∀ q : Nat, s.heap.size ≤ q → A q := fun q h => by rw [← hAe]; exact Or.inr h
  have hS : va_S A s.heap s.heap [] := va_S.rf
  have hl := lv_entry ([.ref h0, .int p0, .int p1, .ref ho]) (n := 5) (Nat.le_of_ble_eq_true rfl)
  rw [lg_entry_eq]
  generalize (lg_sl ([.ref h0, .int p0, .int p1, .ref ho]) ++ List.replicate (5 - (lg_sl ([.ref h0, .int p0, .int p1, .ref ho])).length) Slot.unset).toArray = ls at hl ⊢
  have hl : lv_has ls 5 [(0, .ref h0), (1, .int p0), (2, .int p1), (3, .ref ho)] := hl
  refine lv_aload_n hx hb d_La_size_0 rfl (lv_at hl 3 rfl) ?_
  refine lv_iconst (v := 0) hx hb d_La_size_1 (by decide) ?_
  refine lv_aload_n hx hb d_La_size_2 rfl (lv_at hl 0 rfl) ?_
  refine lv_iload_n hx hb d_La_size_3 rfl (lv_at hl 1 rfl) ?_
  refine lv_iload_n hx hb d_La_size_4 rfl (lv_at hl 2 rfl) ?_
  refine xt_V (As := [.int p0, .int p1]) (rest := [.int 0, .ref ho]) (n := 2) (wc := [(h0, .inr (0, [.ref (qa 0), .ref (qa 1), .ref (qa 2), .int 0]))]) (wr := [(ho, .inl (cj, 1, .inr (.inl (fun _ => 0))))]) (tc := [])  ⟨hx, hb, hml, hown, hts⟩ (c_OF_size_g l htr D h0 qa p0 p1 hk hg s.heap.size) rfl rfl w_320 w_317 w_318 w_319 w_1 (by decide +kernel) ⟨Nat.le_of_ble_eq_true rfl, Nat.le_of_ble_eq_true rfl⟩ hP hD hK hS hA hN hZ [0] [1] rfl rfl (by decide) (by decide) (by decide) [] rfl (ci := 0) (q0 := 0) (q := (R_OF, F_OF, 4)) rfl rfl rfl rfl hl.1 rfl (Nat.le_of_ble_eq_true rfl) d_La_size_5 ⟨Nat.le_of_ble_eq_true rfl, Nat.le_of_ble_eq_true rfl⟩ (fun x H locs hxn hcell hP hD hS => ?_)
  refine WT.catch1 (pc' := 13) (nm := "java/lang/IndexOutOfBoundsException") hown (show c.exceptionTable.toList = [⟨0, 10, 13, 28⟩] from hE) rfl (by decide) rfl (hts _ w_298) hcell (va_tabs rfl rfl (hN.1 (.castable "java/lang/IndexOutOfBoundsException" "java/lang/IndexOutOfBoundsException") (by simp [xnF]))) ?_
  refine lv_astore (lv' := [(4, .ref x), (0, .ref h0), (1, .int p0), (2, .int p1), (3, .ref ho)]) hx hb d_La_size_13 hl (by decide) rfl (fun ls hl => ?_)
  refine lv_iconst (v := 1) hx hb d_La_size_15 (by decide) ?_
  exact xr_i hx hb hr hlocks hP hD hK hS (()) [0] rfl rfl (by decide) [0] rfl rfl d_La_size_16

theorem d_La_byteAt_0 : decode b_La_byteAt 0 = .ok (.aload 4, 2) := by decide +kernel
theorem d_La_byteAt_2 : decode b_La_byteAt 2 = .ok (.iconst 0, 1) := by decide +kernel
theorem d_La_byteAt_3 : decode b_La_byteAt 3 = .ok (.aload_n 0, 1) := by decide +kernel
theorem d_La_byteAt_4 : decode b_La_byteAt 4 = .ok (.iload_n 1, 1) := by decide +kernel
theorem d_La_byteAt_5 : decode b_La_byteAt 5 = .ok (.iload_n 2, 1) := by decide +kernel
theorem d_La_byteAt_6 : decode b_La_byteAt 6 = .ok (.iload_n 3, 1) := by decide +kernel
theorem d_La_byteAt_7 : decode b_La_byteAt 7 = .ok (.invokevirtual 34, 3) := by decide +kernel
theorem d_La_byteAt_15 : decode b_La_byteAt 15 = .ok (.astore 5, 2) := by decide +kernel
theorem d_La_byteAt_17 : decode b_La_byteAt 17 = .ok (.iconst 1, 1) := by decide +kernel
theorem d_La_byteAt_18 : decode b_La_byteAt 18 = .ok (.ireturn, 1) := by decide +kernel
set_option maxHeartbeats 4000000 in
set_option maxRecDepth 100000 in
theorem c_La_byteAt_n (l : Launch) (htr : l.stackTraces = false) (D : va_G) (h0 ho : Nat) (cj : ClassId) (qa : Nat → Nat) (qk : Nat → ClassId) (p0 p1 p2 : Int32) (hk : p0 < 0) (sz : Nat) : Met l y_La_byteAt (Cond.codeWith y_La_byteAt b_La_byteAt 6 (some .int) [(0, 12, 15, 28)] :: bw) (xR 6 1 6) (va_Pc [.ref h0, .int p0, .int p1, .int p2, .ref ho] (xP D [(cj, .long)] sz [(h0, .inr (0, [.ref (qa 0), .ref (qa 1), .ref (qa 2), .int 0])), (ho, .inl (cj, 1, .inr (.inl (fun _ => 0))))])) (xQ (S := Unit) (fun _ => some (.int 1)) (fun _ => [(ho, .inl (cj, 1, .inr (.inl (fun _ => 0))))]) (fun _ => [(cj, .long)]) D (va_A [(h0, .inr (0, [.ref (qa 0), .ref (qa 1), .ref (qa 2), .int 0])), (ho, .inl (cj, 1, .inr (.inl (fun _ => 0))))] sz)) 1 6 (va_A [(h0, .inr (0, [.ref (qa 0), .ref (qa 1), .ref (qa 2), .int 0])), (ho, .inl (cj, 1, .inr (.inl (fun _ => 0))))] sz) := by
  refine MetE.ofW (hh := [(0, 12, 15, 28)]) (cc := b_La_byteAt) (maxL := 6) (ret := (some .int)) (by decide) rfl ?_
  intro p e s m args below meth c s₁ B hml hE hv
  obtain ⟨rfl, hsz, hP, hK, hD0, hN, hZ⟩ := hv
  have hx := B.exec
  have hb := B.bytes
  have hr := B.returns
  have hlocks := B.notSynchronized
  have hts : ∀ w ∈ bw, w.before _ s = true := fun w h => atoms_spec (ws := Cond.codeWith y_La_byteAt b_La_byteAt 6 (some .int) [(0, 12, 15, 28)] :: bw) B.pre w (List.mem_cons_of_mem _ h)
  have hown : s.vm.findClass "ObjectForgeLaw" = some m.cls := findClass_of_methodNamed B.named
  subst hsz
  have hP0 := hP
  have hD := hD0.self (sz := s.heap.size)
  generalize hAe : va_A [(h0, .inr (0, [.ref (qa 0), .ref (qa 1), .ref (qa 2), .int 0])), (ho, .inl (cj, 1, .inr (.inl (fun _ => 0))))] s.heap.size = A at hD hZ ⊢
  have hA : ∀ q : Nat, s.heap.size ≤ q → A q := fun q h => by rw [← hAe]; exact Or.inr h
  have hS : va_S A s.heap s.heap [] := va_S.rf
  have hl := lv_entry ([.ref h0, .int p0, .int p1, .int p2, .ref ho]) (n := 6) (Nat.le_of_ble_eq_true rfl)
  rw [lg_entry_eq]
  generalize (lg_sl ([.ref h0, .int p0, .int p1, .int p2, .ref ho]) ++ List.replicate (6 - (lg_sl ([.ref h0, .int p0, .int p1, .int p2, .ref ho])).length) Slot.unset).toArray = ls at hl ⊢
  have hl : lv_has ls 6 [(0, .ref h0), (1, .int p0), (2, .int p1), (3, .int p2), (4, .ref ho)] := hl
  refine lv_aload hx hb d_La_byteAt_0 (lv_at hl 4 rfl) ?_
  refine lv_iconst (v := 0) hx hb d_La_byteAt_2 (by decide) ?_
  refine lv_aload_n hx hb d_La_byteAt_3 rfl (lv_at hl 0 rfl) ?_
  refine lv_iload_n hx hb d_La_byteAt_4 rfl (lv_at hl 1 rfl) ?_
  refine lv_iload_n hx hb d_La_byteAt_5 rfl (lv_at hl 2 rfl) ?_
  refine lv_iload_n hx hb d_La_byteAt_6 rfl (lv_at hl 3 rfl) ?_
  refine xt_V (As := [.int p0, .int p1, .int p2]) (rest := [.int 0, .ref ho]) (n := 3) (wc := [(h0, .inr (0, [.ref (qa 0), .ref (qa 1), .ref (qa 2), .int 0]))]) (wr := [(ho, .inl (cj, 1, .inr (.inl (fun _ => 0))))]) (tc := [])  ⟨hx, hb, hml, hown, hts⟩ (c_OF_byteAt_n l htr D h0 qa p0 p1 p2 hk s.heap.size) rfl rfl w_333 w_330 w_331 w_332 w_1 (by decide +kernel) ⟨Nat.le_of_ble_eq_true rfl, Nat.le_of_ble_eq_true rfl⟩ hP hD hK hS hA hN hZ [0] [1] rfl rfl (by decide) (by decide) (by decide) [] rfl (ci := 0) (q0 := 0) (q := (R_OF, F_OF, 4)) rfl rfl rfl rfl hl.1 rfl (Nat.le_of_ble_eq_true rfl) d_La_byteAt_7 ⟨Nat.le_of_ble_eq_true rfl, Nat.le_of_ble_eq_true rfl⟩ (fun x H locs hxn hcell hP hD hS => ?_)
  refine WT.catch1 (pc' := 15) (nm := "java/lang/IndexOutOfBoundsException") hown (show c.exceptionTable.toList = [⟨0, 12, 15, 28⟩] from hE) rfl (by decide) rfl (hts _ w_298) hcell (va_tabs rfl rfl (hN.1 (.castable "java/lang/IndexOutOfBoundsException" "java/lang/IndexOutOfBoundsException") (by simp [xnF]))) ?_
  refine lv_astore (lv' := [(5, .ref x), (0, .ref h0), (1, .int p0), (2, .int p1), (3, .int p2), (4, .ref ho)]) hx hb d_La_byteAt_15 hl (by decide) rfl (fun ls hl => ?_)
  refine lv_iconst (v := 1) hx hb d_La_byteAt_17 (by decide) ?_
  exact xr_i hx hb hr hlocks hP hD hK hS (()) [0] rfl rfl (by decide) [0] rfl rfl d_La_byteAt_18

set_option maxHeartbeats 4000000 in
set_option maxRecDepth 100000 in
theorem c_La_byteAt_g (l : Launch) (htr : l.stackTraces = false) (D : va_G) (h0 ho : Nat) (cj : ClassId) (qa : Nat → Nat) (qk : Nat → ClassId) (p0 p1 p2 : Int32) (hk : ¬ p0 < 0) (hg : ¬ p0 < 0) (sz : Nat) : Met l y_La_byteAt (Cond.codeWith y_La_byteAt b_La_byteAt 6 (some .int) [(0, 12, 15, 28)] :: bw) (xR 6 1 6) (va_Pc [.ref h0, .int p0, .int p1, .int p2, .ref ho] (xP D [(cj, .long)] sz [(h0, .inr (0, [.ref (qa 0), .ref (qa 1), .ref (qa 2), .int 0])), (ho, .inl (cj, 1, .inr (.inl (fun _ => 0))))])) (xQ (S := Unit) (fun _ => some (.int 1)) (fun _ => [(ho, .inl (cj, 1, .inr (.inl (fun _ => 0))))]) (fun _ => [(cj, .long)]) D (va_A [(h0, .inr (0, [.ref (qa 0), .ref (qa 1), .ref (qa 2), .int 0])), (ho, .inl (cj, 1, .inr (.inl (fun _ => 0))))] sz)) 1 6 (va_A [(h0, .inr (0, [.ref (qa 0), .ref (qa 1), .ref (qa 2), .int 0])), (ho, .inl (cj, 1, .inr (.inl (fun _ => 0))))] sz) := by
  refine MetE.ofW (hh := [(0, 12, 15, 28)]) (cc := b_La_byteAt) (maxL := 6) (ret := (some .int)) (by decide) rfl ?_
  intro p e s m args below meth c s₁ B hml hE hv
  obtain ⟨rfl, hsz, hP, hK, hD0, hN, hZ⟩ := hv
  have hx := B.exec
  have hb := B.bytes
  have hr := B.returns
  have hlocks := B.notSynchronized
  have hts : ∀ w ∈ bw, w.before _ s = true := fun w h => atoms_spec (ws := Cond.codeWith y_La_byteAt b_La_byteAt 6 (some .int) [(0, 12, 15, 28)] :: bw) B.pre w (List.mem_cons_of_mem _ h)
  have hown : s.vm.findClass "ObjectForgeLaw" = some m.cls := findClass_of_methodNamed B.named
  subst hsz
  have hP0 := hP
  have hD := hD0.self (sz := s.heap.size)
  generalize hAe : va_A [(h0, .inr (0, [.ref (qa 0), .ref (qa 1), .ref (qa 2), .int 0])), (ho, .inl (cj, 1, .inr (.inl (fun _ => 0))))] s.heap.size = A at hD hZ ⊢
  have hA : ∀ q : Nat, s.heap.size ≤ q → A q := fun q h => by rw [← hAe]; exact Or.inr h
  have hS : va_S A s.heap s.heap [] := va_S.rf
  have hl := lv_entry ([.ref h0, .int p0, .int p1, .int p2, .ref ho]) (n := 6) (Nat.le_of_ble_eq_true rfl)
  rw [lg_entry_eq]
  generalize (lg_sl ([.ref h0, .int p0, .int p1, .int p2, .ref ho]) ++ List.replicate (6 - (lg_sl ([.ref h0, .int p0, .int p1, .int p2, .ref ho])).length) Slot.unset).toArray = ls at hl ⊢
  have hl : lv_has ls 6 [(0, .ref h0), (1, .int p0), (2, .int p1), (3, .int p2), (4, .ref ho)] := hl
  refine lv_aload hx hb d_La_byteAt_0 (lv_at hl 4 rfl) ?_
  refine lv_iconst (v := 0) hx hb d_La_byteAt_2 (by decide) ?_
  refine lv_aload_n hx hb d_La_byteAt_3 rfl (lv_at hl 0 rfl) ?_
  refine lv_iload_n hx hb d_La_byteAt_4 rfl (lv_at hl 1 rfl) ?_
  refine lv_iload_n hx hb d_La_byteAt_5 rfl (lv_at hl 2 rfl) ?_
  refine lv_iload_n hx hb d_La_byteAt_6 rfl (lv_at hl 3 rfl) ?_
  refine xt_V (As := [.int p0, .int p1, .int p2]) (rest := [.int 0, .ref ho]) (n := 3) (wc := [(h0, .inr (0, [.ref (qa 0), .ref (qa 1), .ref (qa 2), .int 0]))]) (wr := [(ho, .inl (cj, 1, .inr (.inl (fun _ => 0))))]) (tc := [])  ⟨hx, hb, hml, hown, hts⟩ (c_OF_byteAt_g l htr D h0 qa p0 p1 p2 hk hg s.heap.size) rfl rfl w_333 w_330 w_331 w_332 w_1 (by decide +kernel) ⟨Nat.le_of_ble_eq_true rfl, Nat.le_of_ble_eq_true rfl⟩ hP hD hK hS hA hN hZ [0] [1] rfl rfl (by decide) (by decide) (by decide) [] rfl (ci := 0) (q0 := 0) (q := (R_OF, F_OF, 4)) rfl rfl rfl rfl hl.1 rfl (Nat.le_of_ble_eq_true rfl) d_La_byteAt_7 ⟨Nat.le_of_ble_eq_true rfl, Nat.le_of_ble_eq_true rfl⟩ (fun x H locs hxn hcell hP hD hS => ?_)
  refine WT.catch1 (pc' := 15) (nm := "java/lang/IndexOutOfBoundsException") hown (show c.exceptionTable.toList = [⟨0, 12, 15, 28⟩] from hE) rfl (by decide) rfl (hts _ w_298) hcell (va_tabs rfl rfl (hN.1 (.castable "java/lang/IndexOutOfBoundsException" "java/lang/IndexOutOfBoundsException") (by simp [xnF]))) ?_
  refine lv_astore (lv' := [(5, .ref x), (0, .ref h0), (1, .int p0), (2, .int p1), (3, .int p2), (4, .ref ho)]) hx hb d_La_byteAt_15 hl (by decide) rfl (fun ls hl => ?_)
  refine lv_iconst (v := 1) hx hb d_La_byteAt_17 (by decide) ?_
  exact xr_i hx hb hr hlocks hP hD hK hS (()) [0] rfl rfl (by decide) [0] rfl rfl d_La_byteAt_18

theorem d_La_symbol_0 : decode b_La_symbol 0 = .ok (.aload 4, 2) := by decide +kernel
theorem d_La_symbol_2 : decode b_La_symbol 2 = .ok (.iconst 0, 1) := by decide +kernel
theorem d_La_symbol_3 : decode b_La_symbol 3 = .ok (.aload_n 0, 1) := by decide +kernel
theorem d_La_symbol_4 : decode b_La_symbol 4 = .ok (.iload_n 1, 1) := by decide +kernel
theorem d_La_symbol_5 : decode b_La_symbol 5 = .ok (.iload_n 2, 1) := by decide +kernel
theorem d_La_symbol_6 : decode b_La_symbol 6 = .ok (.iload_n 3, 1) := by decide +kernel
theorem d_La_symbol_7 : decode b_La_symbol 7 = .ok (.invokevirtual 38, 3) := by decide +kernel
theorem d_La_symbol_15 : decode b_La_symbol 15 = .ok (.astore 5, 2) := by decide +kernel
theorem d_La_symbol_17 : decode b_La_symbol 17 = .ok (.iconst 1, 1) := by decide +kernel
theorem d_La_symbol_18 : decode b_La_symbol 18 = .ok (.ireturn, 1) := by decide +kernel
set_option maxHeartbeats 4000000 in
set_option maxRecDepth 100000 in
theorem c_La_symbol_n (l : Launch) (htr : l.stackTraces = false) (D : va_G) (h0 ho : Nat) (cj : ClassId) (qa : Nat → Nat) (qk : Nat → ClassId) (p0 p1 p2 : Int32) (hk : p0 < 0) (sz : Nat) : Met l y_La_symbol (Cond.codeWith y_La_symbol b_La_symbol 6 (some .int) [(0, 12, 15, 28)] :: bw) (xR 6 1 6) (va_Pc [.ref h0, .int p0, .int p1, .int p2, .ref ho] (xP D [(cj, .long)] sz [(h0, .inr (0, [.ref (qa 0), .ref (qa 1), .ref (qa 2), .int 0])), (ho, .inl (cj, 1, .inr (.inl (fun _ => 0))))])) (xQ (S := Unit) (fun _ => some (.int 1)) (fun _ => [(ho, .inl (cj, 1, .inr (.inl (fun _ => 0))))]) (fun _ => [(cj, .long)]) D (va_A [(h0, .inr (0, [.ref (qa 0), .ref (qa 1), .ref (qa 2), .int 0])), (ho, .inl (cj, 1, .inr (.inl (fun _ => 0))))] sz)) 1 6 (va_A [(h0, .inr (0, [.ref (qa 0), .ref (qa 1), .ref (qa 2), .int 0])), (ho, .inl (cj, 1, .inr (.inl (fun _ => 0))))] sz) := by
  refine MetE.ofW (hh := [(0, 12, 15, 28)]) (cc := b_La_symbol) (maxL := 6) (ret := (some .int)) (by decide) rfl ?_
  intro p e s m args below meth c s₁ B hml hE hv
  obtain ⟨rfl, hsz, hP, hK, hD0, hN, hZ⟩ := hv
  have hx := B.exec
  have hb := B.bytes
  have hr := B.returns
  have hlocks := B.notSynchronized
  have hts : ∀ w ∈ bw, w.before _ s = true := fun w h => atoms_spec (ws := Cond.codeWith y_La_symbol b_La_symbol 6 (some .int) [(0, 12, 15, 28)] :: bw) B.pre w (List.mem_cons_of_mem _ h)
  have hown : s.vm.findClass "ObjectForgeLaw" = some m.cls := findClass_of_methodNamed B.named
  subst hsz
  have hP0 := hP
  have hD := hD0.self (sz := s.heap.size)
  generalize hAe : va_A [(h0, .inr (0, [.ref (qa 0), .ref (qa 1), .ref (qa 2), .int 0])), (ho, .inl (cj, 1, .inr (.inl (fun _ => 0))))] s.heap.size = A at hD hZ ⊢
  have hA : ∀ q : Nat, s.heap.size ≤ q → A q := fun q h => by rw [← hAe]; exact Or.inr h
  have hS : va_S A s.heap s.heap [] := va_S.rf
  have hl := lv_entry ([.ref h0, .int p0, .int p1, .int p2, .ref ho]) (n := 6) (Nat.le_of_ble_eq_true rfl)
  rw [lg_entry_eq]
  generalize (lg_sl ([.ref h0, .int p0, .int p1, .int p2, .ref ho]) ++ List.replicate (6 - (lg_sl ([.ref h0, .int p0, .int p1, .int p2, .ref ho])).length) Slot.unset).toArray = ls at hl ⊢
  have hl : lv_has ls 6 [(0, .ref h0), (1, .int p0), (2, .int p1), (3, .int p2), (4, .ref ho)] := hl
  refine lv_aload hx hb d_La_symbol_0 (lv_at hl 4 rfl) ?_
  refine lv_iconst (v := 0) hx hb d_La_symbol_2 (by decide) ?_
  refine lv_aload_n hx hb d_La_symbol_3 rfl (lv_at hl 0 rfl) ?_
  refine lv_iload_n hx hb d_La_symbol_4 rfl (lv_at hl 1 rfl) ?_
  refine lv_iload_n hx hb d_La_symbol_5 rfl (lv_at hl 2 rfl) ?_
  refine lv_iload_n hx hb d_La_symbol_6 rfl (lv_at hl 3 rfl) ?_
  refine xt_V (As := [.int p0, .int p1, .int p2]) (rest := [.int 0, .ref ho]) (n := 3) (wc := [(h0, .inr (0, [.ref (qa 0), .ref (qa 1), .ref (qa 2), .int 0]))]) (wr := [(ho, .inl (cj, 1, .inr (.inl (fun _ => 0))))]) (tc := [])  ⟨hx, hb, hml, hown, hts⟩ (c_OF_symbol_n l htr D h0 qa p0 p1 p2 hk s.heap.size) rfl rfl w_340 w_337 w_338 w_339 w_1 (by decide +kernel) ⟨Nat.le_of_ble_eq_true rfl, Nat.le_of_ble_eq_true rfl⟩ hP hD hK hS hA hN hZ [0] [1] rfl rfl (by decide) (by decide) (by decide) [] rfl (ci := 0) (q0 := 0) (q := (R_OF, F_OF, 4)) rfl rfl rfl rfl hl.1 rfl (Nat.le_of_ble_eq_true rfl) d_La_symbol_7 ⟨Nat.le_of_ble_eq_true rfl, Nat.le_of_ble_eq_true rfl⟩ (fun x H locs hxn hcell hP hD hS => ?_)
  refine WT.catch1 (pc' := 15) (nm := "java/lang/IndexOutOfBoundsException") hown (show c.exceptionTable.toList = [⟨0, 12, 15, 28⟩] from hE) rfl (by decide) rfl (hts _ w_298) hcell (va_tabs rfl rfl (hN.1 (.castable "java/lang/IndexOutOfBoundsException" "java/lang/IndexOutOfBoundsException") (by simp [xnF]))) ?_
  refine lv_astore (lv' := [(5, .ref x), (0, .ref h0), (1, .int p0), (2, .int p1), (3, .int p2), (4, .ref ho)]) hx hb d_La_symbol_15 hl (by decide) rfl (fun ls hl => ?_)
  refine lv_iconst (v := 1) hx hb d_La_symbol_17 (by decide) ?_
  exact xr_i hx hb hr hlocks hP hD hK hS (()) [0] rfl rfl (by decide) [0] rfl rfl d_La_symbol_18

set_option maxHeartbeats 4000000 in
set_option maxRecDepth 100000 in
theorem c_La_symbol_g (l : Launch) (htr : l.stackTraces = false) (D : va_G) (h0 ho : Nat) (cj : ClassId) (qa : Nat → Nat) (qk : Nat → ClassId) (p0 p1 p2 : Int32) (hk : ¬ p0 < 0) (hg : ¬ p0 < 0) (sz : Nat) : Met l y_La_symbol (Cond.codeWith y_La_symbol b_La_symbol 6 (some .int) [(0, 12, 15, 28)] :: bw) (xR 6 1 6) (va_Pc [.ref h0, .int p0, .int p1, .int p2, .ref ho] (xP D [(cj, .long)] sz [(h0, .inr (0, [.ref (qa 0), .ref (qa 1), .ref (qa 2), .int 0])), (ho, .inl (cj, 1, .inr (.inl (fun _ => 0))))])) (xQ (S := Unit) (fun _ => some (.int 1)) (fun _ => [(ho, .inl (cj, 1, .inr (.inl (fun _ => 0))))]) (fun _ => [(cj, .long)]) D (va_A [(h0, .inr (0, [.ref (qa 0), .ref (qa 1), .ref (qa 2), .int 0])), (ho, .inl (cj, 1, .inr (.inl (fun _ => 0))))] sz)) 1 6 (va_A [(h0, .inr (0, [.ref (qa 0), .ref (qa 1), .ref (qa 2), .int 0])), (ho, .inl (cj, 1, .inr (.inl (fun _ => 0))))] sz) := by
  refine MetE.ofW (hh := [(0, 12, 15, 28)]) (cc := b_La_symbol) (maxL := 6) (ret := (some .int)) (by decide) rfl ?_
  intro p e s m args below meth c s₁ B hml hE hv
  obtain ⟨rfl, hsz, hP, hK, hD0, hN, hZ⟩ := hv
  have hx := B.exec
  have hb := B.bytes
  have hr := B.returns
  have hlocks := B.notSynchronized
  have hts : ∀ w ∈ bw, w.before _ s = true := fun w h => atoms_spec (ws := Cond.codeWith y_La_symbol b_La_symbol 6 (some .int) [(0, 12, 15, 28)] :: bw) B.pre w (List.mem_cons_of_mem _ h)
  have hown : s.vm.findClass "ObjectForgeLaw" = some m.cls := findClass_of_methodNamed B.named
  subst hsz
  have hP0 := hP
  have hD := hD0.self (sz := s.heap.size)
  generalize hAe : va_A [(h0, .inr (0, [.ref (qa 0), .ref (qa 1), .ref (qa 2), .int 0])), (ho, .inl (cj, 1, .inr (.inl (fun _ => 0))))] s.heap.size = A at hD hZ ⊢
  have hA : ∀ q : Nat, s.heap.size ≤ q → A q := fun q h => by rw [← hAe]; exact Or.inr h
  have hS : va_S A s.heap s.heap [] := va_S.rf
  have hl := lv_entry ([.ref h0, .int p0, .int p1, .int p2, .ref ho]) (n := 6) (Nat.le_of_ble_eq_true rfl)
  rw [lg_entry_eq]
  generalize (lg_sl ([.ref h0, .int p0, .int p1, .int p2, .ref ho]) ++ List.replicate (6 - (lg_sl ([.ref h0, .int p0, .int p1, .int p2, .ref ho])).length) Slot.unset).toArray = ls at hl ⊢
  have hl : lv_has ls 6 [(0, .ref h0), (1, .int p0), (2, .int p1), (3, .int p2), (4, .ref ho)] := hl
  refine lv_aload hx hb d_La_symbol_0 (lv_at hl 4 rfl) ?_
  refine lv_iconst (v := 0) hx hb d_La_symbol_2 (by decide) ?_
  refine lv_aload_n hx hb d_La_symbol_3 rfl (lv_at hl 0 rfl) ?_
  refine lv_iload_n hx hb d_La_symbol_4 rfl (lv_at hl 1 rfl) ?_
  refine lv_iload_n hx hb d_La_symbol_5 rfl (lv_at hl 2 rfl) ?_
  refine lv_iload_n hx hb d_La_symbol_6 rfl (lv_at hl 3 rfl) ?_
  refine xt_V (As := [.int p0, .int p1, .int p2]) (rest := [.int 0, .ref ho]) (n := 3) (wc := [(h0, .inr (0, [.ref (qa 0), .ref (qa 1), .ref (qa 2), .int 0]))]) (wr := [(ho, .inl (cj, 1, .inr (.inl (fun _ => 0))))]) (tc := [])  ⟨hx, hb, hml, hown, hts⟩ (c_OF_symbol_g l htr D h0 qa p0 p1 p2 hk hg s.heap.size) rfl rfl w_340 w_337 w_338 w_339 w_1 (by decide +kernel) ⟨Nat.le_of_ble_eq_true rfl, Nat.le_of_ble_eq_true rfl⟩ hP hD hK hS hA hN hZ [0] [1] rfl rfl (by decide) (by decide) (by decide) [] rfl (ci := 0) (q0 := 0) (q := (R_OF, F_OF, 4)) rfl rfl rfl rfl hl.1 rfl (Nat.le_of_ble_eq_true rfl) d_La_symbol_7 ⟨Nat.le_of_ble_eq_true rfl, Nat.le_of_ble_eq_true rfl⟩ (fun x H locs hxn hcell hP hD hS => ?_)
  refine WT.catch1 (pc' := 15) (nm := "java/lang/IndexOutOfBoundsException") hown (show c.exceptionTable.toList = [⟨0, 12, 15, 28⟩] from hE) rfl (by decide) rfl (hts _ w_298) hcell (va_tabs rfl rfl (hN.1 (.castable "java/lang/IndexOutOfBoundsException" "java/lang/IndexOutOfBoundsException") (by simp [xnF]))) ?_
  refine lv_astore (lv' := [(5, .ref x), (0, .ref h0), (1, .int p0), (2, .int p1), (3, .int p2), (4, .ref ho)]) hx hb d_La_symbol_15 hl (by decide) rfl (fun ls hl => ?_)
  refine lv_iconst (v := 1) hx hb d_La_symbol_17 (by decide) ?_
  exact xr_i hx hb hr hlocks hP hD hK hS (()) [0] rfl rfl (by decide) [0] rfl rfl d_La_symbol_18

theorem d_La_letter_0 : decode b_La_letter 0 = .ok (.aload 4, 2) := by decide +kernel
theorem d_La_letter_2 : decode b_La_letter 2 = .ok (.iconst 0, 1) := by decide +kernel
theorem d_La_letter_3 : decode b_La_letter 3 = .ok (.aload_n 0, 1) := by decide +kernel
theorem d_La_letter_4 : decode b_La_letter 4 = .ok (.iload_n 1, 1) := by decide +kernel
theorem d_La_letter_5 : decode b_La_letter 5 = .ok (.iload_n 2, 1) := by decide +kernel
theorem d_La_letter_6 : decode b_La_letter 6 = .ok (.iload_n 3, 1) := by decide +kernel
theorem d_La_letter_7 : decode b_La_letter 7 = .ok (.invokevirtual 41, 3) := by decide +kernel
theorem d_La_letter_15 : decode b_La_letter 15 = .ok (.astore 5, 2) := by decide +kernel
theorem d_La_letter_17 : decode b_La_letter 17 = .ok (.iconst 1, 1) := by decide +kernel
theorem d_La_letter_18 : decode b_La_letter 18 = .ok (.ireturn, 1) := by decide +kernel
set_option maxHeartbeats 4000000 in
set_option maxRecDepth 100000 in
theorem c_La_letter_n (l : Launch) (htr : l.stackTraces = false) (D : va_G) (h0 ho : Nat) (cj : ClassId) (qa : Nat → Nat) (qk : Nat → ClassId) (p0 p1 p2 : Int32) (hk : p0 < 0) (sz : Nat) : Met l y_La_letter (Cond.codeWith y_La_letter b_La_letter 6 (some .int) [(0, 12, 15, 28)] :: bw) (xR 6 1 6) (va_Pc [.ref h0, .int p0, .int p1, .int p2, .ref ho] (xP D [(cj, .long)] sz [(h0, .inr (0, [.ref (qa 0), .ref (qa 1), .ref (qa 2), .int 0])), (ho, .inl (cj, 1, .inr (.inl (fun _ => 0))))])) (xQ (S := Unit) (fun _ => some (.int 1)) (fun _ => [(ho, .inl (cj, 1, .inr (.inl (fun _ => 0))))]) (fun _ => [(cj, .long)]) D (va_A [(h0, .inr (0, [.ref (qa 0), .ref (qa 1), .ref (qa 2), .int 0])), (ho, .inl (cj, 1, .inr (.inl (fun _ => 0))))] sz)) 1 6 (va_A [(h0, .inr (0, [.ref (qa 0), .ref (qa 1), .ref (qa 2), .int 0])), (ho, .inl (cj, 1, .inr (.inl (fun _ => 0))))] sz) := by
  refine MetE.ofW (hh := [(0, 12, 15, 28)]) (cc := b_La_letter) (maxL := 6) (ret := (some .int)) (by decide) rfl ?_
  intro p e s m args below meth c s₁ B hml hE hv
  obtain ⟨rfl, hsz, hP, hK, hD0, hN, hZ⟩ := hv
  have hx := B.exec
  have hb := B.bytes
  have hr := B.returns
  have hlocks := B.notSynchronized
  have hts : ∀ w ∈ bw, w.before _ s = true := fun w h => atoms_spec (ws := Cond.codeWith y_La_letter b_La_letter 6 (some .int) [(0, 12, 15, 28)] :: bw) B.pre w (List.mem_cons_of_mem _ h)
  have hown : s.vm.findClass "ObjectForgeLaw" = some m.cls := findClass_of_methodNamed B.named
  subst hsz
  have hP0 := hP
  have hD := hD0.self (sz := s.heap.size)
  generalize hAe : va_A [(h0, .inr (0, [.ref (qa 0), .ref (qa 1), .ref (qa 2), .int 0])), (ho, .inl (cj, 1, .inr (.inl (fun _ => 0))))] s.heap.size = A at hD hZ ⊢
  have hA : ∀ q : Nat, s.heap.size ≤ q → A q := fun q h => by rw [← hAe]; exact Or.inr h
  have hS : va_S A s.heap s.heap [] := va_S.rf
  have hl := lv_entry ([.ref h0, .int p0, .int p1, .int p2, .ref ho]) (n := 6) (Nat.le_of_ble_eq_true rfl)
  rw [lg_entry_eq]
  generalize (lg_sl ([.ref h0, .int p0, .int p1, .int p2, .ref ho]) ++ List.replicate (6 - (lg_sl ([.ref h0, .int p0, .int p1, .int p2, .ref ho])).length) Slot.unset).toArray = ls at hl ⊢
  have hl : lv_has ls 6 [(0, .ref h0), (1, .int p0), (2, .int p1), (3, .int p2), (4, .ref ho)] := hl
  refine lv_aload hx hb d_La_letter_0 (lv_at hl 4 rfl) ?_
  refine lv_iconst (v := 0) hx hb d_La_letter_2 (by decide) ?_
  refine lv_aload_n hx hb d_La_letter_3 rfl (lv_at hl 0 rfl) ?_
  refine lv_iload_n hx hb d_La_letter_4 rfl (lv_at hl 1 rfl) ?_
  refine lv_iload_n hx hb d_La_letter_5 rfl (lv_at hl 2 rfl) ?_
  refine lv_iload_n hx hb d_La_letter_6 rfl (lv_at hl 3 rfl) ?_
  refine xt_V (As := [.int p0, .int p1, .int p2]) (rest := [.int 0, .ref ho]) (n := 3) (wc := [(h0, .inr (0, [.ref (qa 0), .ref (qa 1), .ref (qa 2), .int 0]))]) (wr := [(ho, .inl (cj, 1, .inr (.inl (fun _ => 0))))]) (tc := [])  ⟨hx, hb, hml, hown, hts⟩ (c_OF_letter_n l htr D h0 qa p0 p1 p2 hk s.heap.size) rfl rfl w_347 w_344 w_345 w_346 w_1 (by decide +kernel) ⟨Nat.le_of_ble_eq_true rfl, Nat.le_of_ble_eq_true rfl⟩ hP hD hK hS hA hN hZ [0] [1] rfl rfl (by decide) (by decide) (by decide) [] rfl (ci := 0) (q0 := 0) (q := (R_OF, F_OF, 4)) rfl rfl rfl rfl hl.1 rfl (Nat.le_of_ble_eq_true rfl) d_La_letter_7 ⟨Nat.le_of_ble_eq_true rfl, Nat.le_of_ble_eq_true rfl⟩ (fun x H locs hxn hcell hP hD hS => ?_)
  refine WT.catch1 (pc' := 15) (nm := "java/lang/IndexOutOfBoundsException") hown (show c.exceptionTable.toList = [⟨0, 12, 15, 28⟩] from hE) rfl (by decide) rfl (hts _ w_298) hcell (va_tabs rfl rfl (hN.1 (.castable "java/lang/IndexOutOfBoundsException" "java/lang/IndexOutOfBoundsException") (by simp [xnF]))) ?_
  refine lv_astore (lv' := [(5, .ref x), (0, .ref h0), (1, .int p0), (2, .int p1), (3, .int p2), (4, .ref ho)]) hx hb d_La_letter_15 hl (by decide) rfl (fun ls hl => ?_)
  refine lv_iconst (v := 1) hx hb d_La_letter_17 (by decide) ?_
  exact xr_i hx hb hr hlocks hP hD hK hS (()) [0] rfl rfl (by decide) [0] rfl rfl d_La_letter_18

set_option maxHeartbeats 4000000 in
set_option maxRecDepth 100000 in
theorem c_La_letter_g (l : Launch) (htr : l.stackTraces = false) (D : va_G) (h0 ho : Nat) (cj : ClassId) (qa : Nat → Nat) (qk : Nat → ClassId) (p0 p1 p2 : Int32) (hk : ¬ p0 < 0) (hg : ¬ p0 < 0) (sz : Nat) : Met l y_La_letter (Cond.codeWith y_La_letter b_La_letter 6 (some .int) [(0, 12, 15, 28)] :: bw) (xR 6 1 6) (va_Pc [.ref h0, .int p0, .int p1, .int p2, .ref ho] (xP D [(cj, .long)] sz [(h0, .inr (0, [.ref (qa 0), .ref (qa 1), .ref (qa 2), .int 0])), (ho, .inl (cj, 1, .inr (.inl (fun _ => 0))))])) (xQ (S := Unit) (fun _ => some (.int 1)) (fun _ => [(ho, .inl (cj, 1, .inr (.inl (fun _ => 0))))]) (fun _ => [(cj, .long)]) D (va_A [(h0, .inr (0, [.ref (qa 0), .ref (qa 1), .ref (qa 2), .int 0])), (ho, .inl (cj, 1, .inr (.inl (fun _ => 0))))] sz)) 1 6 (va_A [(h0, .inr (0, [.ref (qa 0), .ref (qa 1), .ref (qa 2), .int 0])), (ho, .inl (cj, 1, .inr (.inl (fun _ => 0))))] sz) := by
  refine MetE.ofW (hh := [(0, 12, 15, 28)]) (cc := b_La_letter) (maxL := 6) (ret := (some .int)) (by decide) rfl ?_
  intro p e s m args below meth c s₁ B hml hE hv
  obtain ⟨rfl, hsz, hP, hK, hD0, hN, hZ⟩ := hv
  have hx := B.exec
  have hb := B.bytes
  have hr := B.returns
  have hlocks := B.notSynchronized
  have hts : ∀ w ∈ bw, w.before _ s = true := fun w h => atoms_spec (ws := Cond.codeWith y_La_letter b_La_letter 6 (some .int) [(0, 12, 15, 28)] :: bw) B.pre w (List.mem_cons_of_mem _ h)
  have hown : s.vm.findClass "ObjectForgeLaw" = some m.cls := findClass_of_methodNamed B.named
  subst hsz
  have hP0 := hP
  have hD := hD0.self (sz := s.heap.size)
  generalize hAe : va_A [(h0, .inr (0, [.ref (qa 0), .ref (qa 1), .ref (qa 2), .int 0])), (ho, .inl (cj, 1, .inr (.inl (fun _ => 0))))] s.heap.size = A at hD hZ ⊢
  have hA : ∀ q : Nat, s.heap.size ≤ q → A q := fun q h => by rw [← hAe]; exact Or.inr h
  have hS : va_S A s.heap s.heap [] := va_S.rf
  have hl := lv_entry ([.ref h0, .int p0, .int p1, .int p2, .ref ho]) (n := 6) (Nat.le_of_ble_eq_true rfl)
  rw [lg_entry_eq]
  generalize (lg_sl ([.ref h0, .int p0, .int p1, .int p2, .ref ho]) ++ List.replicate (6 - (lg_sl ([.ref h0, .int p0, .int p1, .int p2, .ref ho])).length) Slot.unset).toArray = ls at hl ⊢
  have hl : lv_has ls 6 [(0, .ref h0), (1, .int p0), (2, .int p1), (3, .int p2), (4, .ref ho)] := hl
  refine lv_aload hx hb d_La_letter_0 (lv_at hl 4 rfl) ?_
  refine lv_iconst (v := 0) hx hb d_La_letter_2 (by decide) ?_
  refine lv_aload_n hx hb d_La_letter_3 rfl (lv_at hl 0 rfl) ?_
  refine lv_iload_n hx hb d_La_letter_4 rfl (lv_at hl 1 rfl) ?_
  refine lv_iload_n hx hb d_La_letter_5 rfl (lv_at hl 2 rfl) ?_
  refine lv_iload_n hx hb d_La_letter_6 rfl (lv_at hl 3 rfl) ?_
  refine xt_V (As := [.int p0, .int p1, .int p2]) (rest := [.int 0, .ref ho]) (n := 3) (wc := [(h0, .inr (0, [.ref (qa 0), .ref (qa 1), .ref (qa 2), .int 0]))]) (wr := [(ho, .inl (cj, 1, .inr (.inl (fun _ => 0))))]) (tc := [])  ⟨hx, hb, hml, hown, hts⟩ (c_OF_letter_g l htr D h0 qa p0 p1 p2 hk hg s.heap.size) rfl rfl w_347 w_344 w_345 w_346 w_1 (by decide +kernel) ⟨Nat.le_of_ble_eq_true rfl, Nat.le_of_ble_eq_true rfl⟩ hP hD hK hS hA hN hZ [0] [1] rfl rfl (by decide) (by decide) (by decide) [] rfl (ci := 0) (q0 := 0) (q := (R_OF, F_OF, 4)) rfl rfl rfl rfl hl.1 rfl (Nat.le_of_ble_eq_true rfl) d_La_letter_7 ⟨Nat.le_of_ble_eq_true rfl, Nat.le_of_ble_eq_true rfl⟩ (fun x H locs hxn hcell hP hD hS => ?_)
  refine WT.catch1 (pc' := 15) (nm := "java/lang/IndexOutOfBoundsException") hown (show c.exceptionTable.toList = [⟨0, 12, 15, 28⟩] from hE) rfl (by decide) rfl (hts _ w_298) hcell (va_tabs rfl rfl (hN.1 (.castable "java/lang/IndexOutOfBoundsException" "java/lang/IndexOutOfBoundsException") (by simp [xnF]))) ?_
  refine lv_astore (lv' := [(5, .ref x), (0, .ref h0), (1, .int p0), (2, .int p1), (3, .int p2), (4, .ref ho)]) hx hb d_La_letter_15 hl (by decide) rfl (fun ls hl => ?_)
  refine lv_iconst (v := 1) hx hb d_La_letter_17 (by decide) ?_
  exact xr_i hx hb hr hlocks hP hD hK hS (()) [0] rfl rfl (by decide) [0] rfl rfl d_La_letter_18

theorem d_La_relocation_0 : decode b_La_relocation 0 = .ok (.aload 4, 2) := by decide +kernel
theorem d_La_relocation_2 : decode b_La_relocation 2 = .ok (.iconst 0, 1) := by decide +kernel
theorem d_La_relocation_3 : decode b_La_relocation 3 = .ok (.aload_n 0, 1) := by decide +kernel
theorem d_La_relocation_4 : decode b_La_relocation 4 = .ok (.iload_n 1, 1) := by decide +kernel
theorem d_La_relocation_5 : decode b_La_relocation 5 = .ok (.iload_n 2, 1) := by decide +kernel
theorem d_La_relocation_6 : decode b_La_relocation 6 = .ok (.iload_n 3, 1) := by decide +kernel
theorem d_La_relocation_7 : decode b_La_relocation 7 = .ok (.invokevirtual 44, 3) := by decide +kernel
theorem d_La_relocation_15 : decode b_La_relocation 15 = .ok (.astore 5, 2) := by decide +kernel
theorem d_La_relocation_17 : decode b_La_relocation 17 = .ok (.iconst 1, 1) := by decide +kernel
theorem d_La_relocation_18 : decode b_La_relocation 18 = .ok (.ireturn, 1) := by decide +kernel
set_option maxHeartbeats 4000000 in
set_option maxRecDepth 100000 in
theorem c_La_relocation_n (l : Launch) (htr : l.stackTraces = false) (D : va_G) (h0 ho : Nat) (cj : ClassId) (qa : Nat → Nat) (qk : Nat → ClassId) (p0 p1 p2 : Int32) (hk : p0 < 0) (sz : Nat) : Met l y_La_relocation (Cond.codeWith y_La_relocation b_La_relocation 6 (some .int) [(0, 12, 15, 28)] :: bw) (xR 6 1 6) (va_Pc [.ref h0, .int p0, .int p1, .int p2, .ref ho] (xP D [(cj, .long)] sz [(h0, .inr (0, [.ref (qa 0), .ref (qa 1), .ref (qa 2), .int 0])), (ho, .inl (cj, 1, .inr (.inl (fun _ => 0))))])) (xQ (S := Unit) (fun _ => some (.int 1)) (fun _ => [(ho, .inl (cj, 1, .inr (.inl (fun _ => 0))))]) (fun _ => [(cj, .long)]) D (va_A [(h0, .inr (0, [.ref (qa 0), .ref (qa 1), .ref (qa 2), .int 0])), (ho, .inl (cj, 1, .inr (.inl (fun _ => 0))))] sz)) 1 6 (va_A [(h0, .inr (0, [.ref (qa 0), .ref (qa 1), .ref (qa 2), .int 0])), (ho, .inl (cj, 1, .inr (.inl (fun _ => 0))))] sz) := by
  refine MetE.ofW (hh := [(0, 12, 15, 28)]) (cc := b_La_relocation) (maxL := 6) (ret := (some .int)) (by decide) rfl ?_
  intro p e s m args below meth c s₁ B hml hE hv
  obtain ⟨rfl, hsz, hP, hK, hD0, hN, hZ⟩ := hv
  have hx := B.exec
  have hb := B.bytes
  have hr := B.returns
  have hlocks := B.notSynchronized
  have hts : ∀ w ∈ bw, w.before _ s = true := fun w h => atoms_spec (ws := Cond.codeWith y_La_relocation b_La_relocation 6 (some .int) [(0, 12, 15, 28)] :: bw) B.pre w (List.mem_cons_of_mem _ h)
  have hown : s.vm.findClass "ObjectForgeLaw" = some m.cls := findClass_of_methodNamed B.named
  subst hsz
  have hP0 := hP
  have hD := hD0.self (sz := s.heap.size)
  generalize hAe : va_A [(h0, .inr (0, [.ref (qa 0), .ref (qa 1), .ref (qa 2), .int 0])), (ho, .inl (cj, 1, .inr (.inl (fun _ => 0))))] s.heap.size = A at hD hZ ⊢
  have hA : ∀ q : Nat, s.heap.size ≤ q → A q := fun q h => by rw [← hAe]; exact Or.inr h
  have hS : va_S A s.heap s.heap [] := va_S.rf
  have hl := lv_entry ([.ref h0, .int p0, .int p1, .int p2, .ref ho]) (n := 6) (Nat.le_of_ble_eq_true rfl)
  rw [lg_entry_eq]
  generalize (lg_sl ([.ref h0, .int p0, .int p1, .int p2, .ref ho]) ++ List.replicate (6 - (lg_sl ([.ref h0, .int p0, .int p1, .int p2, .ref ho])).length) Slot.unset).toArray = ls at hl ⊢
  have hl : lv_has ls 6 [(0, .ref h0), (1, .int p0), (2, .int p1), (3, .int p2), (4, .ref ho)] := hl
  refine lv_aload hx hb d_La_relocation_0 (lv_at hl 4 rfl) ?_
  refine lv_iconst (v := 0) hx hb d_La_relocation_2 (by decide) ?_
  refine lv_aload_n hx hb d_La_relocation_3 rfl (lv_at hl 0 rfl) ?_
  refine lv_iload_n hx hb d_La_relocation_4 rfl (lv_at hl 1 rfl) ?_
  refine lv_iload_n hx hb d_La_relocation_5 rfl (lv_at hl 2 rfl) ?_
  refine lv_iload_n hx hb d_La_relocation_6 rfl (lv_at hl 3 rfl) ?_
  refine xt_V (As := [.int p0, .int p1, .int p2]) (rest := [.int 0, .ref ho]) (n := 3) (wc := [(h0, .inr (0, [.ref (qa 0), .ref (qa 1), .ref (qa 2), .int 0]))]) (wr := [(ho, .inl (cj, 1, .inr (.inl (fun _ => 0))))]) (tc := [])  ⟨hx, hb, hml, hown, hts⟩ (c_OF_relocation_n l htr D h0 qa p0 p1 p2 hk s.heap.size) rfl rfl w_354 w_351 w_352 w_353 w_1 (by decide +kernel) ⟨Nat.le_of_ble_eq_true rfl, Nat.le_of_ble_eq_true rfl⟩ hP hD hK hS hA hN hZ [0] [1] rfl rfl (by decide) (by decide) (by decide) [] rfl (ci := 0) (q0 := 0) (q := (R_OF, F_OF, 4)) rfl rfl rfl rfl hl.1 rfl (Nat.le_of_ble_eq_true rfl) d_La_relocation_7 ⟨Nat.le_of_ble_eq_true rfl, Nat.le_of_ble_eq_true rfl⟩ (fun x H locs hxn hcell hP hD hS => ?_)
  refine WT.catch1 (pc' := 15) (nm := "java/lang/IndexOutOfBoundsException") hown (show c.exceptionTable.toList = [⟨0, 12, 15, 28⟩] from hE) rfl (by decide) rfl (hts _ w_298) hcell (va_tabs rfl rfl (hN.1 (.castable "java/lang/IndexOutOfBoundsException" "java/lang/IndexOutOfBoundsException") (by simp [xnF]))) ?_
  refine lv_astore (lv' := [(5, .ref x), (0, .ref h0), (1, .int p0), (2, .int p1), (3, .int p2), (4, .ref ho)]) hx hb d_La_relocation_15 hl (by decide) rfl (fun ls hl => ?_)
  refine lv_iconst (v := 1) hx hb d_La_relocation_17 (by decide) ?_
  exact xr_i hx hb hr hlocks hP hD hK hS (()) [0] rfl rfl (by decide) [0] rfl rfl d_La_relocation_18

set_option maxHeartbeats 4000000 in
set_option maxRecDepth 100000 in
theorem c_La_relocation_g (l : Launch) (htr : l.stackTraces = false) (D : va_G) (h0 ho : Nat) (cj : ClassId) (qa : Nat → Nat) (qk : Nat → ClassId) (p0 p1 p2 : Int32) (hk : ¬ p0 < 0) (hg : ¬ p0 < 0) (sz : Nat) : Met l y_La_relocation (Cond.codeWith y_La_relocation b_La_relocation 6 (some .int) [(0, 12, 15, 28)] :: bw) (xR 6 1 6) (va_Pc [.ref h0, .int p0, .int p1, .int p2, .ref ho] (xP D [(cj, .long)] sz [(h0, .inr (0, [.ref (qa 0), .ref (qa 1), .ref (qa 2), .int 0])), (ho, .inl (cj, 1, .inr (.inl (fun _ => 0))))])) (xQ (S := Unit) (fun _ => some (.int 1)) (fun _ => [(ho, .inl (cj, 1, .inr (.inl (fun _ => 0))))]) (fun _ => [(cj, .long)]) D (va_A [(h0, .inr (0, [.ref (qa 0), .ref (qa 1), .ref (qa 2), .int 0])), (ho, .inl (cj, 1, .inr (.inl (fun _ => 0))))] sz)) 1 6 (va_A [(h0, .inr (0, [.ref (qa 0), .ref (qa 1), .ref (qa 2), .int 0])), (ho, .inl (cj, 1, .inr (.inl (fun _ => 0))))] sz) := by
  refine MetE.ofW (hh := [(0, 12, 15, 28)]) (cc := b_La_relocation) (maxL := 6) (ret := (some .int)) (by decide) rfl ?_
  intro p e s m args below meth c s₁ B hml hE hv
  obtain ⟨rfl, hsz, hP, hK, hD0, hN, hZ⟩ := hv
  have hx := B.exec
  have hb := B.bytes
  have hr := B.returns
  have hlocks := B.notSynchronized
  have hts : ∀ w ∈ bw, w.before _ s = true := fun w h => atoms_spec (ws := Cond.codeWith y_La_relocation b_La_relocation 6 (some .int) [(0, 12, 15, 28)] :: bw) B.pre w (List.mem_cons_of_mem _ h)
  have hown : s.vm.findClass "ObjectForgeLaw" = some m.cls := findClass_of_methodNamed B.named
  subst hsz
  have hP0 := hP
  have hD := hD0.self (sz := s.heap.size)
  generalize hAe : va_A [(h0, .inr (0, [.ref (qa 0), .ref (qa 1), .ref (qa 2), .int 0])), (ho, .inl (cj, 1, .inr (.inl (fun _ => 0))))] s.heap.size = A at hD hZ ⊢
  have hA : ∀ q : Nat, s.heap.size ≤ q → A q := fun q h => by rw [← hAe]; exact Or.inr h
  have hS : va_S A s.heap s.heap [] := va_S.rf
  have hl := lv_entry ([.ref h0, .int p0, .int p1, .int p2, .ref ho]) (n := 6) (Nat.le_of_ble_eq_true rfl)
  rw [lg_entry_eq]
  generalize (lg_sl ([.ref h0, .int p0, .int p1, .int p2, .ref ho]) ++ List.replicate (6 - (lg_sl ([.ref h0, .int p0, .int p1, .int p2, .ref ho])).length) Slot.unset).toArray = ls at hl ⊢
  have hl : lv_has ls 6 [(0, .ref h0), (1, .int p0), (2, .int p1), (3, .int p2), (4, .ref ho)] := hl
  refine lv_aload hx hb d_La_relocation_0 (lv_at hl 4 rfl) ?_
  refine lv_iconst (v := 0) hx hb d_La_relocation_2 (by decide) ?_
  refine lv_aload_n hx hb d_La_relocation_3 rfl (lv_at hl 0 rfl) ?_
  refine lv_iload_n hx hb d_La_relocation_4 rfl (lv_at hl 1 rfl) ?_
  refine lv_iload_n hx hb d_La_relocation_5 rfl (lv_at hl 2 rfl) ?_
  refine lv_iload_n hx hb d_La_relocation_6 rfl (lv_at hl 3 rfl) ?_
  refine xt_V (As := [.int p0, .int p1, .int p2]) (rest := [.int 0, .ref ho]) (n := 3) (wc := [(h0, .inr (0, [.ref (qa 0), .ref (qa 1), .ref (qa 2), .int 0]))]) (wr := [(ho, .inl (cj, 1, .inr (.inl (fun _ => 0))))]) (tc := [])  ⟨hx, hb, hml, hown, hts⟩ (c_OF_relocation_g l htr D h0 qa p0 p1 p2 hk hg s.heap.size) rfl rfl w_354 w_351 w_352 w_353 w_1 (by decide +kernel) ⟨Nat.le_of_ble_eq_true rfl, Nat.le_of_ble_eq_true rfl⟩ hP hD hK hS hA hN hZ [0] [1] rfl rfl (by decide) (by decide) (by decide) [] rfl (ci := 0) (q0 := 0) (q := (R_OF, F_OF, 4)) rfl rfl rfl rfl hl.1 rfl (Nat.le_of_ble_eq_true rfl) d_La_relocation_7 ⟨Nat.le_of_ble_eq_true rfl, Nat.le_of_ble_eq_true rfl⟩ (fun x H locs hxn hcell hP hD hS => ?_)
  refine WT.catch1 (pc' := 15) (nm := "java/lang/IndexOutOfBoundsException") hown (show c.exceptionTable.toList = [⟨0, 12, 15, 28⟩] from hE) rfl (by decide) rfl (hts _ w_298) hcell (va_tabs rfl rfl (hN.1 (.castable "java/lang/IndexOutOfBoundsException" "java/lang/IndexOutOfBoundsException") (by simp [xnF]))) ?_
  refine lv_astore (lv' := [(5, .ref x), (0, .ref h0), (1, .int p0), (2, .int p1), (3, .int p2), (4, .ref ho)]) hx hb d_La_relocation_15 hl (by decide) rfl (fun ls hl => ?_)
  refine lv_iconst (v := 1) hx hb d_La_relocation_17 (by decide) ?_
  exact xr_i hx hb hr hlocks hP hD hK hS (()) [0] rfl rfl (by decide) [0] rfl rfl d_La_relocation_18

theorem d_La_address_0 : decode b_La_address 0 = .ok (.aload_n 3, 1) := by decide +kernel
theorem d_La_address_1 : decode b_La_address 1 = .ok (.iconst 0, 1) := by decide +kernel
theorem d_La_address_2 : decode b_La_address 2 = .ok (.aload_n 0, 1) := by decide +kernel
theorem d_La_address_3 : decode b_La_address 3 = .ok (.iload_n 1, 1) := by decide +kernel
theorem d_La_address_4 : decode b_La_address 4 = .ok (.iload_n 2, 1) := by decide +kernel
theorem d_La_address_5 : decode b_La_address 5 = .ok (.invokevirtual 53, 3) := by decide +kernel
theorem d_La_address_13 : decode b_La_address 13 = .ok (.astore 4, 2) := by decide +kernel
theorem d_La_address_15 : decode b_La_address 15 = .ok (.iconst 1, 1) := by decide +kernel
theorem d_La_address_16 : decode b_La_address 16 = .ok (.ireturn, 1) := by decide +kernel
set_option maxHeartbeats 4000000 in
set_option maxRecDepth 100000 in
theorem c_La_address_n (l : Launch) (htr : l.stackTraces = false) (D : va_G) (h0 ho : Nat) (cj : ClassId) (qa : Nat → Nat) (qk : Nat → ClassId) (p0 p1 : Int32) (hk : p0 < 0) (sz : Nat) : Met l y_La_address (Cond.codeWith y_La_address b_La_address 5 (some .int) [(0, 10, 13, 28), (0, 10, 17, 13)] :: bw) (xR 6 1 6) (va_Pc [.ref h0, .int p0, .int p1, .ref ho] (xP D [(cj, .long)] sz [(h0, .inr (0, [.ref (qa 0), .ref (qa 1), .ref (qa 2), .int 0])), (ho, .inl (cj, 1, .inr (.inl (fun _ => 0))))])) (xQ (S := Unit) (fun _ => some (.int 1)) (fun _ => [(ho, .inl (cj, 1, .inr (.inl (fun _ => 0))))]) (fun _ => [(cj, .long)]) D (va_A [(h0, .inr (0, [.ref (qa 0), .ref (qa 1), .ref (qa 2), .int 0])), (ho, .inl (cj, 1, .inr (.inl (fun _ => 0))))] sz)) 1 6 (va_A [(h0, .inr (0, [.ref (qa 0), .ref (qa 1), .ref (qa 2), .int 0])), (ho, .inl (cj, 1, .inr (.inl (fun _ => 0))))] sz) := by
  refine MetE.ofW (hh := [(0, 10, 13, 28), (0, 10, 17, 13)]) (cc := b_La_address) (maxL := 5) (ret := (some .int)) (by decide) rfl ?_
  intro p e s m args below meth c s₁ B hml hE hv
  obtain ⟨rfl, hsz, hP, hK, hD0, hN, hZ⟩ := hv
  have hx := B.exec
  have hb := B.bytes
  have hr := B.returns
  have hlocks := B.notSynchronized
  have hts : ∀ w ∈ bw, w.before _ s = true := fun w h => atoms_spec (ws := Cond.codeWith y_La_address b_La_address 5 (some .int) [(0, 10, 13, 28), (0, 10, 17, 13)] :: bw) B.pre w (List.mem_cons_of_mem _ h)
  have hown : s.vm.findClass "ObjectForgeLaw" = some m.cls := findClass_of_methodNamed B.named
  subst hsz
  have hP0 := hP
  have hD := hD0.self (sz := s.heap.size)
  generalize hAe : va_A [(h0, .inr (0, [.ref (qa 0), .ref (qa 1), .ref (qa 2), .int 0])), (ho, .inl (cj, 1, .inr (.inl (fun _ => 0))))] s.heap.size = A at hD hZ ⊢
  have hA : ∀ q : Nat, s.heap.size ≤ q → A q := fun q h => by rw [← hAe]; exact Or.inr h
  have hS : va_S A s.heap s.heap [] := va_S.rf
  have hl := lv_entry ([.ref h0, .int p0, .int p1, .ref ho]) (n := 5) (Nat.le_of_ble_eq_true rfl)
  rw [lg_entry_eq]
  generalize (lg_sl ([.ref h0, .int p0, .int p1, .ref ho]) ++ List.replicate (5 - (lg_sl ([.ref h0, .int p0, .int p1, .ref ho])).length) Slot.unset).toArray = ls at hl ⊢
  have hl : lv_has ls 5 [(0, .ref h0), (1, .int p0), (2, .int p1), (3, .ref ho)] := hl
  refine lv_aload_n hx hb d_La_address_0 rfl (lv_at hl 3 rfl) ?_
  refine lv_iconst (v := 0) hx hb d_La_address_1 (by decide) ?_
  refine lv_aload_n hx hb d_La_address_2 rfl (lv_at hl 0 rfl) ?_
  refine lv_iload_n hx hb d_La_address_3 rfl (lv_at hl 1 rfl) ?_
  refine lv_iload_n hx hb d_La_address_4 rfl (lv_at hl 2 rfl) ?_
  refine xt_V (As := [.int p0, .int p1]) (rest := [.int 0, .ref ho]) (n := 2) (wc := [(h0, .inr (0, [.ref (qa 0), .ref (qa 1), .ref (qa 2), .int 0]))]) (wr := [(ho, .inl (cj, 1, .inr (.inl (fun _ => 0))))]) (tc := [])  ⟨hx, hb, hml, hown, hts⟩ (c_OF_address_n l htr D h0 qa p0 p1 hk s.heap.size) rfl rfl w_381 w_378 w_379 w_380 w_1 (by decide +kernel) ⟨Nat.le_of_ble_eq_true rfl, Nat.le_of_ble_eq_true rfl⟩ hP hD hK hS hA hN hZ [0] [1] rfl rfl (by decide) (by decide) (by decide) [] rfl (ci := 0) (q0 := 0) (q := (R_OF, F_OF, 4)) rfl rfl rfl rfl hl.1 rfl (Nat.le_of_ble_eq_true rfl) d_La_address_5 ⟨Nat.le_of_ble_eq_true rfl, Nat.le_of_ble_eq_true rfl⟩ (fun x H locs hxn hcell hP hD hS => ?_)
  refine WT.catch1 (pc' := 13) (nm := "java/lang/IndexOutOfBoundsException") hown (show c.exceptionTable.toList = [⟨0, 10, 13, 28⟩, ⟨0, 10, 17, 13⟩] from hE) rfl (by decide) rfl (hts _ w_298) hcell (va_tabs rfl rfl (hN.1 (.castable "java/lang/IndexOutOfBoundsException" "java/lang/IndexOutOfBoundsException") (by simp [xnF]))) ?_
  refine lv_astore (lv' := [(4, .ref x), (0, .ref h0), (1, .int p0), (2, .int p1), (3, .ref ho)]) hx hb d_La_address_13 hl (by decide) rfl (fun ls hl => ?_)
  refine lv_iconst (v := 1) hx hb d_La_address_15 (by decide) ?_
  exact xr_i hx hb hr hlocks hP hD hK hS (()) [0] rfl rfl (by decide) [0] rfl rfl d_La_address_16

set_option maxHeartbeats 4000000 in
set_option maxRecDepth 100000 in
theorem c_La_address_g (l : Launch) (htr : l.stackTraces = false) (D : va_G) (h0 ho : Nat) (cj : ClassId) (qa : Nat → Nat) (qk : Nat → ClassId) (p0 p1 : Int32) (hk : ¬ p0 < 0) (hg : ¬ p0 < 0) (sz : Nat) : Met l y_La_address (Cond.codeWith y_La_address b_La_address 5 (some .int) [(0, 10, 13, 28), (0, 10, 17, 13)] :: bw) (xR 6 1 6) (va_Pc [.ref h0, .int p0, .int p1, .ref ho] (xP D [(cj, .long)] sz [(h0, .inr (0, [.ref (qa 0), .ref (qa 1), .ref (qa 2), .int 0])), (ho, .inl (cj, 1, .inr (.inl (fun _ => 0))))])) (xQ (S := Unit) (fun _ => some (.int 1)) (fun _ => [(ho, .inl (cj, 1, .inr (.inl (fun _ => 0))))]) (fun _ => [(cj, .long)]) D (va_A [(h0, .inr (0, [.ref (qa 0), .ref (qa 1), .ref (qa 2), .int 0])), (ho, .inl (cj, 1, .inr (.inl (fun _ => 0))))] sz)) 1 6 (va_A [(h0, .inr (0, [.ref (qa 0), .ref (qa 1), .ref (qa 2), .int 0])), (ho, .inl (cj, 1, .inr (.inl (fun _ => 0))))] sz) := by
  refine MetE.ofW (hh := [(0, 10, 13, 28), (0, 10, 17, 13)]) (cc := b_La_address) (maxL := 5) (ret := (some .int)) (by decide) rfl ?_
  intro p e s m args below meth c s₁ B hml hE hv
  obtain ⟨rfl, hsz, hP, hK, hD0, hN, hZ⟩ := hv
  have hx := B.exec
  have hb := B.bytes
  have hr := B.returns
  have hlocks := B.notSynchronized
  have hts : ∀ w ∈ bw, w.before _ s = true := fun w h => atoms_spec (ws := Cond.codeWith y_La_address b_La_address 5 (some .int) [(0, 10, 13, 28), (0, 10, 17, 13)] :: bw) B.pre w (List.mem_cons_of_mem _ h)
  have hown : s.vm.findClass "ObjectForgeLaw" = some m.cls := findClass_of_methodNamed B.named
  subst hsz
  have hP0 := hP
  have hD := hD0.self (sz := s.heap.size)
  generalize hAe : va_A [(h0, .inr (0, [.ref (qa 0), .ref (qa 1), .ref (qa 2), .int 0])), (ho, .inl (cj, 1, .inr (.inl (fun _ => 0))))] s.heap.size = A at hD hZ ⊢
  have hA : ∀ q : Nat, s.heap.size ≤ q → A q := fun q h => by rw [← hAe]; exact Or.inr h
  have hS : va_S A s.heap s.heap [] := va_S.rf
  have hl := lv_entry ([.ref h0, .int p0, .int p1, .ref ho]) (n := 5) (Nat.le_of_ble_eq_true rfl)
  rw [lg_entry_eq]
  generalize (lg_sl ([.ref h0, .int p0, .int p1, .ref ho]) ++ List.replicate (5 - (lg_sl ([.ref h0, .int p0, .int p1, .ref ho])).length) Slot.unset).toArray = ls at hl ⊢
  have hl : lv_has ls 5 [(0, .ref h0), (1, .int p0), (2, .int p1), (3, .ref ho)] := hl
  refine lv_aload_n hx hb d_La_address_0 rfl (lv_at hl 3 rfl) ?_
  refine lv_iconst (v := 0) hx hb d_La_address_1 (by decide) ?_
  refine lv_aload_n hx hb d_La_address_2 rfl (lv_at hl 0 rfl) ?_
  refine lv_iload_n hx hb d_La_address_3 rfl (lv_at hl 1 rfl) ?_
  refine lv_iload_n hx hb d_La_address_4 rfl (lv_at hl 2 rfl) ?_
  refine xt_V (As := [.int p0, .int p1]) (rest := [.int 0, .ref ho]) (n := 2) (wc := [(h0, .inr (0, [.ref (qa 0), .ref (qa 1), .ref (qa 2), .int 0]))]) (wr := [(ho, .inl (cj, 1, .inr (.inl (fun _ => 0))))]) (tc := [])  ⟨hx, hb, hml, hown, hts⟩ (c_OF_address_g l htr D h0 qa p0 p1 hk hg s.heap.size) rfl rfl w_381 w_378 w_379 w_380 w_1 (by decide +kernel) ⟨Nat.le_of_ble_eq_true rfl, Nat.le_of_ble_eq_true rfl⟩ hP hD hK hS hA hN hZ [0] [1] rfl rfl (by decide) (by decide) (by decide) [] rfl (ci := 0) (q0 := 0) (q := (R_OF, F_OF, 4)) rfl rfl rfl rfl hl.1 rfl (Nat.le_of_ble_eq_true rfl) d_La_address_5 ⟨Nat.le_of_ble_eq_true rfl, Nat.le_of_ble_eq_true rfl⟩ (fun x H locs hxn hcell hP hD hS => ?_)
  refine WT.catch1 (pc' := 13) (nm := "java/lang/IndexOutOfBoundsException") hown (show c.exceptionTable.toList = [⟨0, 10, 13, 28⟩, ⟨0, 10, 17, 13⟩] from hE) rfl (by decide) rfl (hts _ w_298) hcell (va_tabs rfl rfl (hN.1 (.castable "java/lang/IndexOutOfBoundsException" "java/lang/IndexOutOfBoundsException") (by simp [xnF]))) ?_
  refine lv_astore (lv' := [(4, .ref x), (0, .ref h0), (1, .int p0), (2, .int p1), (3, .ref ho)]) hx hb d_La_address_13 hl (by decide) rfl (fun ls hl => ?_)
  refine lv_iconst (v := 1) hx hb d_La_address_15 (by decide) ?_
  exact xr_i hx hb hr hlocks hP hD hK hS (()) [0] rfl rfl (by decide) [0] rfl rfl d_La_address_16

theorem d_La_link_0 : decode b_La_link 0 = .ok (.aload_n 2, 1) := by decide +kernel
theorem d_La_link_1 : decode b_La_link 1 = .ok (.iconst 0, 1) := by decide +kernel
theorem d_La_link_2 : decode b_La_link 2 = .ok (.aload_n 0, 1) := by decide +kernel
theorem d_La_link_3 : decode b_La_link 3 = .ok (.iload_n 1, 1) := by decide +kernel
theorem d_La_link_4 : decode b_La_link 4 = .ok (.invokevirtual 47, 3) := by decide +kernel
theorem d_La_link_12 : decode b_La_link 12 = .ok (.astore_n 3, 1) := by decide +kernel
theorem d_La_link_13 : decode b_La_link 13 = .ok (.iconst 1, 1) := by decide +kernel
theorem d_La_link_14 : decode b_La_link 14 = .ok (.ireturn, 1) := by decide +kernel
set_option maxHeartbeats 4000000 in
set_option maxRecDepth 100000 in
theorem c_La_link_1 (l : Launch) (htr : l.stackTraces = false) (D : va_G) (h0 ho : Nat) (cj : ClassId) (qa : Nat → Nat) (qk : Nat → ClassId) (p0 : Int32) (h1 : ¬ (p0 &&& 7) = 0) (sz : Nat) : Met l y_La_link (Cond.codeWith y_La_link b_La_link 4 (some .int) [(0, 9, 12, 19), (0, 9, 15, 13)] :: bw) (xR 6 1 6) (va_Pc [.ref h0, .int p0, .ref ho] (xP D [(cj, .long)] sz [(h0, .inr (0, [.ref (qa 0), .ref (qa 1), .ref (qa 2), .int 0])), (ho, .inl (cj, 1, .inr (.inl (fun _ => 0))))])) (xQ (S := Unit) (fun _ => some (.int 1)) (fun _ => [(ho, .inl (cj, 1, .inr (.inl (fun _ => 0))))]) (fun _ => [(cj, .long)]) D (va_A [(h0, .inr (0, [.ref (qa 0), .ref (qa 1), .ref (qa 2), .int 0])), (ho, .inl (cj, 1, .inr (.inl (fun _ => 0))))] sz)) 1 6 (va_A [(h0, .inr (0, [.ref (qa 0), .ref (qa 1), .ref (qa 2), .int 0])), (ho, .inl (cj, 1, .inr (.inl (fun _ => 0))))] sz) := by
  refine MetE.ofW (hh := [(0, 9, 12, 19), (0, 9, 15, 13)]) (cc := b_La_link) (maxL := 4) (ret := (some .int)) (by decide) rfl ?_
  intro p e s m args below meth c s₁ B hml hE hv
  obtain ⟨rfl, hsz, hP, hK, hD0, hN, hZ⟩ := hv
  have hx := B.exec
  have hb := B.bytes
  have hr := B.returns
  have hlocks := B.notSynchronized
  have hts : ∀ w ∈ bw, w.before _ s = true := fun w h => atoms_spec (ws := Cond.codeWith y_La_link b_La_link 4 (some .int) [(0, 9, 12, 19), (0, 9, 15, 13)] :: bw) B.pre w (List.mem_cons_of_mem _ h)
  have hown : s.vm.findClass "ObjectForgeLaw" = some m.cls := findClass_of_methodNamed B.named
  subst hsz
  have hP0 := hP
  have hD := hD0.self (sz := s.heap.size)
  generalize hAe : va_A [(h0, .inr (0, [.ref (qa 0), .ref (qa 1), .ref (qa 2), .int 0])), (ho, .inl (cj, 1, .inr (.inl (fun _ => 0))))] s.heap.size = A at hD hZ ⊢
  have hA : ∀ q : Nat, s.heap.size ≤ q → A q := fun q h => by rw [← hAe]; exact Or.inr h
  have hS : va_S A s.heap s.heap [] := va_S.rf
  have hl := lv_entry ([.ref h0, .int p0, .ref ho]) (n := 4) (Nat.le_of_ble_eq_true rfl)
  rw [lg_entry_eq]
  generalize (lg_sl ([.ref h0, .int p0, .ref ho]) ++ List.replicate (4 - (lg_sl ([.ref h0, .int p0, .ref ho])).length) Slot.unset).toArray = ls at hl ⊢
  have hl : lv_has ls 4 [(0, .ref h0), (1, .int p0), (2, .ref ho)] := hl
  refine lv_aload_n hx hb d_La_link_0 rfl (lv_at hl 2 rfl) ?_
  refine lv_iconst (v := 0) hx hb d_La_link_1 (by decide) ?_
  refine lv_aload_n hx hb d_La_link_2 rfl (lv_at hl 0 rfl) ?_
  refine lv_iload_n hx hb d_La_link_3 rfl (lv_at hl 1 rfl) ?_
  refine xt_V (As := [.int p0]) (rest := [.int 0, .ref ho]) (n := 1) (wc := [(h0, .inr (0, [.ref (qa 0), .ref (qa 1), .ref (qa 2), .int 0]))]) (wr := [(ho, .inl (cj, 1, .inr (.inl (fun _ => 0))))]) (tc := [])  ⟨hx, hb, hml, hown, hts⟩ (c_OF_link_1 l htr D h0 qa p0 h1 s.heap.size) rfl rfl w_361 w_358 w_359 w_360 w_1 (by decide +kernel) ⟨Nat.le_of_ble_eq_true rfl, Nat.le_of_ble_eq_true rfl⟩ hP hD hK hS hA hN hZ [0] [1] rfl rfl (by decide) (by decide) (by decide) [] rfl (ci := 0) (q0 := 0) (q := (R_OF, F_OF, 4)) rfl rfl rfl rfl hl.1 rfl (Nat.le_of_ble_eq_true rfl) d_La_link_4 ⟨Nat.le_of_ble_eq_true rfl, Nat.le_of_ble_eq_true rfl⟩ (fun x H locs hxn hcell hP hD hS => ?_)
  refine WT.catch1 (pc' := 12) (nm := "java/lang/IllegalArgumentException") hown (show c.exceptionTable.toList = [⟨0, 9, 12, 19⟩, ⟨0, 9, 15, 13⟩] from hE) rfl (by decide) rfl (hts _ w_225) hcell (va_tabs rfl rfl (hN.1 (.castable "java/lang/IllegalArgumentException" "java/lang/IllegalArgumentException") (by simp [xnF]))) ?_
  refine lv_astore_n (lv' := [(3, .ref x), (0, .ref h0), (1, .int p0), (2, .ref ho)]) hx hb d_La_link_12 rfl hl (by decide) rfl (fun ls hl => ?_)
  refine lv_iconst (v := 1) hx hb d_La_link_13 (by decide) ?_
  exact xr_i hx hb hr hlocks hP hD hK hS (()) [0] rfl rfl (by decide) [0] rfl rfl d_La_link_14

theorem d_La_link_15 : decode b_La_link 15 = .ok (.astore_n 3, 1) := by decide +kernel
theorem d_La_link_16 : decode b_La_link 16 = .ok (.iconst 2, 1) := by decide +kernel
theorem d_La_link_17 : decode b_La_link 17 = .ok (.ireturn, 1) := by decide +kernel
set_option maxHeartbeats 4000000 in
set_option maxRecDepth 100000 in
theorem c_La_link_2 (l : Launch) (htr : l.stackTraces = false) (D : va_G) (h0 ho : Nat) (cj : ClassId) (qa : Nat → Nat) (qk : Nat → ClassId) (p0 : Int32) (h1 : (p0 &&& 7) = 0) (sz : Nat) : Met l y_La_link (Cond.codeWith y_La_link b_La_link 4 (some .int) [(0, 9, 12, 19), (0, 9, 15, 13)] :: bw) (xR 6 1 6) (va_Pc [.ref h0, .int p0, .ref ho] (xP D [(cj, .long)] sz [(h0, .inr (0, [.ref (qa 0), .ref (qa 1), .ref (qa 2), .int 0])), (ho, .inl (cj, 1, .inr (.inl (fun _ => 0))))])) (xQ (S := Unit) (fun _ => some (.int 2)) (fun _ => [(ho, .inl (cj, 1, .inr (.inl (fun _ => 0))))]) (fun _ => [(cj, .long)]) D (va_A [(h0, .inr (0, [.ref (qa 0), .ref (qa 1), .ref (qa 2), .int 0])), (ho, .inl (cj, 1, .inr (.inl (fun _ => 0))))] sz)) 1 6 (va_A [(h0, .inr (0, [.ref (qa 0), .ref (qa 1), .ref (qa 2), .int 0])), (ho, .inl (cj, 1, .inr (.inl (fun _ => 0))))] sz) := by
  refine MetE.ofW (hh := [(0, 9, 12, 19), (0, 9, 15, 13)]) (cc := b_La_link) (maxL := 4) (ret := (some .int)) (by decide) rfl ?_
  intro p e s m args below meth c s₁ B hml hE hv
  obtain ⟨rfl, hsz, hP, hK, hD0, hN, hZ⟩ := hv
  have hx := B.exec
  have hb := B.bytes
  have hr := B.returns
  have hlocks := B.notSynchronized
  have hts : ∀ w ∈ bw, w.before _ s = true := fun w h => atoms_spec (ws := Cond.codeWith y_La_link b_La_link 4 (some .int) [(0, 9, 12, 19), (0, 9, 15, 13)] :: bw) B.pre w (List.mem_cons_of_mem _ h)
  have hown : s.vm.findClass "ObjectForgeLaw" = some m.cls := findClass_of_methodNamed B.named
  subst hsz
  have hP0 := hP
  have hD := hD0.self (sz := s.heap.size)
  generalize hAe : va_A [(h0, .inr (0, [.ref (qa 0), .ref (qa 1), .ref (qa 2), .int 0])), (ho, .inl (cj, 1, .inr (.inl (fun _ => 0))))] s.heap.size = A at hD hZ ⊢
  have hA : ∀ q : Nat, s.heap.size ≤ q → A q := fun q h => by rw [← hAe]; exact Or.inr h
  have hS : va_S A s.heap s.heap [] := va_S.rf
  have hl := lv_entry ([.ref h0, .int p0, .ref ho]) (n := 4) (Nat.le_of_ble_eq_true rfl)
  rw [lg_entry_eq]
  generalize (lg_sl ([.ref h0, .int p0, .ref ho]) ++ List.replicate (4 - (lg_sl ([.ref h0, .int p0, .ref ho])).length) Slot.unset).toArray = ls at hl ⊢
  have hl : lv_has ls 4 [(0, .ref h0), (1, .int p0), (2, .ref ho)] := hl
  refine lv_aload_n hx hb d_La_link_0 rfl (lv_at hl 2 rfl) ?_
  refine lv_iconst (v := 0) hx hb d_La_link_1 (by decide) ?_
  refine lv_aload_n hx hb d_La_link_2 rfl (lv_at hl 0 rfl) ?_
  refine lv_iload_n hx hb d_La_link_3 rfl (lv_at hl 1 rfl) ?_
  refine xt_V (As := [.int p0]) (rest := [.int 0, .ref ho]) (n := 1) (wc := [(h0, .inr (0, [.ref (qa 0), .ref (qa 1), .ref (qa 2), .int 0]))]) (wr := [(ho, .inl (cj, 1, .inr (.inl (fun _ => 0))))]) (tc := [])  ⟨hx, hb, hml, hown, hts⟩ (c_OF_link_2 l htr D h0 qa p0 h1 s.heap.size) rfl rfl w_361 w_358 w_359 w_360 w_1 (by decide +kernel) ⟨Nat.le_of_ble_eq_true rfl, Nat.le_of_ble_eq_true rfl⟩ hP hD hK hS hA hN hZ [0] [1] rfl rfl (by decide) (by decide) (by decide) [] rfl (ci := 0) (q0 := 0) (q := (R_OF, F_OF, 4)) rfl rfl rfl rfl hl.1 rfl (Nat.le_of_ble_eq_true rfl) d_La_link_4 ⟨Nat.le_of_ble_eq_true rfl, Nat.le_of_ble_eq_true rfl⟩ (fun x H locs hxn hcell hP hD hS => ?_)
  refine WT.catch2 (pc' := 15) (nm := "java/lang/IllegalStateException") (other := "java/lang/IllegalArgumentException") hown (show c.exceptionTable.toList = [⟨0, 9, 12, 19⟩, ⟨0, 9, 15, 13⟩] from hE) rfl (by decide) (hts _ w_225) (x_not hN.2.2.2.1) rfl (by decide) rfl (hts _ w_165) hcell (va_tabs rfl rfl (hN.1 (.castable "java/lang/IllegalStateException" "java/lang/IllegalStateException") (by simp [xnF]))) ?_
  refine lv_astore_n (lv' := [(3, .ref x), (0, .ref h0), (1, .int p0), (2, .ref ho)]) hx hb d_La_link_15 rfl hl (by decide) rfl (fun ls hl => ?_)
  refine lv_iconst (v := 2) hx hb d_La_link_16 (by decide) ?_
  exact xr_i hx hb hr hlocks hP hD hK hS (()) [0] rfl rfl (by decide) [0] rfl rfl d_La_link_17

theorem d_La_word_0 : decode b_La_word 0 = .ok (.aload_n 2, 1) := by decide +kernel
theorem d_La_word_1 : decode b_La_word 1 = .ok (.iconst 0, 1) := by decide +kernel
theorem d_La_word_2 : decode b_La_word 2 = .ok (.aload_n 0, 1) := by decide +kernel
theorem d_La_word_3 : decode b_La_word 3 = .ok (.iload_n 1, 1) := by decide +kernel
theorem d_La_word_4 : decode b_La_word 4 = .ok (.invokevirtual 50, 3) := by decide +kernel
theorem d_La_word_12 : decode b_La_word 12 = .ok (.astore_n 3, 1) := by decide +kernel
theorem d_La_word_13 : decode b_La_word 13 = .ok (.iconst 1, 1) := by decide +kernel
theorem d_La_word_14 : decode b_La_word 14 = .ok (.ireturn, 1) := by decide +kernel
set_option maxHeartbeats 4000000 in
set_option maxRecDepth 100000 in
theorem c_La_word (l : Launch) (htr : l.stackTraces = false) (D : va_G) (h0 ho : Nat) (cj : ClassId) (qa : Nat → Nat) (qk : Nat → ClassId) (p0 : Int32) (sz : Nat) : Met l y_La_word (Cond.codeWith y_La_word b_La_word 4 (some .int) [(0, 9, 12, 28)] :: bw) (xR 6 1 6) (va_Pc [.ref h0, .int p0, .ref ho] (xP D [(cj, .long)] sz [(h0, .inr (0, [.ref (qa 0), .ref (qa 1), .ref (qa 2), .int 0])), ((qa 1), .inr (2, [.ref (qa 27), .int 0, .int 0, .int 0, .int 0, .int (-1), .int (-1)])), (ho, .inl (cj, 1, .inr (.inl (fun _ => 0))))])) (xQ (S := Unit) (fun _ => some (.int 1)) (fun _ => [(ho, .inl (cj, 1, .inr (.inl (fun _ => 0))))]) (fun _ => [(cj, .long)]) D (va_A [(h0, .inr (0, [.ref (qa 0), .ref (qa 1), .ref (qa 2), .int 0])), ((qa 1), .inr (2, [.ref (qa 27), .int 0, .int 0, .int 0, .int 0, .int (-1), .int (-1)])), (ho, .inl (cj, 1, .inr (.inl (fun _ => 0))))] sz)) 1 6 (va_A [(h0, .inr (0, [.ref (qa 0), .ref (qa 1), .ref (qa 2), .int 0])), ((qa 1), .inr (2, [.ref (qa 27), .int 0, .int 0, .int 0, .int 0, .int (-1), .int (-1)])), (ho, .inl (cj, 1, .inr (.inl (fun _ => 0))))] sz) := by
  refine MetE.ofW (hh := [(0, 9, 12, 28)]) (cc := b_La_word) (maxL := 4) (ret := (some .int)) (by decide) rfl ?_
  intro p e s m args below meth c s₁ B hml hE hv
  obtain ⟨rfl, hsz, hP, hK, hD0, hN, hZ⟩ := hv
  have hx := B.exec
  have hb := B.bytes
  have hr := B.returns
  have hlocks := B.notSynchronized
  have hts : ∀ w ∈ bw, w.before _ s = true := fun w h => atoms_spec (ws := Cond.codeWith y_La_word b_La_word 4 (some .int) [(0, 9, 12, 28)] :: bw) B.pre w (List.mem_cons_of_mem _ h)
  have hown : s.vm.findClass "ObjectForgeLaw" = some m.cls := findClass_of_methodNamed B.named
  subst hsz
  have hP0 := hP
  have hD := hD0.self (sz := s.heap.size)
  generalize hAe : va_A [(h0, .inr (0, [.ref (qa 0), .ref (qa 1), .ref (qa 2), .int 0])), ((qa 1), .inr (2, [.ref (qa 27), .int 0, .int 0, .int 0, .int 0, .int (-1), .int (-1)])), (ho, .inl (cj, 1, .inr (.inl (fun _ => 0))))] s.heap.size = A at hD hZ ⊢
  have hA : ∀ q : Nat, s.heap.size ≤ q → A q := fun q h => by rw [← hAe]; exact Or.inr h
  have hS : va_S A s.heap s.heap [] := va_S.rf
  have hl := lv_entry ([.ref h0, .int p0, .ref ho]) (n := 4) (Nat.le_of_ble_eq_true rfl)
  rw [lg_entry_eq]
  generalize (lg_sl ([.ref h0, .int p0, .ref ho]) ++ List.replicate (4 - (lg_sl ([.ref h0, .int p0, .ref ho])).length) Slot.unset).toArray = ls at hl ⊢
  have hl : lv_has ls 4 [(0, .ref h0), (1, .int p0), (2, .ref ho)] := hl
  refine lv_aload_n hx hb d_La_word_0 rfl (lv_at hl 2 rfl) ?_
  refine lv_iconst (v := 0) hx hb d_La_word_1 (by decide) ?_
  refine lv_aload_n hx hb d_La_word_2 rfl (lv_at hl 0 rfl) ?_
  refine lv_iload_n hx hb d_La_word_3 rfl (lv_at hl 1 rfl) ?_
  refine xt_V (As := [.int p0]) (rest := [.int 0, .ref ho]) (n := 1) (wc := [(h0, .inr (0, [.ref (qa 0), .ref (qa 1), .ref (qa 2), .int 0])), ((qa 1), .inr (2, [.ref (qa 27), .int 0, .int 0, .int 0, .int 0, .int (-1), .int (-1)]))]) (wr := [(ho, .inl (cj, 1, .inr (.inl (fun _ => 0))))]) (tc := [])  ⟨hx, hb, hml, hown, hts⟩ (c_OF_word l htr D h0 qa p0 s.heap.size) rfl rfl w_369 w_366 w_367 w_368 w_1 (by decide +kernel) ⟨Nat.le_of_ble_eq_true rfl, Nat.le_of_ble_eq_true rfl⟩ hP hD hK hS hA hN hZ [0, 1] [2] rfl rfl (by decide) (by decide) (by decide) [] rfl (ci := 0) (q0 := 0) (q := (R_OF, F_OF, 4)) rfl rfl rfl rfl hl.1 rfl (Nat.le_of_ble_eq_true rfl) d_La_word_4 ⟨Nat.le_of_ble_eq_true rfl, Nat.le_of_ble_eq_true rfl⟩ (fun x H locs hxn hcell hP hD hS => ?_)
  refine WT.catch1 (pc' := 12) (nm := "java/lang/IndexOutOfBoundsException") hown (show c.exceptionTable.toList = [⟨0, 9, 12, 28⟩] from hE) rfl (by decide) rfl (hts _ w_298) hcell (va_tabs rfl rfl (hN.1 (.castable "java/lang/IndexOutOfBoundsException" "java/lang/IndexOutOfBoundsException") (by simp [xnF]))) ?_
  refine lv_astore_n (lv' := [(3, .ref x), (0, .ref h0), (1, .int p0), (2, .ref ho)]) hx hb d_La_word_12 rfl hl (by decide) rfl (fun ls hl => ?_)
  refine lv_iconst (v := 1) hx hb d_La_word_13 (by decide) ?_
  exact xr_i hx hb hr hlocks hP hD hK hS (()) [0] rfl rfl (by decide) [0] rfl rfl d_La_word_14

theorem d_La_count_0 : decode b_La_count 0 = .ok (.aload_n 3, 1) := by decide +kernel
theorem d_La_count_1 : decode b_La_count 1 = .ok (.iconst 0, 1) := by decide +kernel
theorem d_La_count_2 : decode b_La_count 2 = .ok (.aload_n 0, 1) := by decide +kernel
theorem d_La_count_3 : decode b_La_count 3 = .ok (.iload_n 1, 1) := by decide +kernel
theorem d_La_count_4 : decode b_La_count 4 = .ok (.iload_n 2, 1) := by decide +kernel
theorem d_La_count_5 : decode b_La_count 5 = .ok (.invokevirtual 56, 3) := by decide +kernel
theorem d_La_count_8 : decode b_La_count 8 = .ok (.i2l, 1) := by decide +kernel
theorem d_La_count_9 : decode b_La_count 9 = .ok (.lastore, 1) := by decide +kernel
theorem d_La_count_10 : decode b_La_count 10 = .ok (.goto 7, 3) := by decide +kernel
theorem d_La_count_17 : decode b_La_count 17 = .ok (.iconst 0, 1) := by decide +kernel
theorem d_La_count_18 : decode b_La_count 18 = .ok (.ireturn, 1) := by decide +kernel
set_option maxHeartbeats 4000000 in
set_option maxRecDepth 100000 in
theorem c_La_count_0 (l : Launch) (htr : l.stackTraces = false) (D : va_G) (h0 ho : Nat) (cj : ClassId) (qa : Nat → Nat) (qk : Nat → ClassId) (p1 : Int32) (sz : Nat) : Met l y_La_count (Cond.codeWith y_La_count b_La_count 5 (some .int) [(0, 10, 13, 28)] :: bw) (xR 6 0 0) (va_Pc [.ref h0, .int 0, .int p1, .ref ho] (xP D [(cj, .long)] sz [(h0, .inr (0, [.ref (qa 0), .ref (qa 1), .ref (qa 2), .int 0])), ((qa 0), .inr (1, [.ref (qa 3), .ref (qa 4), .int 0, .int 0, .int 0, .int 0, .int 0, .int (-1), .long 0, .int 0, .int 0, .int 0, .int 0, .int (-1), .int (-1)])), ((qa 3), .inr (4, [.ref (qa 5), .int 0, .int 0, .int 0, .ref (qa 6), .ref (qa 7), .ref (qa 8)])), (ho, .inl (cj, 1, .inr (.inl (fun _ => 0))))])) (xQ (S := Unit) (fun _ => some (.int 0)) (fun _ => [(ho, .inl (cj, 1, .inr (.inl (vp_updL (fun _ => 0) (0 : Int32).toNatClampNeg 0))))]) (fun _ => [(cj, .long)]) D (va_A [(h0, .inr (0, [.ref (qa 0), .ref (qa 1), .ref (qa 2), .int 0])), ((qa 0), .inr (1, [.ref (qa 3), .ref (qa 4), .int 0, .int 0, .int 0, .int 0, .int 0, .int (-1), .long 0, .int 0, .int 0, .int 0, .int 0, .int (-1), .int (-1)])), ((qa 3), .inr (4, [.ref (qa 5), .int 0, .int 0, .int 0, .ref (qa 6), .ref (qa 7), .ref (qa 8)])), (ho, .inl (cj, 1, .inr (.inl (fun _ => 0))))] sz)) 0 0 (va_A [(h0, .inr (0, [.ref (qa 0), .ref (qa 1), .ref (qa 2), .int 0])), ((qa 0), .inr (1, [.ref (qa 3), .ref (qa 4), .int 0, .int 0, .int 0, .int 0, .int 0, .int (-1), .long 0, .int 0, .int 0, .int 0, .int 0, .int (-1), .int (-1)])), ((qa 3), .inr (4, [.ref (qa 5), .int 0, .int 0, .int 0, .ref (qa 6), .ref (qa 7), .ref (qa 8)])), (ho, .inl (cj, 1, .inr (.inl (fun _ => 0))))] sz) := by
  refine MetE.ofW (hh := [(0, 10, 13, 28)]) (cc := b_La_count) (maxL := 5) (ret := (some .int)) (by decide) rfl ?_
  intro p e s m args below meth c s₁ B hml hE hv
  obtain ⟨rfl, hsz, hP, hK, hD0, hN, hZ⟩ := hv
  have hx := B.exec
  have hb := B.bytes
  have hr := B.returns
  have hlocks := B.notSynchronized
  have hts : ∀ w ∈ bw, w.before _ s = true := fun w h => atoms_spec (ws := Cond.codeWith y_La_count b_La_count 5 (some .int) [(0, 10, 13, 28)] :: bw) B.pre w (List.mem_cons_of_mem _ h)
  have hown : s.vm.findClass "ObjectForgeLaw" = some m.cls := findClass_of_methodNamed B.named
  subst hsz
  have hP0 := hP
  have hD := hD0.self (sz := s.heap.size)
  generalize hAe : va_A [(h0, .inr (0, [.ref (qa 0), .ref (qa 1), .ref (qa 2), .int 0])), ((qa 0), .inr (1, [.ref (qa 3), .ref (qa 4), .int 0, .int 0, .int 0, .int 0, .int 0, .int (-1), .long 0, .int 0, .int 0, .int 0, .int 0, .int (-1), .int (-1)])), ((qa 3), .inr (4, [.ref (qa 5), .int 0, .int 0, .int 0, .ref (qa 6), .ref (qa 7), .ref (qa 8)])), (ho, .inl (cj, 1, .inr (.inl (fun _ => 0))))] s.heap.size = A at hD hZ ⊢
  have hA : ∀ q : Nat, s.heap.size ≤ q → A q := fun q h => by rw [← hAe]; exact Or.inr h
  have hS : va_S A s.heap s.heap [] := va_S.rf
  have hl := lv_entry ([.ref h0, .int 0, .int p1, .ref ho]) (n := 5) (Nat.le_of_ble_eq_true rfl)
  rw [lg_entry_eq]
  generalize (lg_sl ([.ref h0, .int 0, .int p1, .ref ho]) ++ List.replicate (5 - (lg_sl ([.ref h0, .int 0, .int p1, .ref ho])).length) Slot.unset).toArray = ls at hl ⊢
  have hl : lv_has ls 5 [(0, .ref h0), (1, .int 0), (2, .int p1), (3, .ref ho)] := hl
  refine lv_aload_n hx hb d_La_count_0 rfl (lv_at hl 3 rfl) ?_
  refine lv_iconst (v := 0) hx hb d_La_count_1 (by decide) ?_
  refine lv_aload_n hx hb d_La_count_2 rfl (lv_at hl 0 rfl) ?_
  refine lv_iload_n hx hb d_La_count_3 rfl (lv_at hl 1 rfl) ?_
  refine lv_iload_n hx hb d_La_count_4 rfl (lv_at hl 2 rfl) ?_
  refine xc_V (As := [.int 0, .int p1]) (rest := [.int 0, .ref ho]) (n := 2) (wc := [(h0, .inr (0, [.ref (qa 0), .ref (qa 1), .ref (qa 2), .int 0])), ((qa 0), .inr (1, [.ref (qa 3), .ref (qa 4), .int 0, .int 0, .int 0, .int 0, .int 0, .int (-1), .long 0, .int 0, .int 0, .int 0, .int 0, .int (-1), .int (-1)])), ((qa 3), .inr (4, [.ref (qa 5), .int 0, .int 0, .int 0, .ref (qa 6), .ref (qa 7), .ref (qa 8)]))]) (wr := [(ho, .inl (cj, 1, .inr (.inl (fun _ => 0))))]) (tc := []) (tr := [(cj, .long)]) ⟨hx, hb, hml, hown, hts⟩ (c_OF_count_0 l D h0 qa p1 s.heap.size) rfl rfl w_388 w_385 w_386 w_387 w_1 (by decide +kernel) ⟨Nat.le_of_ble_eq_true rfl, Nat.le_of_ble_eq_true rfl⟩ hP hD hK hS hA hN hZ [0, 1, 2] [3] rfl rfl (by decide) (by decide) (by decide) [] [0] rfl rfl (ci := 0) (q0 := 0) (q := (R_OF, F_OF, 4)) rfl rfl rfl rfl hl.1 rfl (Nat.le_of_ble_eq_true rfl) d_La_count_5 ⟨Nat.le_of_ble_eq_true rfl, Nat.le_of_ble_eq_true rfl⟩ (fun u1 H locs hP hD hK hS => ?_)
  have hP : va_P D cls [(ho, .inl (cj, 1, .inr (.inl (fun _ => 0)))), (h0, .inr (0, [.ref (qa 0), .ref (qa 1), .ref (qa 2), .int 0])), ((qa 0), .inr (1, [.ref (qa 3), .ref (qa 4), .int 0, .int 0, .int 0, .int 0, .int 0, .int (-1), .long 0, .int 0, .int 0, .int 0, .int 0, .int (-1), .int (-1)])), ((qa 3), .inr (4, [.ref (qa 5), .int 0, .int 0, .int 0, .ref (qa 6), .ref (qa 7), .ref (qa 8)]))] H := hP
  have hD : va_D A [(ho, .inl (cj, 1, .inr (.inl (fun _ => 0)))), (h0, .inr (0, [.ref (qa 0), .ref (qa 1), .ref (qa 2), .int 0])), ((qa 0), .inr (1, [.ref (qa 3), .ref (qa 4), .int 0, .int 0, .int 0, .int 0, .int 0, .int (-1), .long 0, .int 0, .int 0, .int 0, .int 0, .int (-1), .int (-1)])), ((qa 3), .inr (4, [.ref (qa 5), .int 0, .int 0, .int 0, .ref (qa 6), .ref (qa 7), .ref (qa 8)]))] := hD
  have hK : va_K D cls [(cj, .long)] s := hK
  refine W.eq (g2 := F0 m 8 ls [.int 0, .int 0, .ref ho]) rfl ?_
  refine lv_i2l (v := 0) hx hb d_La_count_8 (by first | rfl | decide) ?_
  refine va_last hx hb hK hP hD hS 0 0 rfl rfl (by unfold vp_in; decide) d_La_count_9 (fun H locs hP hD hS => ?_)
  have hP : va_P D cls [(ho, .inl (cj, 1, .inr (.inl (vp_updL (fun _ => 0) (0 : Int32).toNatClampNeg 0)))), (h0, .inr (0, [.ref (qa 0), .ref (qa 1), .ref (qa 2), .int 0])), ((qa 0), .inr (1, [.ref (qa 3), .ref (qa 4), .int 0, .int 0, .int 0, .int 0, .int 0, .int (-1), .long 0, .int 0, .int 0, .int 0, .int 0, .int (-1), .int (-1)])), ((qa 3), .inr (4, [.ref (qa 5), .int 0, .int 0, .int 0, .ref (qa 6), .ref (qa 7), .ref (qa 8)]))] H := hP
  have hD : va_D A [(ho, .inl (cj, 1, .inr (.inl (vp_updL (fun _ => 0) (0 : Int32).toNatClampNeg 0)))), (h0, .inr (0, [.ref (qa 0), .ref (qa 1), .ref (qa 2), .int 0])), ((qa 0), .inr (1, [.ref (qa 3), .ref (qa 4), .int 0, .int 0, .int 0, .int 0, .int 0, .int (-1), .long 0, .int 0, .int 0, .int 0, .int 0, .int (-1), .int (-1)])), ((qa 3), .inr (4, [.ref (qa 5), .int 0, .int 0, .int 0, .ref (qa 6), .ref (qa 7), .ref (qa 8)]))] := hD
  refine lv_goto (tgt := 17) hx hb d_La_count_10 (by decide) ?_
  refine lv_iconst (v := 0) hx hb d_La_count_17 (by decide) ?_
  exact xr_i hx hb hr hlocks hP hD hK hS (()) [0] rfl rfl (by decide) [0] rfl rfl d_La_count_18

set_option maxHeartbeats 4000000 in
set_option maxRecDepth 100000 in
theorem c_La_count_1 (l : Launch) (htr : l.stackTraces = false) (D : va_G) (h0 ho : Nat) (cj : ClassId) (qa : Nat → Nat) (qk : Nat → ClassId) (p1 : Int32) (sz : Nat) : Met l y_La_count (Cond.codeWith y_La_count b_La_count 5 (some .int) [(0, 10, 13, 28)] :: bw) (xR 6 0 0) (va_Pc [.ref h0, .int 1, .int p1, .ref ho] (xP D [(cj, .long)] sz [(h0, .inr (0, [.ref (qa 0), .ref (qa 1), .ref (qa 2), .int 0])), ((qa 0), .inr (1, [.ref (qa 3), .ref (qa 4), .int 0, .int 0, .int 0, .int 0, .int 0, .int (-1), .long 0, .int 0, .int 0, .int 0, .int 0, .int (-1), .int (-1)])), ((qa 3), .inr (4, [.ref (qa 5), .int 0, .int 0, .int 0, .ref (qa 6), .ref (qa 7), .ref (qa 8)])), (ho, .inl (cj, 1, .inr (.inl (fun _ => 0))))])) (xQ (S := Unit) (fun _ => some (.int 0)) (fun _ => [(ho, .inl (cj, 1, .inr (.inl (vp_updL (fun _ => 0) (0 : Int32).toNatClampNeg 0))))]) (fun _ => [(cj, .long)]) D (va_A [(h0, .inr (0, [.ref (qa 0), .ref (qa 1), .ref (qa 2), .int 0])), ((qa 0), .inr (1, [.ref (qa 3), .ref (qa 4), .int 0, .int 0, .int 0, .int 0, .int 0, .int (-1), .long 0, .int 0, .int 0, .int 0, .int 0, .int (-1), .int (-1)])), ((qa 3), .inr (4, [.ref (qa 5), .int 0, .int 0, .int 0, .ref (qa 6), .ref (qa 7), .ref (qa 8)])), (ho, .inl (cj, 1, .inr (.inl (fun _ => 0))))] sz)) 0 0 (va_A [(h0, .inr (0, [.ref (qa 0), .ref (qa 1), .ref (qa 2), .int 0])), ((qa 0), .inr (1, [.ref (qa 3), .ref (qa 4), .int 0, .int 0, .int 0, .int 0, .int 0, .int (-1), .long 0, .int 0, .int 0, .int 0, .int 0, .int (-1), .int (-1)])), ((qa 3), .inr (4, [.ref (qa 5), .int 0, .int 0, .int 0, .ref (qa 6), .ref (qa 7), .ref (qa 8)])), (ho, .inl (cj, 1, .inr (.inl (fun _ => 0))))] sz) := by
  refine MetE.ofW (hh := [(0, 10, 13, 28)]) (cc := b_La_count) (maxL := 5) (ret := (some .int)) (by decide) rfl ?_
  intro p e s m args below meth c s₁ B hml hE hv
  obtain ⟨rfl, hsz, hP, hK, hD0, hN, hZ⟩ := hv
  have hx := B.exec
  have hb := B.bytes
  have hr := B.returns
  have hlocks := B.notSynchronized
  have hts : ∀ w ∈ bw, w.before _ s = true := fun w h => atoms_spec (ws := Cond.codeWith y_La_count b_La_count 5 (some .int) [(0, 10, 13, 28)] :: bw) B.pre w (List.mem_cons_of_mem _ h)
  have hown : s.vm.findClass "ObjectForgeLaw" = some m.cls := findClass_of_methodNamed B.named
  subst hsz
  have hP0 := hP
  have hD := hD0.self (sz := s.heap.size)
  generalize hAe : va_A [(h0, .inr (0, [.ref (qa 0), .ref (qa 1), .ref (qa 2), .int 0])), ((qa 0), .inr (1, [.ref (qa 3), .ref (qa 4), .int 0, .int 0, .int 0, .int 0, .int 0, .int (-1), .long 0, .int 0, .int 0, .int 0, .int 0, .int (-1), .int (-1)])), ((qa 3), .inr (4, [.ref (qa 5), .int 0, .int 0, .int 0, .ref (qa 6), .ref (qa 7), .ref (qa 8)])), (ho, .inl (cj, 1, .inr (.inl (fun _ => 0))))] s.heap.size = A at hD hZ ⊢
  have hA : ∀ q : Nat, s.heap.size ≤ q → A q := fun q h => by rw [← hAe]; exact Or.inr h
  have hS : va_S A s.heap s.heap [] := va_S.rf
  have hl := lv_entry ([.ref h0, .int 1, .int p1, .ref ho]) (n := 5) (Nat.le_of_ble_eq_true rfl)
  rw [lg_entry_eq]
  generalize (lg_sl ([.ref h0, .int 1, .int p1, .ref ho]) ++ List.replicate (5 - (lg_sl ([.ref h0, .int 1, .int p1, .ref ho])).length) Slot.unset).toArray = ls at hl ⊢
  have hl : lv_has ls 5 [(0, .ref h0), (1, .int 1), (2, .int p1), (3, .ref ho)] := hl
  refine lv_aload_n hx hb d_La_count_0 rfl (lv_at hl 3 rfl) ?_
  refine lv_iconst (v := 0) hx hb d_La_count_1 (by decide) ?_
  refine lv_aload_n hx hb d_La_count_2 rfl (lv_at hl 0 rfl) ?_
  refine lv_iload_n hx hb d_La_count_3 rfl (lv_at hl 1 rfl) ?_
  refine lv_iload_n hx hb d_La_count_4 rfl (lv_at hl 2 rfl) ?_
  refine xc_V (As := [.int 1, .int p1]) (rest := [.int 0, .ref ho]) (n := 2) (wc := [(h0, .inr (0, [.ref (qa 0), .ref (qa 1), .ref (qa 2), .int 0])), ((qa 0), .inr (1, [.ref (qa 3), .ref (qa 4), .int 0, .int 0, .int 0, .int 0, .int 0, .int (-1), .long 0, .int 0, .int 0, .int 0, .int 0, .int (-1), .int (-1)])), ((qa 3), .inr (4, [.ref (qa 5), .int 0, .int 0, .int 0, .ref (qa 6), .ref (qa 7), .ref (qa 8)]))]) (wr := [(ho, .inl (cj, 1, .inr (.inl (fun _ => 0))))]) (tc := []) (tr := [(cj, .long)]) ⟨hx, hb, hml, hown, hts⟩ (c_OF_count_1 l D h0 qa p1 s.heap.size) rfl rfl w_388 w_385 w_386 w_387 w_1 (by decide +kernel) ⟨Nat.le_of_ble_eq_true rfl, Nat.le_of_ble_eq_true rfl⟩ hP hD hK hS hA hN hZ [0, 1, 2] [3] rfl rfl (by decide) (by decide) (by decide) [] [0] rfl rfl (ci := 0) (q0 := 0) (q := (R_OF, F_OF, 4)) rfl rfl rfl rfl hl.1 rfl (Nat.le_of_ble_eq_true rfl) d_La_count_5 ⟨Nat.le_of_ble_eq_true rfl, Nat.le_of_ble_eq_true rfl⟩ (fun u1 H locs hP hD hK hS => ?_)
  have hP : va_P D cls [(ho, .inl (cj, 1, .inr (.inl (fun _ => 0)))), (h0, .inr (0, [.ref (qa 0), .ref (qa 1), .ref (qa 2), .int 0])), ((qa 0), .inr (1, [.ref (qa 3), .ref (qa 4), .int 0, .int 0, .int 0, .int 0, .int 0, .int (-1), .long 0, .int 0, .int 0, .int 0, .int 0, .int (-1), .int (-1)])), ((qa 3), .inr (4, [.ref (qa 5), .int 0, .int 0, .int 0, .ref (qa 6), .ref (qa 7), .ref (qa 8)]))] H := hP
  have hD : va_D A [(ho, .inl (cj, 1, .inr (.inl (fun _ => 0)))), (h0, .inr (0, [.ref (qa 0), .ref (qa 1), .ref (qa 2), .int 0])), ((qa 0), .inr (1, [.ref (qa 3), .ref (qa 4), .int 0, .int 0, .int 0, .int 0, .int 0, .int (-1), .long 0, .int 0, .int 0, .int 0, .int 0, .int (-1), .int (-1)])), ((qa 3), .inr (4, [.ref (qa 5), .int 0, .int 0, .int 0, .ref (qa 6), .ref (qa 7), .ref (qa 8)]))] := hD
  have hK : va_K D cls [(cj, .long)] s := hK
  refine W.eq (g2 := F0 m 8 ls [.int 0, .int 0, .ref ho]) rfl ?_
  refine lv_i2l (v := 0) hx hb d_La_count_8 (by first | rfl | decide) ?_
  refine va_last hx hb hK hP hD hS 0 0 rfl rfl (by unfold vp_in; decide) d_La_count_9 (fun H locs hP hD hS => ?_)
  have hP : va_P D cls [(ho, .inl (cj, 1, .inr (.inl (vp_updL (fun _ => 0) (0 : Int32).toNatClampNeg 0)))), (h0, .inr (0, [.ref (qa 0), .ref (qa 1), .ref (qa 2), .int 0])), ((qa 0), .inr (1, [.ref (qa 3), .ref (qa 4), .int 0, .int 0, .int 0, .int 0, .int 0, .int (-1), .long 0, .int 0, .int 0, .int 0, .int 0, .int (-1), .int (-1)])), ((qa 3), .inr (4, [.ref (qa 5), .int 0, .int 0, .int 0, .ref (qa 6), .ref (qa 7), .ref (qa 8)]))] H := hP
  have hD : va_D A [(ho, .inl (cj, 1, .inr (.inl (vp_updL (fun _ => 0) (0 : Int32).toNatClampNeg 0)))), (h0, .inr (0, [.ref (qa 0), .ref (qa 1), .ref (qa 2), .int 0])), ((qa 0), .inr (1, [.ref (qa 3), .ref (qa 4), .int 0, .int 0, .int 0, .int 0, .int 0, .int (-1), .long 0, .int 0, .int 0, .int 0, .int 0, .int (-1), .int (-1)])), ((qa 3), .inr (4, [.ref (qa 5), .int 0, .int 0, .int 0, .ref (qa 6), .ref (qa 7), .ref (qa 8)]))] := hD
  refine lv_goto (tgt := 17) hx hb d_La_count_10 (by decide) ?_
  refine lv_iconst (v := 0) hx hb d_La_count_17 (by decide) ?_
  exact xr_i hx hb hr hlocks hP hD hK hS (()) [0] rfl rfl (by decide) [0] rfl rfl d_La_count_18

theorem d_La_count_13 : decode b_La_count 13 = .ok (.astore 4, 2) := by decide +kernel
theorem d_La_count_15 : decode b_La_count 15 = .ok (.iconst 1, 1) := by decide +kernel
theorem d_La_count_16 : decode b_La_count 16 = .ok (.ireturn, 1) := by decide +kernel
set_option maxHeartbeats 4000000 in
set_option maxRecDepth 100000 in
theorem c_La_count_2_n (l : Launch) (htr : l.stackTraces = false) (D : va_G) (h0 ho : Nat) (cj : ClassId) (qa : Nat → Nat) (qk : Nat → ClassId) (p1 : Int32) (hk : p1 < 0) (sz : Nat) : Met l y_La_count (Cond.codeWith y_La_count b_La_count 5 (some .int) [(0, 10, 13, 28)] :: bw) (xR 6 1 6) (va_Pc [.ref h0, .int 2, .int p1, .ref ho] (xP D [(cj, .long)] sz [(h0, .inr (0, [.ref (qa 0), .ref (qa 1), .ref (qa 2), .int 0])), (ho, .inl (cj, 1, .inr (.inl (fun _ => 0))))])) (xQ (S := Unit) (fun _ => some (.int 1)) (fun _ => [(ho, .inl (cj, 1, .inr (.inl (fun _ => 0))))]) (fun _ => [(cj, .long)]) D (va_A [(h0, .inr (0, [.ref (qa 0), .ref (qa 1), .ref (qa 2), .int 0])), (ho, .inl (cj, 1, .inr (.inl (fun _ => 0))))] sz)) 1 6 (va_A [(h0, .inr (0, [.ref (qa 0), .ref (qa 1), .ref (qa 2), .int 0])), (ho, .inl (cj, 1, .inr (.inl (fun _ => 0))))] sz) := by
  refine MetE.ofW (hh := [(0, 10, 13, 28)]) (cc := b_La_count) (maxL := 5) (ret := (some .int)) (by decide) rfl ?_
  intro p e s m args below meth c s₁ B hml hE hv
  obtain ⟨rfl, hsz, hP, hK, hD0, hN, hZ⟩ := hv
  have hx := B.exec
  have hb := B.bytes
  have hr := B.returns
  have hlocks := B.notSynchronized
  have hts : ∀ w ∈ bw, w.before _ s = true := fun w h => atoms_spec (ws := Cond.codeWith y_La_count b_La_count 5 (some .int) [(0, 10, 13, 28)] :: bw) B.pre w (List.mem_cons_of_mem _ h)
  have hown : s.vm.findClass "ObjectForgeLaw" = some m.cls := findClass_of_methodNamed B.named
  subst hsz
  have hP0 := hP
  have hD := hD0.self (sz := s.heap.size)
  generalize hAe : va_A [(h0, .inr (0, [.ref (qa 0), .ref (qa 1), .ref (qa 2), .int 0])), (ho, .inl (cj, 1, .inr (.inl (fun _ => 0))))] s.heap.size = A at hD hZ ⊢
  have hA : ∀ q : Nat, s.heap.size ≤ q → A q := fun q h => by rw [← hAe]; exact Or.inr h
  have hS : va_S A s.heap s.heap [] := va_S.rf
  have hl := lv_entry ([.ref h0, .int 2, .int p1, .ref ho]) (n := 5) (Nat.le_of_ble_eq_true rfl)
  rw [lg_entry_eq]
  generalize (lg_sl ([.ref h0, .int 2, .int p1, .ref ho]) ++ List.replicate (5 - (lg_sl ([.ref h0, .int 2, .int p1, .ref ho])).length) Slot.unset).toArray = ls at hl ⊢
  have hl : lv_has ls 5 [(0, .ref h0), (1, .int 2), (2, .int p1), (3, .ref ho)] := hl
  refine lv_aload_n hx hb d_La_count_0 rfl (lv_at hl 3 rfl) ?_
  refine lv_iconst (v := 0) hx hb d_La_count_1 (by decide) ?_
  refine lv_aload_n hx hb d_La_count_2 rfl (lv_at hl 0 rfl) ?_
  refine lv_iload_n hx hb d_La_count_3 rfl (lv_at hl 1 rfl) ?_
  refine lv_iload_n hx hb d_La_count_4 rfl (lv_at hl 2 rfl) ?_
  refine xt_V (As := [.int 2, .int p1]) (rest := [.int 0, .ref ho]) (n := 2) (wc := [(h0, .inr (0, [.ref (qa 0), .ref (qa 1), .ref (qa 2), .int 0]))]) (wr := [(ho, .inl (cj, 1, .inr (.inl (fun _ => 0))))]) (tc := [])  ⟨hx, hb, hml, hown, hts⟩ (c_OF_count_2_n l htr D h0 qa p1 hk s.heap.size) rfl rfl w_388 w_385 w_386 w_387 w_1 (by decide +kernel) ⟨Nat.le_of_ble_eq_true rfl, Nat.le_of_ble_eq_true rfl⟩ hP hD hK hS hA hN hZ [0] [1] rfl rfl (by decide) (by decide) (by decide) [] rfl (ci := 0) (q0 := 0) (q := (R_OF, F_OF, 4)) rfl rfl rfl rfl hl.1 rfl (Nat.le_of_ble_eq_true rfl) d_La_count_5 ⟨Nat.le_of_ble_eq_true rfl, Nat.le_of_ble_eq_true rfl⟩ (fun x H locs hxn hcell hP hD hS => ?_)
  refine WT.catch1 (pc' := 13) (nm := "java/lang/IndexOutOfBoundsException") hown (show c.exceptionTable.toList = [⟨0, 10, 13, 28⟩] from hE) rfl (by decide) rfl (hts _ w_298) hcell (va_tabs rfl rfl (hN.1 (.castable "java/lang/IndexOutOfBoundsException" "java/lang/IndexOutOfBoundsException") (by simp [xnF]))) ?_
  refine lv_astore (lv' := [(4, .ref x), (0, .ref h0), (1, .int 2), (2, .int p1), (3, .ref ho)]) hx hb d_La_count_13 hl (by decide) rfl (fun ls hl => ?_)
  refine lv_iconst (v := 1) hx hb d_La_count_15 (by decide) ?_
  exact xr_i hx hb hr hlocks hP hD hK hS (()) [0] rfl rfl (by decide) [0] rfl rfl d_La_count_16

set_option maxHeartbeats 4000000 in
set_option maxRecDepth 100000 in
theorem c_La_count_2_g (l : Launch) (htr : l.stackTraces = false) (D : va_G) (h0 ho : Nat) (cj : ClassId) (qa : Nat → Nat) (qk : Nat → ClassId) (p1 : Int32) (hk : ¬ p1 < 0) (hg : ¬ p1 < 0) (sz : Nat) : Met l y_La_count (Cond.codeWith y_La_count b_La_count 5 (some .int) [(0, 10, 13, 28)] :: bw) (xR 6 1 6) (va_Pc [.ref h0, .int 2, .int p1, .ref ho] (xP D [(cj, .long)] sz [(h0, .inr (0, [.ref (qa 0), .ref (qa 1), .ref (qa 2), .int 0])), (ho, .inl (cj, 1, .inr (.inl (fun _ => 0))))])) (xQ (S := Unit) (fun _ => some (.int 1)) (fun _ => [(ho, .inl (cj, 1, .inr (.inl (fun _ => 0))))]) (fun _ => [(cj, .long)]) D (va_A [(h0, .inr (0, [.ref (qa 0), .ref (qa 1), .ref (qa 2), .int 0])), (ho, .inl (cj, 1, .inr (.inl (fun _ => 0))))] sz)) 1 6 (va_A [(h0, .inr (0, [.ref (qa 0), .ref (qa 1), .ref (qa 2), .int 0])), (ho, .inl (cj, 1, .inr (.inl (fun _ => 0))))] sz) := by
  refine MetE.ofW (hh := [(0, 10, 13, 28)]) (cc := b_La_count) (maxL := 5) (ret := (some .int)) (by decide) rfl ?_
  intro p e s m args below meth c s₁ B hml hE hv
  obtain ⟨rfl, hsz, hP, hK, hD0, hN, hZ⟩ := hv
  have hx := B.exec
  have hb := B.bytes
  have hr := B.returns
  have hlocks := B.notSynchronized
  have hts : ∀ w ∈ bw, w.before _ s = true := fun w h => atoms_spec (ws := Cond.codeWith y_La_count b_La_count 5 (some .int) [(0, 10, 13, 28)] :: bw) B.pre w (List.mem_cons_of_mem _ h)
  have hown : s.vm.findClass "ObjectForgeLaw" = some m.cls := findClass_of_methodNamed B.named
  subst hsz
  have hP0 := hP
  have hD := hD0.self (sz := s.heap.size)
  generalize hAe : va_A [(h0, .inr (0, [.ref (qa 0), .ref (qa 1), .ref (qa 2), .int 0])), (ho, .inl (cj, 1, .inr (.inl (fun _ => 0))))] s.heap.size = A at hD hZ ⊢
  have hA : ∀ q : Nat, s.heap.size ≤ q → A q := fun q h => by rw [← hAe]; exact Or.inr h
  have hS : va_S A s.heap s.heap [] := va_S.rf
  have hl := lv_entry ([.ref h0, .int 2, .int p1, .ref ho]) (n := 5) (Nat.le_of_ble_eq_true rfl)
  rw [lg_entry_eq]
  generalize (lg_sl ([.ref h0, .int 2, .int p1, .ref ho]) ++ List.replicate (5 - (lg_sl ([.ref h0, .int 2, .int p1, .ref ho])).length) Slot.unset).toArray = ls at hl ⊢
  have hl : lv_has ls 5 [(0, .ref h0), (1, .int 2), (2, .int p1), (3, .ref ho)] := hl
  refine lv_aload_n hx hb d_La_count_0 rfl (lv_at hl 3 rfl) ?_
  refine lv_iconst (v := 0) hx hb d_La_count_1 (by decide) ?_
  refine lv_aload_n hx hb d_La_count_2 rfl (lv_at hl 0 rfl) ?_
  refine lv_iload_n hx hb d_La_count_3 rfl (lv_at hl 1 rfl) ?_
  refine lv_iload_n hx hb d_La_count_4 rfl (lv_at hl 2 rfl) ?_
  refine xt_V (As := [.int 2, .int p1]) (rest := [.int 0, .ref ho]) (n := 2) (wc := [(h0, .inr (0, [.ref (qa 0), .ref (qa 1), .ref (qa 2), .int 0]))]) (wr := [(ho, .inl (cj, 1, .inr (.inl (fun _ => 0))))]) (tc := [])  ⟨hx, hb, hml, hown, hts⟩ (c_OF_count_2_g l htr D h0 qa p1 hk hg s.heap.size) rfl rfl w_388 w_385 w_386 w_387 w_1 (by decide +kernel) ⟨Nat.le_of_ble_eq_true rfl, Nat.le_of_ble_eq_true rfl⟩ hP hD hK hS hA hN hZ [0] [1] rfl rfl (by decide) (by decide) (by decide) [] rfl (ci := 0) (q0 := 0) (q := (R_OF, F_OF, 4)) rfl rfl rfl rfl hl.1 rfl (Nat.le_of_ble_eq_true rfl) d_La_count_5 ⟨Nat.le_of_ble_eq_true rfl, Nat.le_of_ble_eq_true rfl⟩ (fun x H locs hxn hcell hP hD hS => ?_)
  refine WT.catch1 (pc' := 13) (nm := "java/lang/IndexOutOfBoundsException") hown (show c.exceptionTable.toList = [⟨0, 10, 13, 28⟩] from hE) rfl (by decide) rfl (hts _ w_298) hcell (va_tabs rfl rfl (hN.1 (.castable "java/lang/IndexOutOfBoundsException" "java/lang/IndexOutOfBoundsException") (by simp [xnF]))) ?_
  refine lv_astore (lv' := [(4, .ref x), (0, .ref h0), (1, .int 2), (2, .int p1), (3, .ref ho)]) hx hb d_La_count_13 hl (by decide) rfl (fun ls hl => ?_)
  refine lv_iconst (v := 1) hx hb d_La_count_15 (by decide) ?_
  exact xr_i hx hb hr hlocks hP hD hK hS (()) [0] rfl rfl (by decide) [0] rfl rfl d_La_count_16

set_option maxHeartbeats 4000000 in
set_option maxRecDepth 100000 in
theorem c_La_count_3_n (l : Launch) (htr : l.stackTraces = false) (D : va_G) (h0 ho : Nat) (cj : ClassId) (qa : Nat → Nat) (qk : Nat → ClassId) (p1 : Int32) (hk : p1 < 0) (sz : Nat) : Met l y_La_count (Cond.codeWith y_La_count b_La_count 5 (some .int) [(0, 10, 13, 28)] :: bw) (xR 6 1 6) (va_Pc [.ref h0, .int 3, .int p1, .ref ho] (xP D [(cj, .long)] sz [(h0, .inr (0, [.ref (qa 0), .ref (qa 1), .ref (qa 2), .int 0])), (ho, .inl (cj, 1, .inr (.inl (fun _ => 0))))])) (xQ (S := Unit) (fun _ => some (.int 1)) (fun _ => [(ho, .inl (cj, 1, .inr (.inl (fun _ => 0))))]) (fun _ => [(cj, .long)]) D (va_A [(h0, .inr (0, [.ref (qa 0), .ref (qa 1), .ref (qa 2), .int 0])), (ho, .inl (cj, 1, .inr (.inl (fun _ => 0))))] sz)) 1 6 (va_A [(h0, .inr (0, [.ref (qa 0), .ref (qa 1), .ref (qa 2), .int 0])), (ho, .inl (cj, 1, .inr (.inl (fun _ => 0))))] sz) := by
  refine MetE.ofW (hh := [(0, 10, 13, 28)]) (cc := b_La_count) (maxL := 5) (ret := (some .int)) (by decide) rfl ?_
  intro p e s m args below meth c s₁ B hml hE hv
  obtain ⟨rfl, hsz, hP, hK, hD0, hN, hZ⟩ := hv
  have hx := B.exec
  have hb := B.bytes
  have hr := B.returns
  have hlocks := B.notSynchronized
  have hts : ∀ w ∈ bw, w.before _ s = true := fun w h => atoms_spec (ws := Cond.codeWith y_La_count b_La_count 5 (some .int) [(0, 10, 13, 28)] :: bw) B.pre w (List.mem_cons_of_mem _ h)
  have hown : s.vm.findClass "ObjectForgeLaw" = some m.cls := findClass_of_methodNamed B.named
  subst hsz
  have hP0 := hP
  have hD := hD0.self (sz := s.heap.size)
  generalize hAe : va_A [(h0, .inr (0, [.ref (qa 0), .ref (qa 1), .ref (qa 2), .int 0])), (ho, .inl (cj, 1, .inr (.inl (fun _ => 0))))] s.heap.size = A at hD hZ ⊢
  have hA : ∀ q : Nat, s.heap.size ≤ q → A q := fun q h => by rw [← hAe]; exact Or.inr h
  have hS : va_S A s.heap s.heap [] := va_S.rf
  have hl := lv_entry ([.ref h0, .int 3, .int p1, .ref ho]) (n := 5) (Nat.le_of_ble_eq_true rfl)
  rw [lg_entry_eq]
  generalize (lg_sl ([.ref h0, .int 3, .int p1, .ref ho]) ++ List.replicate (5 - (lg_sl ([.ref h0, .int 3, .int p1, .ref ho])).length) Slot.unset).toArray = ls at hl ⊢
  have hl : lv_has ls 5 [(0, .ref h0), (1, .int 3), (2, .int p1), (3, .ref ho)] := hl
  refine lv_aload_n hx hb d_La_count_0 rfl (lv_at hl 3 rfl) ?_
  refine lv_iconst (v := 0) hx hb d_La_count_1 (by decide) ?_
  refine lv_aload_n hx hb d_La_count_2 rfl (lv_at hl 0 rfl) ?_
  refine lv_iload_n hx hb d_La_count_3 rfl (lv_at hl 1 rfl) ?_
  refine lv_iload_n hx hb d_La_count_4 rfl (lv_at hl 2 rfl) ?_
  refine xt_V (As := [.int 3, .int p1]) (rest := [.int 0, .ref ho]) (n := 2) (wc := [(h0, .inr (0, [.ref (qa 0), .ref (qa 1), .ref (qa 2), .int 0]))]) (wr := [(ho, .inl (cj, 1, .inr (.inl (fun _ => 0))))]) (tc := [])  ⟨hx, hb, hml, hown, hts⟩ (c_OF_count_3_n l htr D h0 qa p1 hk s.heap.size) rfl rfl w_388 w_385 w_386 w_387 w_1 (by decide +kernel) ⟨Nat.le_of_ble_eq_true rfl, Nat.le_of_ble_eq_true rfl⟩ hP hD hK hS hA hN hZ [0] [1] rfl rfl (by decide) (by decide) (by decide) [] rfl (ci := 0) (q0 := 0) (q := (R_OF, F_OF, 4)) rfl rfl rfl rfl hl.1 rfl (Nat.le_of_ble_eq_true rfl) d_La_count_5 ⟨Nat.le_of_ble_eq_true rfl, Nat.le_of_ble_eq_true rfl⟩ (fun x H locs hxn hcell hP hD hS => ?_)
  refine WT.catch1 (pc' := 13) (nm := "java/lang/IndexOutOfBoundsException") hown (show c.exceptionTable.toList = [⟨0, 10, 13, 28⟩] from hE) rfl (by decide) rfl (hts _ w_298) hcell (va_tabs rfl rfl (hN.1 (.castable "java/lang/IndexOutOfBoundsException" "java/lang/IndexOutOfBoundsException") (by simp [xnF]))) ?_
  refine lv_astore (lv' := [(4, .ref x), (0, .ref h0), (1, .int 3), (2, .int p1), (3, .ref ho)]) hx hb d_La_count_13 hl (by decide) rfl (fun ls hl => ?_)
  refine lv_iconst (v := 1) hx hb d_La_count_15 (by decide) ?_
  exact xr_i hx hb hr hlocks hP hD hK hS (()) [0] rfl rfl (by decide) [0] rfl rfl d_La_count_16

set_option maxHeartbeats 4000000 in
set_option maxRecDepth 100000 in
theorem c_La_count_3_g (l : Launch) (htr : l.stackTraces = false) (D : va_G) (h0 ho : Nat) (cj : ClassId) (qa : Nat → Nat) (qk : Nat → ClassId) (p1 : Int32) (hk : ¬ p1 < 0) (hg : ¬ p1 < 0) (sz : Nat) : Met l y_La_count (Cond.codeWith y_La_count b_La_count 5 (some .int) [(0, 10, 13, 28)] :: bw) (xR 6 1 6) (va_Pc [.ref h0, .int 3, .int p1, .ref ho] (xP D [(cj, .long)] sz [(h0, .inr (0, [.ref (qa 0), .ref (qa 1), .ref (qa 2), .int 0])), (ho, .inl (cj, 1, .inr (.inl (fun _ => 0))))])) (xQ (S := Unit) (fun _ => some (.int 1)) (fun _ => [(ho, .inl (cj, 1, .inr (.inl (fun _ => 0))))]) (fun _ => [(cj, .long)]) D (va_A [(h0, .inr (0, [.ref (qa 0), .ref (qa 1), .ref (qa 2), .int 0])), (ho, .inl (cj, 1, .inr (.inl (fun _ => 0))))] sz)) 1 6 (va_A [(h0, .inr (0, [.ref (qa 0), .ref (qa 1), .ref (qa 2), .int 0])), (ho, .inl (cj, 1, .inr (.inl (fun _ => 0))))] sz) := by
  refine MetE.ofW (hh := [(0, 10, 13, 28)]) (cc := b_La_count) (maxL := 5) (ret := (some .int)) (by decide) rfl ?_
  intro p e s m args below meth c s₁ B hml hE hv
  obtain ⟨rfl, hsz, hP, hK, hD0, hN, hZ⟩ := hv
  have hx := B.exec
  have hb := B.bytes
  have hr := B.returns
  have hlocks := B.notSynchronized
  have hts : ∀ w ∈ bw, w.before _ s = true := fun w h => atoms_spec (ws := Cond.codeWith y_La_count b_La_count 5 (some .int) [(0, 10, 13, 28)] :: bw) B.pre w (List.mem_cons_of_mem _ h)
  have hown : s.vm.findClass "ObjectForgeLaw" = some m.cls := findClass_of_methodNamed B.named
  subst hsz
  have hP0 := hP
  have hD := hD0.self (sz := s.heap.size)
  generalize hAe : va_A [(h0, .inr (0, [.ref (qa 0), .ref (qa 1), .ref (qa 2), .int 0])), (ho, .inl (cj, 1, .inr (.inl (fun _ => 0))))] s.heap.size = A at hD hZ ⊢
  have hA : ∀ q : Nat, s.heap.size ≤ q → A q := fun q h => by rw [← hAe]; exact Or.inr h
  have hS : va_S A s.heap s.heap [] := va_S.rf
  have hl := lv_entry ([.ref h0, .int 3, .int p1, .ref ho]) (n := 5) (Nat.le_of_ble_eq_true rfl)
  rw [lg_entry_eq]
  generalize (lg_sl ([.ref h0, .int 3, .int p1, .ref ho]) ++ List.replicate (5 - (lg_sl ([.ref h0, .int 3, .int p1, .ref ho])).length) Slot.unset).toArray = ls at hl ⊢
  have hl : lv_has ls 5 [(0, .ref h0), (1, .int 3), (2, .int p1), (3, .ref ho)] := hl
  refine lv_aload_n hx hb d_La_count_0 rfl (lv_at hl 3 rfl) ?_
  refine lv_iconst (v := 0) hx hb d_La_count_1 (by decide) ?_
  refine lv_aload_n hx hb d_La_count_2 rfl (lv_at hl 0 rfl) ?_
  refine lv_iload_n hx hb d_La_count_3 rfl (lv_at hl 1 rfl) ?_
  refine lv_iload_n hx hb d_La_count_4 rfl (lv_at hl 2 rfl) ?_
  refine xt_V (As := [.int 3, .int p1]) (rest := [.int 0, .ref ho]) (n := 2) (wc := [(h0, .inr (0, [.ref (qa 0), .ref (qa 1), .ref (qa 2), .int 0]))]) (wr := [(ho, .inl (cj, 1, .inr (.inl (fun _ => 0))))]) (tc := [])  ⟨hx, hb, hml, hown, hts⟩ (c_OF_count_3_g l htr D h0 qa p1 hk hg s.heap.size) rfl rfl w_388 w_385 w_386 w_387 w_1 (by decide +kernel) ⟨Nat.le_of_ble_eq_true rfl, Nat.le_of_ble_eq_true rfl⟩ hP hD hK hS hA hN hZ [0] [1] rfl rfl (by decide) (by decide) (by decide) [] rfl (ci := 0) (q0 := 0) (q := (R_OF, F_OF, 4)) rfl rfl rfl rfl hl.1 rfl (Nat.le_of_ble_eq_true rfl) d_La_count_5 ⟨Nat.le_of_ble_eq_true rfl, Nat.le_of_ble_eq_true rfl⟩ (fun x H locs hxn hcell hP hD hS => ?_)
  refine WT.catch1 (pc' := 13) (nm := "java/lang/IndexOutOfBoundsException") hown (show c.exceptionTable.toList = [⟨0, 10, 13, 28⟩] from hE) rfl (by decide) rfl (hts _ w_298) hcell (va_tabs rfl rfl (hN.1 (.castable "java/lang/IndexOutOfBoundsException" "java/lang/IndexOutOfBoundsException") (by simp [xnF]))) ?_
  refine lv_astore (lv' := [(4, .ref x), (0, .ref h0), (1, .int 3), (2, .int p1), (3, .ref ho)]) hx hb d_La_count_13 hl (by decide) rfl (fun ls hl => ?_)
  refine lv_iconst (v := 1) hx hb d_La_count_15 (by decide) ?_
  exact xr_i hx hb hr hlocks hP hD hK hS (()) [0] rfl rfl (by decide) [0] rfl rfl d_La_count_16

set_option maxHeartbeats 4000000 in
set_option maxRecDepth 100000 in
theorem c_La_count_x (l : Launch) (htr : l.stackTraces = false) (D : va_G) (h0 ho : Nat) (cj : ClassId) (qa : Nat → Nat) (qk : Nat → ClassId) (p0 p1 : Int32) (h1 : p0.toInt < 0 ∨ 3 < p0.toInt) (sz : Nat) : Met l y_La_count (Cond.codeWith y_La_count b_La_count 5 (some .int) [(0, 10, 13, 28)] :: bw) (xR 6 1 6) (va_Pc [.ref h0, .int p0, .int p1, .ref ho] (xP D [(cj, .long)] sz [(h0, .inr (0, [.ref (qa 0), .ref (qa 1), .ref (qa 2), .int 0])), (ho, .inl (cj, 1, .inr (.inl (fun _ => 0))))])) (xQ (S := Unit) (fun _ => some (.int 1)) (fun _ => [(ho, .inl (cj, 1, .inr (.inl (fun _ => 0))))]) (fun _ => [(cj, .long)]) D (va_A [(h0, .inr (0, [.ref (qa 0), .ref (qa 1), .ref (qa 2), .int 0])), (ho, .inl (cj, 1, .inr (.inl (fun _ => 0))))] sz)) 1 6 (va_A [(h0, .inr (0, [.ref (qa 0), .ref (qa 1), .ref (qa 2), .int 0])), (ho, .inl (cj, 1, .inr (.inl (fun _ => 0))))] sz) := by
  refine MetE.ofW (hh := [(0, 10, 13, 28)]) (cc := b_La_count) (maxL := 5) (ret := (some .int)) (by decide) rfl ?_
  intro p e s m args below meth c s₁ B hml hE hv
  obtain ⟨rfl, hsz, hP, hK, hD0, hN, hZ⟩ := hv
  have hx := B.exec
  have hb := B.bytes
  have hr := B.returns
  have hlocks := B.notSynchronized
  have hts : ∀ w ∈ bw, w.before _ s = true := fun w h => atoms_spec (ws := Cond.codeWith y_La_count b_La_count 5 (some .int) [(0, 10, 13, 28)] :: bw) B.pre w (List.mem_cons_of_mem _ h)
  have hown : s.vm.findClass "ObjectForgeLaw" = some m.cls := findClass_of_methodNamed B.named
  subst hsz
  have hP0 := hP
  have hD := hD0.self (sz := s.heap.size)
  generalize hAe : va_A [(h0, .inr (0, [.ref (qa 0), .ref (qa 1), .ref (qa 2), .int 0])), (ho, .inl (cj, 1, .inr (.inl (fun _ => 0))))] s.heap.size = A at hD hZ ⊢
  have hA : ∀ q : Nat, s.heap.size ≤ q → A q := fun q h => by rw [← hAe]; exact Or.inr h
  have hS : va_S A s.heap s.heap [] := va_S.rf
  have hl := lv_entry ([.ref h0, .int p0, .int p1, .ref ho]) (n := 5) (Nat.le_of_ble_eq_true rfl)
  rw [lg_entry_eq]
  generalize (lg_sl ([.ref h0, .int p0, .int p1, .ref ho]) ++ List.replicate (5 - (lg_sl ([.ref h0, .int p0, .int p1, .ref ho])).length) Slot.unset).toArray = ls at hl ⊢
  have hl : lv_has ls 5 [(0, .ref h0), (1, .int p0), (2, .int p1), (3, .ref ho)] := hl
  refine lv_aload_n hx hb d_La_count_0 rfl (lv_at hl 3 rfl) ?_
  refine lv_iconst (v := 0) hx hb d_La_count_1 (by decide) ?_
  refine lv_aload_n hx hb d_La_count_2 rfl (lv_at hl 0 rfl) ?_
  refine lv_iload_n hx hb d_La_count_3 rfl (lv_at hl 1 rfl) ?_
  refine lv_iload_n hx hb d_La_count_4 rfl (lv_at hl 2 rfl) ?_
  refine xt_V (As := [.int p0, .int p1]) (rest := [.int 0, .ref ho]) (n := 2) (wc := [(h0, .inr (0, [.ref (qa 0), .ref (qa 1), .ref (qa 2), .int 0]))]) (wr := [(ho, .inl (cj, 1, .inr (.inl (fun _ => 0))))]) (tc := [])  ⟨hx, hb, hml, hown, hts⟩ (c_OF_count_x l htr D h0 qa p0 p1 h1 s.heap.size) rfl rfl w_388 w_385 w_386 w_387 w_1 (by decide +kernel) ⟨Nat.le_of_ble_eq_true rfl, Nat.le_of_ble_eq_true rfl⟩ hP hD hK hS hA hN hZ [0] [1] rfl rfl (by decide) (by decide) (by decide) [] rfl (ci := 0) (q0 := 0) (q := (R_OF, F_OF, 4)) rfl rfl rfl rfl hl.1 rfl (Nat.le_of_ble_eq_true rfl) d_La_count_5 ⟨Nat.le_of_ble_eq_true rfl, Nat.le_of_ble_eq_true rfl⟩ (fun x H locs hxn hcell hP hD hS => ?_)
  refine WT.catch1 (pc' := 13) (nm := "java/lang/IndexOutOfBoundsException") hown (show c.exceptionTable.toList = [⟨0, 10, 13, 28⟩] from hE) rfl (by decide) rfl (hts _ w_298) hcell (va_tabs rfl rfl (hN.1 (.castable "java/lang/IndexOutOfBoundsException" "java/lang/IndexOutOfBoundsException") (by simp [xnF]))) ?_
  refine lv_astore (lv' := [(4, .ref x), (0, .ref h0), (1, .int p0), (2, .int p1), (3, .ref ho)]) hx hb d_La_count_13 hl (by decide) rfl (fun ls hl => ?_)
  refine lv_iconst (v := 1) hx hb d_La_count_15 (by decide) ?_
  exact xr_i hx hb hr hlocks hP hD hK hS (()) [0] rfl rfl (by decide) [0] rfl rfl d_La_count_16
