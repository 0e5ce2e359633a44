set_option maxHeartbeats 4000000 in
set_option maxRecDepth 100000 in
theorem l_byteAt_g {p : Program} {l : Launch} {e : Env} {s : State} {m : MethodId} {below : List Frame} {meth : Method} {c : Code} {b : Nat} {xs : Nat → Int32} (htr : l.stackTraces = false) (C0 : lw_At p s m meth c b 5 xs) {A : Nat → Prop} (hA : ∀ q, s.heap.size ≤ q → A q) (hAf : ∀ q, A q → s.heap.size ≤ q) (hN : xN s) (hZ : xZ A s s.heap) {D : va_G} {qx qm qo : Nat} {cj : ClassId} {qa qb : Nat → Nat} {qk ql : Nat → ClassId} {uf : Nat → Option Nat} {H : Heap} {locs : List Loc} (hk : ¬ xs 1 < 0) (hP : va_P D cls (lawW qx qm qo cj qa qb qk ql uf) H) (hD : va_D A (lawW qx qm qo cj qa qb qk ql uf)) (hK : va_K D cls (lawT cj qk ql) s) (hS : va_S A s.heap H locs) {ls : Array Slot} (hl : lv_has ls 7 [(4, .int 0), (3, .ref qo), (2, .ref qm), (1, .ref qx), (0, .ref b)]) : W p l e room_1 s m #[Value.ref b] below meth c H locs 223 300058 (lw_Z below #[Value.ref b] s) (F0 m 424 ls []) := by
  obtain ⟨hx, hb, hr, hml, hown, hts0, hX, hbl, hlocks, hgv⟩ := id C0
  have hown : s.vm.findClass "ObjectForgeLaw" = some m.cls := hown
  have hbA : ¬ A b := fun h => absurd (hAf b h) (Nat.not_le.mpr hbl)
  have hts : ∀ w ∈ bw, w.before #[Value.ref b] s = true := fun w h => hts0 w (bw_in w h)
  have hP : va_P D cls [(qx, .inr (0, [.ref (qa 0), .ref (qa 1), .ref (qa 2), .int 0])), (qm, .inr (7, [.int 0, .int 0, .int 0, .int 0, .int 0, .int 0, .int (-1), .int (-1), .int 0, .int 0, .int 0, .int 0, .int 0, .int 0, .int 0, .int 0, .ref (qb 0), .ref (qb 1), .ref (qb 2), .ref (qb 3), .int 0, .ref (qb 4), .ref (qb 5), .ref (qb 6), .ref (qb 7), .ref (qb 8), .ref (qb 9), .ref (qb 10), .ref (qb 11), .ref (qb 12), .ref (qb 13), .ref (qb 14), .ref (qb 15), .ref (qb 16), .ref (qb 17), .ref (qb 18), .ref (qb 19), .ref (qb 20), .int 0, .int 0, .int 0, .int 0, .long 0, .long 0, .long 0, .long 0, .long 0, .ref (qb 21), .int 0, .int 0, .int 0, .int 0])), (qo, .inl (cj, 1, .inr (.inl (fun _ => 0))))] H := hP.sub [0, 10, 15] rfl
  have hD : va_D A [(qx, .inr (0, [.ref (qa 0), .ref (qa 1), .ref (qa 2), .int 0])), (qm, .inr (7, [.int 0, .int 0, .int 0, .int 0, .int 0, .int 0, .int (-1), .int (-1), .int 0, .int 0, .int 0, .int 0, .int 0, .int 0, .int 0, .int 0, .ref (qb 0), .ref (qb 1), .ref (qb 2), .ref (qb 3), .int 0, .ref (qb 4), .ref (qb 5), .ref (qb 6), .ref (qb 7), .ref (qb 8), .ref (qb 9), .ref (qb 10), .ref (qb 11), .ref (qb 12), .ref (qb 13), .ref (qb 14), .ref (qb 15), .ref (qb 16), .ref (qb 17), .ref (qb 18), .ref (qb 19), .ref (qb 20), .int 0, .int 0, .int 0, .int 0, .long 0, .long 0, .long 0, .long 0, .long 0, .ref (qb 21), .int 0, .int 0, .int 0, .int 0])), (qo, .inl (cj, 1, .inr (.inl (fun _ => 0))))] := hD.sub [0, 10, 15] (by decide) rfl
  have hK : va_K D cls [(cj, .long)] s := hK.sub [7] rfl
  refine lv_aload_n hx hb d_law_424 rfl (lv_at hl 3 rfl) ?_
  refine lv_aload_n hx hb d_law_425 rfl (lv_at hl 4 rfl) ?_
  refine lv_iload hx hb d_law_426 (lv_at hl 0 rfl) ?_
  refine lv_iconst (v := 1) hx hb d_law_428 (by decide) ?_
  refine lv_iadd hx hb d_law_429 ?_
  refine lv_topi (fun z1 ez1 => ?_)
  obtain rfl : z1 = 1 := ez1.trans (by decide)
  refine va_sld hx hb hX hbl hbA hS (by unfold vp_in; decide) d_law_430 ?_
  refine W.eq (g2 := F0 m 431 ls [.int (xs 1), .ref qx]) rfl ?_
  refine lv_aload_n hx hb d_law_431 rfl (lv_at hl 4 rfl) ?_
  refine lv_iload hx hb d_law_432 (lv_at hl 0 rfl) ?_
  refine lv_iconst (v := 2) hx hb d_law_434 (by decide) ?_
  refine lv_iadd hx hb d_law_435 ?_
  refine lv_topi (fun z2 ez2 => ?_)
  obtain rfl : z2 = 2 := ez2.trans (by decide)
  refine va_sld hx hb hX hbl hbA hS (by unfold vp_in; decide) d_law_436 ?_
  refine W.eq (g2 := F0 m 437 ls [.int (xs 2), .int (xs 1), .ref qx]) rfl ?_
  refine lv_aload_n hx hb d_law_437 rfl (lv_at hl 4 rfl) ?_
  refine lv_iload hx hb d_law_438 (lv_at hl 0 rfl) ?_
  refine lv_iconst (v := 3) hx hb d_law_440 (by decide) ?_
  refine lv_iadd hx hb d_law_441 ?_
  refine lv_topi (fun z3 ez3 => ?_)
  obtain rfl : z3 = 3 := ez3.trans (by decide)
  refine va_sld hx hb hX hbl hbA hS (by unfold vp_in; decide) d_law_442 ?_
  refine W.eq (g2 := F0 m 443 ls [.int (xs 3), .int (xs 2), .int (xs 1), .ref qx]) rfl ?_
  refine lv_aload_n hx hb d_law_443 rfl (lv_at hl 1 rfl) ?_
  refine xc_SW (As := [.ref qx, .int (xs 1), .int (xs 2), .int (xs 3), .ref qo]) (rest := []) (n := 5) (wc := [(qx, .inr (0, [.ref (qa 0), .ref (qa 1), .ref (qa 2), .int 0])), (qo, .inl (cj, 1, .inr (.inl (fun _ => 0))))]) (wr := [(qm, .inr (7, [.int 0, .int 0, .int 0, .int 0, .int 0, .int 0, .int (-1), .int (-1), .int 0, .int 0, .int 0, .int 0, .int 0, .int 0, .int 0, .int 0, .ref (qb 0), .ref (qb 1), .ref (qb 2), .ref (qb 3), .int 0, .ref (qb 4), .ref (qb 5), .ref (qb 6), .ref (qb 7), .ref (qb 8), .ref (qb 9), .ref (qb 10), .ref (qb 11), .ref (qb 12), .ref (qb 13), .ref (qb 14), .ref (qb 15), .ref (qb 16), .ref (qb 17), .ref (qb 18), .ref (qb 19), .ref (qb 20), .int 0, .int 0, .int 0, .int 0, .long 0, .long 0, .long 0, .long 0, .long 0, .ref (qb 21), .int 0, .int 0, .int 0, .int 0]))]) (tc := [(cj, .long)]) (tr := []) ⟨hx, hb, hml, hown, hts⟩ (c_La_byteAt_g l htr D qx qo cj qa qk (xs 1) (xs 2) (xs 3) hk hk H.size) rfl rfl w_329 w_327 w_328 w_0 (by decide +kernel) ⟨Nat.le_of_ble_eq_true rfl, Nat.le_of_ble_eq_true rfl⟩ hP hD hK hS hA hN hZ [0, 2] [1] rfl rfl (by decide) (by decide) (by decide) [0] [] rfl rfl rfl hl.1 rfl (Nat.le_of_ble_eq_true rfl) d_law_444 ⟨Nat.le_of_ble_eq_true rfl, Nat.le_of_ble_eq_true rfl⟩ (fun u4 H locs hP hD hK hS => ?_)
  have hP : va_P D cls [(qm, .inr (7, [.int 0, .int 0, .int 0, .int 0, .int 0, .int 0, .int (-1), .int (-1), .int 0, .int 0, .int 0, .int 0, .int 0, .int 0, .int 0, .int 0, .ref (qb 0), .ref (qb 1), .ref (qb 2), .ref (qb 3), .int 0, .ref (qb 4), .ref (qb 5), .ref (qb 6), .ref (qb 7), .ref (qb 8), .ref (qb 9), .ref (qb 10), .ref (qb 11), .ref (qb 12), .ref (qb 13), .ref (qb 14), .ref (qb 15), .ref (qb 16), .ref (qb 17), .ref (qb 18), .ref (qb 19), .ref (qb 20), .int 0, .int 0, .int 0, .int 0, .long 0, .long 0, .long 0, .long 0, .long 0, .ref (qb 21), .int 0, .int 0, .int 0, .int 0])), (qo, .inl (cj, 1, .inr (.inl (fun _ => 0))))] H := hP
  have hD : va_D A [(qm, .inr (7, [.int 0, .int 0, .int 0, .int 0, .int 0, .int 0, .int (-1), .int (-1), .int 0, .int 0, .int 0, .int 0, .int 0, .int 0, .int 0, .int 0, .ref (qb 0), .ref (qb 1), .ref (qb 2), .ref (qb 3), .int 0, .ref (qb 4), .ref (qb 5), .ref (qb 6), .ref (qb 7), .ref (qb 8), .ref (qb 9), .ref (qb 10), .ref (qb 11), .ref (qb 12), .ref (qb 13), .ref (qb 14), .ref (qb 15), .ref (qb 16), .ref (qb 17), .ref (qb 18), .ref (qb 19), .ref (qb 20), .int 0, .int 0, .int 0, .int 0, .long 0, .long 0, .long 0, .long 0, .long 0, .ref (qb 21), .int 0, .int 0, .int 0, .int 0])), (qo, .inl (cj, 1, .inr (.inl (fun _ => 0))))] := hD
  have hK : va_K D cls [(cj, .long)] s := hK
  refine W.widen (k := 224) (n := 300064) (by omega) (by omega) ?_
  refine W.eq (g2 := F0 m 447 ls [.int 1]) rfl ?_
  refine lv_istore (lv' := [(5, .int 1), (4, .int 0), (3, .ref qo), (2, .ref qm), (1, .ref qx), (0, .ref b)]) hx hb d_law_447 hl (by decide) rfl (fun ls hl => ?_)
  refine lv_aload_n hx hb d_law_449 rfl (lv_at hl 3 rfl) ?_
  refine lv_aload_n hx hb d_law_450 rfl (lv_at hl 5 rfl) ?_
  refine lv_iload hx hb d_law_451 (lv_at hl 1 rfl) ?_
  refine lv_iconst (v := 1) hx hb d_law_453 (by decide) ?_
  refine lv_iadd hx hb d_law_454 ?_
  refine lv_topi (fun z5 ez5 => ?_)
  obtain rfl : z5 = 1 := ez5.trans (by decide)
  refine va_sld hx hb hX hbl hbA hS (by unfold vp_in; decide) d_law_455 ?_
  refine W.eq (g2 := F0 m 456 ls [.int (xs 1), .ref qm]) rfl ?_
  refine lv_aload_n hx hb d_law_456 rfl (lv_at hl 5 rfl) ?_
  refine lv_iload hx hb d_law_457 (lv_at hl 1 rfl) ?_
  refine lv_iconst (v := 2) hx hb d_law_459 (by decide) ?_
  refine lv_iadd hx hb d_law_460 ?_
  refine lv_topi (fun z6 ez6 => ?_)
  obtain rfl : z6 = 2 := ez6.trans (by decide)
  refine va_sld hx hb hX hbl hbA hS (by unfold vp_in; decide) d_law_461 ?_
  refine W.eq (g2 := F0 m 462 ls [.int (xs 2), .int (xs 1), .ref qm]) rfl ?_
  refine lv_aload_n hx hb d_law_462 rfl (lv_at hl 5 rfl) ?_
  refine lv_iload hx hb d_law_463 (lv_at hl 1 rfl) ?_
  refine lv_iconst (v := 3) hx hb d_law_465 (by decide) ?_
  refine lv_iadd hx hb d_law_466 ?_
  refine lv_topi (fun z7 ez7 => ?_)
  obtain rfl : z7 = 3 := ez7.trans (by decide)
  refine va_sld hx hb hX hbl hbA hS (by unfold vp_in; decide) d_law_467 ?_
  refine W.eq (g2 := F0 m 468 ls [.int (xs 3), .int (xs 2), .int (xs 1), .ref qm]) rfl ?_
  refine xc_V (As := [.int (xs 1), .int (xs 2), .int (xs 3)]) (rest := []) (n := 3) (wc := [(qm, .inr (7, [.int 0, .int 0, .int 0, .int 0, .int 0, .int 0, .int (-1), .int (-1), .int 0, .int 0, .int 0, .int 0, .int 0, .int 0, .int 0, .int 0, .ref (qb 0), .ref (qb 1), .ref (qb 2), .ref (qb 3), .int 0, .ref (qb 4), .ref (qb 5), .ref (qb 6), .ref (qb 7), .ref (qb 8), .ref (qb 9), .ref (qb 10), .ref (qb 11), .ref (qb 12), .ref (qb 13), .ref (qb 14), .ref (qb 15), .ref (qb 16), .ref (qb 17), .ref (qb 18), .ref (qb 19), .ref (qb 20), .int 0, .int 0, .int 0, .int 0, .long 0, .long 0, .long 0, .long 0, .long 0, .ref (qb 21), .int 0, .int 0, .int 0, .int 0]))]) (wr := [(qo, .inl (cj, 1, .inr (.inl (fun _ => 0))))]) (tc := []) (tr := [(cj, .long)]) ⟨hx, hb, hml, hown, hts⟩ (c_Mo_byteAt_g l D qm qb (xs 1) (xs 2) (xs 3) hk (x_ge hk) H.size) rfl rfl w_514 w_511 w_512 w_513 w_8 (by decide +kernel) ⟨Nat.le_of_ble_eq_true rfl, Nat.le_of_ble_eq_true rfl⟩ hP hD hK hS hA hN hZ [0] [1] rfl rfl (by decide) (by decide) (by decide) [] [0] rfl rfl (ci := 7) (q0 := 0) (q := (R_Mo, F_Mo, 52)) rfl rfl rfl rfl hl.1 rfl (Nat.le_of_ble_eq_true rfl) d_law_468 ⟨Nat.le_of_ble_eq_true rfl, Nat.le_of_ble_eq_true rfl⟩ (fun u8 H locs hP hD hK hS => ?_)
  have hP : va_P D cls [(qo, .inl (cj, 1, .inr (.inl (fun _ => 0)))), (qm, .inr (7, [.int 1, .int 0, .int 0, .int 0, .int 0, .int 0, .int (-1), .int (-1), .int 0, .int 0, .int 0, .int 0, .int 0, .int 0, .int 0, .int 0, .ref (qb 0), .ref (qb 1), .ref (qb 2), .ref (qb 3), .int 0, .ref (qb 4), .ref (qb 5), .ref (qb 6), .ref (qb 7), .ref (qb 8), .ref (qb 9), .ref (qb 10), .ref (qb 11), .ref (qb 12), .ref (qb 13), .ref (qb 14), .ref (qb 15), .ref (qb 16), .ref (qb 17), .ref (qb 18), .ref (qb 19), .ref (qb 20), .int 0, .int 0, .int 0, .int 0, .long 0, .long 0, .long 0, .long 0, .long 0, .ref (qb 21), .int 0, .int 0, .int 0, .int 0]))] H := hP
  have hD : va_D A [(qo, .inl (cj, 1, .inr (.inl (fun _ => 0)))), (qm, .inr (7, [.int 1, .int 0, .int 0, .int 0, .int 0, .int 0, .int (-1), .int (-1), .int 0, .int 0, .int 0, .int 0, .int 0, .int 0, .int 0, .int 0, .ref (qb 0), .ref (qb 1), .ref (qb 2), .ref (qb 3), .int 0, .ref (qb 4), .ref (qb 5), .ref (qb 6), .ref (qb 7), .ref (qb 8), .ref (qb 9), .ref (qb 10), .ref (qb 11), .ref (qb 12), .ref (qb 13), .ref (qb 14), .ref (qb 15), .ref (qb 16), .ref (qb 17), .ref (qb 18), .ref (qb 19), .ref (qb 20), .int 0, .int 0, .int 0, .int 0, .long 0, .long 0, .long 0, .long 0, .long 0, .ref (qb 21), .int 0, .int 0, .int 0, .int 0]))] := hD
  have hK : va_K D cls [(cj, .long)] s := hK
  refine W.eq (g2 := F0 m 471 ls [.int 0]) rfl ?_
  refine lv_istore (lv' := [(6, .int 0), (5, .int 1), (4, .int 0), (3, .ref qo), (2, .ref qm), (1, .ref qx), (0, .ref b)]) hx hb d_law_471 hl (by decide) rfl (fun ls hl => ?_)
  refine lv_aload_n hx hb d_law_473 rfl (lv_at hl 4 rfl) ?_
  refine xc_V (As := []) (rest := []) (n := 0) (wc := [(qm, .inr (7, [.int 1, .int 0, .int 0, .int 0, .int 0, .int 0, .int (-1), .int (-1), .int 0, .int 0, .int 0, .int 0, .int 0, .int 0, .int 0, .int 0, .ref (qb 0), .ref (qb 1), .ref (qb 2), .ref (qb 3), .int 0, .ref (qb 4), .ref (qb 5), .ref (qb 6), .ref (qb 7), .ref (qb 8), .ref (qb 9), .ref (qb 10), .ref (qb 11), .ref (qb 12), .ref (qb 13), .ref (qb 14), .ref (qb 15), .ref (qb 16), .ref (qb 17), .ref (qb 18), .ref (qb 19), .ref (qb 20), .int 0, .int 0, .int 0, .int 0, .long 0, .long 0, .long 0, .long 0, .long 0, .ref (qb 21), .int 0, .int 0, .int 0, .int 0]))]) (wr := [(qo, .inl (cj, 1, .inr (.inl (fun _ => 0))))]) (tc := []) (tr := [(cj, .long)]) ⟨hx, hb, hml, hown, hts⟩ (c_Mo_thrown_1 l D qm qb H.size) rfl rfl w_445 w_442 w_443 w_444 w_8 (by decide +kernel) ⟨Nat.le_of_ble_eq_true rfl, Nat.le_of_ble_eq_true rfl⟩ hP hD hK hS hA hN hZ [1] [0] rfl rfl (by decide) (by decide) (by decide) [] [0] rfl rfl (ci := 7) (q0 := 0) (q := (R_Mo, F_Mo, 52)) rfl rfl rfl rfl hl.1 rfl (Nat.le_of_ble_eq_true rfl) d_law_474 ⟨Nat.le_of_ble_eq_true rfl, Nat.le_of_ble_eq_true rfl⟩ (fun u9 H locs hP hD hK hS => ?_)
  have hP : va_P D cls [(qo, .inl (cj, 1, .inr (.inl (fun _ => 0)))), (qm, .inr (7, [.int 1, .int 0, .int 0, .int 0, .int 0, .int 0, .int (-1), .int (-1), .int 0, .int 0, .int 0, .int 0, .int 0, .int 0, .int 0, .int 0, .ref (qb 0), .ref (qb 1), .ref (qb 2), .ref (qb 3), .int 0, .ref (qb 4), .ref (qb 5), .ref (qb 6), .ref (qb 7), .ref (qb 8), .ref (qb 9), .ref (qb 10), .ref (qb 11), .ref (qb 12), .ref (qb 13), .ref (qb 14), .ref (qb 15), .ref (qb 16), .ref (qb 17), .ref (qb 18), .ref (qb 19), .ref (qb 20), .int 0, .int 0, .int 0, .int 0, .long 0, .long 0, .long 0, .long 0, .long 0, .ref (qb 21), .int 0, .int 0, .int 0, .int 0]))] H := hP
  have hD : va_D A [(qo, .inl (cj, 1, .inr (.inl (fun _ => 0)))), (qm, .inr (7, [.int 1, .int 0, .int 0, .int 0, .int 0, .int 0, .int (-1), .int (-1), .int 0, .int 0, .int 0, .int 0, .int 0, .int 0, .int 0, .int 0, .ref (qb 0), .ref (qb 1), .ref (qb 2), .ref (qb 3), .int 0, .ref (qb 4), .ref (qb 5), .ref (qb 6), .ref (qb 7), .ref (qb 8), .ref (qb 9), .ref (qb 10), .ref (qb 11), .ref (qb 12), .ref (qb 13), .ref (qb 14), .ref (qb 15), .ref (qb 16), .ref (qb 17), .ref (qb 18), .ref (qb 19), .ref (qb 20), .int 0, .int 0, .int 0, .int 0, .long 0, .long 0, .long 0, .long 0, .long 0, .ref (qb 21), .int 0, .int 0, .int 0, .int 0]))] := hD
  have hK : va_K D cls [(cj, .long)] s := hK
  refine W.eq (g2 := F0 m 477 ls [.int 1]) rfl ?_
  refine lv_iload hx hb d_law_477 (lv_at hl 1 rfl) ?_
  refine lv_icmp_eq (tgt := 484) hx hb d_law_479 (by decide) (fun _ => ?_) (fun q9 => absurd (by decide : ((1 : Int32) = 1)) q9)
  refine lv_iload hx hb d_law_484 (lv_at hl 1 rfl) ?_
  refine lv_if_ne (tgt := 501) hx hb d_law_486 (by decide) (fun _ => ?_) (fun q9 => absurd q9 (by decide : ¬ ((1 : Int32) = 0)))
  refine lv_goto (tgt := 1005) hx hb d_law_501 (by decide) ?_
  exact law_tail C0 hA hAf hS (Nat.le_of_ble_eq_true rfl) (Nat.le_of_ble_eq_true rfl) (lv_sub hl [6, 2] rfl)

theorem d_law_504 : decode code 504 = .ok (.aload_n 1, 1) := by decide +kernel
theorem d_law_505 : decode code 505 = .ok (.aload_n 0, 1) := by decide +kernel
theorem d_law_506 : decode code 506 = .ok (.iload 4, 2) := by decide +kernel
theorem d_law_508 : decode code 508 = .ok (.iconst 1, 1) := by decide +kernel
theorem d_law_509 : decode code 509 = .ok (.iadd, 1) := by decide +kernel
theorem d_law_510 : decode code 510 = .ok (.iaload, 1) := by decide +kernel
theorem d_law_511 : decode code 511 = .ok (.aload_n 0, 1) := by decide +kernel
theorem d_law_512 : decode code 512 = .ok (.iload 4, 2) := by decide +kernel
theorem d_law_514 : decode code 514 = .ok (.iconst 2, 1) := by decide +kernel
theorem d_law_515 : decode code 515 = .ok (.iadd, 1) := by decide +kernel
theorem d_law_516 : decode code 516 = .ok (.iaload, 1) := by decide +kernel
theorem d_law_517 : decode code 517 = .ok (.aload_n 0, 1) := by decide +kernel
theorem d_law_518 : decode code 518 = .ok (.iload 4, 2) := by decide +kernel
theorem d_law_520 : decode code 520 = .ok (.iconst 3, 1) := by decide +kernel
theorem d_law_521 : decode code 521 = .ok (.iadd, 1) := by decide +kernel
theorem d_law_522 : decode code 522 = .ok (.iaload, 1) := by decide +kernel
theorem d_law_523 : decode code 523 = .ok (.aload_n 3, 1) := by decide +kernel
theorem d_law_524 : decode code 524 = .ok (.invokestatic 91, 3) := by decide +kernel
theorem d_law_527 : decode code 527 = .ok (.istore 5, 2) := by decide +kernel
theorem d_law_529 : decode code 529 = .ok (.aload_n 2, 1) := by decide +kernel
theorem d_law_530 : decode code 530 = .ok (.aload_n 0, 1) := by decide +kernel
theorem d_law_531 : decode code 531 = .ok (.iload 4, 2) := by decide +kernel
theorem d_law_533 : decode code 533 = .ok (.iconst 1, 1) := by decide +kernel
theorem d_law_534 : decode code 534 = .ok (.iadd, 1) := by decide +kernel
theorem d_law_535 : decode code 535 = .ok (.iaload, 1) := by decide +kernel
theorem d_law_536 : decode code 536 = .ok (.aload_n 0, 1) := by decide +kernel
theorem d_law_537 : decode code 537 = .ok (.iload 4, 2) := by decide +kernel
theorem d_law_539 : decode code 539 = .ok (.iconst 2, 1) := by decide +kernel
theorem d_law_540 : decode code 540 = .ok (.iadd, 1) := by decide +kernel
theorem d_law_541 : decode code 541 = .ok (.iaload, 1) := by decide +kernel
theorem d_law_542 : decode code 542 = .ok (.aload_n 0, 1) := by decide +kernel
theorem d_law_543 : decode code 543 = .ok (.iload 4, 2) := by decide +kernel
theorem d_law_545 : decode code 545 = .ok (.iconst 3, 1) := by decide +kernel
theorem d_law_546 : decode code 546 = .ok (.iadd, 1) := by decide +kernel
theorem d_law_547 : decode code 547 = .ok (.iaload, 1) := by decide +kernel
theorem d_law_548 : decode code 548 = .ok (.invokevirtual 93, 3) := by decide +kernel
theorem d_law_551 : decode code 551 = .ok (.istore 6, 2) := by decide +kernel
theorem d_law_553 : decode code 553 = .ok (.aload_n 2, 1) := by decide +kernel
theorem d_law_554 : decode code 554 = .ok (.invokevirtual 69, 3) := by decide +kernel
theorem d_law_557 : decode code 557 = .ok (.iload 5, 2) := by decide +kernel
theorem d_law_559 : decode code 559 = .ok (.if_icmp .eq 5, 3) := by decide +kernel
theorem d_law_564 : decode code 564 = .ok (.iload 5, 2) := by decide +kernel
theorem d_law_566 : decode code 566 = .ok (.ifCond .ne 15, 3) := by decide +kernel
theorem d_law_581 : decode code 581 = .ok (.goto 424, 3) := by decide +kernel
set_option maxHeartbeats 4000000 in
set_option maxRecDepth 100000 in
theorem l_symbol_n {p : Program} {l : Launch} {e : Env} {s : State} {m : MethodId} {below : List Frame} {meth : Method} {c : Code} {b : Nat} {xs : Nat → Int32} (htr : l.stackTraces = false) (C0 : lw_At p s m meth c b 5 xs) {A : Nat → Prop} (hA : ∀ q, s.heap.size ≤ q → A q) (hAf : ∀ q, A q → s.heap.size ≤ q) (hN : xN s) (hZ : xZ A s s.heap) {D : va_G} {qx qm qo : Nat} {cj : ClassId} {qa qb : Nat → Nat} {qk ql : Nat → ClassId} {uf : Nat → Option Nat} {H : Heap} {locs : List Loc} (hk : xs 1 < 0) (hP : va_P D cls (lawW qx qm qo cj qa qb qk ql uf) H) (hD : va_D A (lawW qx qm qo cj qa qb qk ql uf)) (hK : va_K D cls (lawT cj qk ql) s) (hS : va_S A s.heap H locs) {ls : Array Slot} (hl : lv_has ls 7 [(4, .int 0), (3, .ref qo), (2, .ref qm), (1, .ref qx), (0, .ref b)]) : W p l e room_1 s m #[Value.ref b] below meth c H locs 223 300058 (lw_Z below #[Value.ref b] s) (F0 m 504 ls []) := by
  obtain ⟨hx, hb, hr, hml, hown, hts0, hX, hbl, hlocks, hgv⟩ := id C0
  have hown : s.vm.findClass "ObjectForgeLaw" = some m.cls := hown
  have hbA : ¬ A b := fun h => absurd (hAf b h) (Nat.not_le.mpr hbl)
  have hts : ∀ w ∈ bw, w.before #[Value.ref b] s = true := fun w h => hts0 w (bw_in w h)
  have hP : va_P D cls [(qx, .inr (0, [.ref (qa 0), .ref (qa 1), .ref (qa 2), .int 0])), (qm, .inr (7, [.int 0, .int 0, .int 0, .int 0, .int 0, .int 0, .int (-1), .int (-1), .int 0, .int 0, .int 0, .int 0, .int 0, .int 0, .int 0, .int 0, .ref (qb 0), .ref (qb 1), .ref (qb 2), .ref (qb 3), .int 0, .ref (qb 4), .ref (qb 5), .ref (qb 6), .ref (qb 7), .ref (qb 8), .ref (qb 9), .ref (qb 10), .ref (qb 11), .ref (qb 12), .ref (qb 13), .ref (qb 14), .ref (qb 15), .ref (qb 16), .ref (qb 17), .ref (qb 18), .ref (qb 19), .ref (qb 20), .int 0, .int 0, .int 0, .int 0, .long 0, .long 0, .long 0, .long 0, .long 0, .ref (qb 21), .int 0, .int 0, .int 0, .int 0])), (qo, .inl (cj, 1, .inr (.inl (fun _ => 0))))] H := hP.sub [0, 10, 15] rfl
  have hD : va_D A [(qx, .inr (0, [.ref (qa 0), .ref (qa 1), .ref (qa 2), .int 0])), (qm, .inr (7, [.int 0, .int 0, .int 0, .int 0, .int 0, .int 0, .int (-1), .int (-1), .int 0, .int 0, .int 0, .int 0, .int 0, .int 0, .int 0, .int 0, .ref (qb 0), .ref (qb 1), .ref (qb 2), .ref (qb 3), .int 0, .ref (qb 4), .ref (qb 5), .ref (qb 6), .ref (qb 7), .ref (qb 8), .ref (qb 9), .ref (qb 10), .ref (qb 11), .ref (qb 12), .ref (qb 13), .ref (qb 14), .ref (qb 15), .ref (qb 16), .ref (qb 17), .ref (qb 18), .ref (qb 19), .ref (qb 20), .int 0, .int 0, .int 0, .int 0, .long 0, .long 0, .long 0, .long 0, .long 0, .ref (qb 21), .int 0, .int 0, .int 0, .int 0])), (qo, .inl (cj, 1, .inr (.inl (fun _ => 0))))] := hD.sub [0, 10, 15] (by decide) rfl
  have hK : va_K D cls [(cj, .long)] s := hK.sub [7] rfl
  refine lv_aload_n hx hb d_law_504 rfl (lv_at hl 3 rfl) ?_
  refine lv_aload_n hx hb d_law_505 rfl (lv_at hl 4 rfl) ?_
  refine lv_iload hx hb d_law_506 (lv_at hl 0 rfl) ?_
  refine lv_iconst (v := 1) hx hb d_law_508 (by decide) ?_
  refine lv_iadd hx hb d_law_509 ?_
  refine lv_topi (fun z1 ez1 => ?_)
  obtain rfl : z1 = 1 := ez1.trans (by decide)
  refine va_sld hx hb hX hbl hbA hS (by unfold vp_in; decide) d_law_510 ?_
  refine W.eq (g2 := F0 m 511 ls [.int (xs 1), .ref qx]) rfl ?_
  refine lv_aload_n hx hb d_law_511 rfl (lv_at hl 4 rfl) ?_
  refine lv_iload hx hb d_law_512 (lv_at hl 0 rfl) ?_
  refine lv_iconst (v := 2) hx hb d_law_514 (by decide) ?_
  refine lv_iadd hx hb d_law_515 ?_
  refine lv_topi (fun z2 ez2 => ?_)
  obtain rfl : z2 = 2 := ez2.trans (by decide)
  refine va_sld hx hb hX hbl hbA hS (by unfold vp_in; decide) d_law_516 ?_
  refine W.eq (g2 := F0 m 517 ls [.int (xs 2), .int (xs 1), .ref qx]) rfl ?_
  refine lv_aload_n hx hb d_law_517 rfl (lv_at hl 4 rfl) ?_
  refine lv_iload hx hb d_law_518 (lv_at hl 0 rfl) ?_
  refine lv_iconst (v := 3) hx hb d_law_520 (by decide) ?_
  refine lv_iadd hx hb d_law_521 ?_
  refine lv_topi (fun z3 ez3 => ?_)
  obtain rfl : z3 = 3 := ez3.trans (by decide)
  refine va_sld hx hb hX hbl hbA hS (by unfold vp_in; decide) d_law_522 ?_
  refine W.eq (g2 := F0 m 523 ls [.int (xs 3), .int (xs 2), .int (xs 1), .ref qx]) rfl ?_
  refine lv_aload_n hx hb d_law_523 rfl (lv_at hl 1 rfl) ?_
  refine xc_SW (As := [.ref qx, .int (xs 1), .int (xs 2), .int (xs 3), .ref qo]) (rest := []) (n := 5) (wc := [(qx, .inr (0, [.ref (qa 0), .ref (qa 1), .ref (qa 2), .int 0])), (qo, .inl (cj, 1, .inr (.inl (fun _ => 0))))]) (wr := [(qm, .inr (7, [.int 0, .int 0, .int 0, .int 0, .int 0, .int 0, .int (-1), .int (-1), .int 0, .int 0, .int 0, .int 0, .int 0, .int 0, .int 0, .int 0, .ref (qb 0), .ref (qb 1), .ref (qb 2), .ref (qb 3), .int 0, .ref (qb 4), .ref (qb 5), .ref (qb 6), .ref (qb 7), .ref (qb 8), .ref (qb 9), .ref (qb 10), .ref (qb 11), .ref (qb 12), .ref (qb 13), .ref (qb 14), .ref (qb 15), .ref (qb 16), .ref (qb 17), .ref (qb 18), .ref (qb 19), .ref (qb 20), .int 0, .int 0, .int 0, .int 0, .long 0, .long 0, .long 0, .long 0, .long 0, .ref (qb 21), .int 0, .int 0, .int 0, .int 0]))]) (tc := [(cj, .long)]) (tr := []) ⟨hx, hb, hml, hown, hts⟩ (c_La_symbol_n l htr D qx qo cj qa qk (xs 1) (xs 2) (xs 3) hk H.size) rfl rfl w_336 w_334 w_335 w_0 (by decide +kernel) ⟨Nat.le_of_ble_eq_true rfl, Nat.le_of_ble_eq_true rfl⟩ hP hD hK hS hA hN hZ [0, 2] [1] rfl rfl (by decide) (by decide) (by decide) [0] [] rfl rfl rfl hl.1 rfl (Nat.le_of_ble_eq_true rfl) d_law_524 ⟨Nat.le_of_ble_eq_true rfl, Nat.le_of_ble_eq_true rfl⟩ (fun u4 H locs hP hD hK hS => ?_)
  have hP : va_P D cls [(qm, .inr (7, [.int 0, .int 0, .int 0, .int 0, .int 0, .int 0, .int (-1), .int (-1), .int 0, .int 0, .int 0, .int 0, .int 0, .int 0, .int 0, .int 0, .ref (qb 0), .ref (qb 1), .ref (qb 2), .ref (qb 3), .int 0, .ref (qb 4), .ref (qb 5), .ref (qb 6), .ref (qb 7), .ref (qb 8), .ref (qb 9), .ref (qb 10), .ref (qb 11), .ref (qb 12), .ref (qb 13), .ref (qb 14), .ref (qb 15), .ref (qb 16), .ref (qb 17), .ref (qb 18), .ref (qb 19), .ref (qb 20), .int 0, .int 0, .int 0, .int 0, .long 0, .long 0, .long 0, .long 0, .long 0, .ref (qb 21), .int 0, .int 0, .int 0, .int 0])), (qo, .inl (cj, 1, .inr (.inl (fun _ => 0))))] H := hP
  have hD : va_D A [(qm, .inr (7, [.int 0, .int 0, .int 0, .int 0, .int 0, .int 0, .int (-1), .int (-1), .int 0, .int 0, .int 0, .int 0, .int 0, .int 0, .int 0, .int 0, .ref (qb 0), .ref (qb 1), .ref (qb 2), .ref (qb 3), .int 0, .ref (qb 4), .ref (qb 5), .ref (qb 6), .ref (qb 7), .ref (qb 8), .ref (qb 9), .ref (qb 10), .ref (qb 11), .ref (qb 12), .ref (qb 13), .ref (qb 14), .ref (qb 15), .ref (qb 16), .ref (qb 17), .ref (qb 18), .ref (qb 19), .ref (qb 20), .int 0, .int 0, .int 0, .int 0, .long 0, .long 0, .long 0, .long 0, .long 0, .ref (qb 21), .int 0, .int 0, .int 0, .int 0])), (qo, .inl (cj, 1, .inr (.inl (fun _ => 0))))] := hD
  have hK : va_K D cls [(cj, .long)] s := hK
  refine W.widen (k := 224) (n := 300064) (by omega) (by omega) ?_
  refine W.eq (g2 := F0 m 527 ls [.int 1]) rfl ?_
  refine lv_istore (lv' := [(5, .int 1), (4, .int 0), (3, .ref qo), (2, .ref qm), (1, .ref qx), (0, .ref b)]) hx hb d_law_527 hl (by decide) rfl (fun ls hl => ?_)
  refine lv_aload_n hx hb d_law_529 rfl (lv_at hl 3 rfl) ?_
  refine lv_aload_n hx hb d_law_530 rfl (lv_at hl 5 rfl) ?_
  refine lv_iload hx hb d_law_531 (lv_at hl 1 rfl) ?_
  refine lv_iconst (v := 1) hx hb d_law_533 (by decide) ?_
  refine lv_iadd hx hb d_law_534 ?_
  refine lv_topi (fun z5 ez5 => ?_)
  obtain rfl : z5 = 1 := ez5.trans (by decide)
  refine va_sld hx hb hX hbl hbA hS (by unfold vp_in; decide) d_law_535 ?_
  refine W.eq (g2 := F0 m 536 ls [.int (xs 1), .ref qm]) rfl ?_
  refine lv_aload_n hx hb d_law_536 rfl (lv_at hl 5 rfl) ?_
  refine lv_iload hx hb d_law_537 (lv_at hl 1 rfl) ?_
  refine lv_iconst (v := 2) hx hb d_law_539 (by decide) ?_
  refine lv_iadd hx hb d_law_540 ?_
  refine lv_topi (fun z6 ez6 => ?_)
  obtain rfl : z6 = 2 := ez6.trans (by decide)
  refine va_sld hx hb hX hbl hbA hS (by unfold vp_in; decide) d_law_541 ?_
  refine W.eq (g2 := F0 m 542 ls [.int (xs 2), .int (xs 1), .ref qm]) rfl ?_
  refine lv_aload_n hx hb d_law_542 rfl (lv_at hl 5 rfl) ?_
  refine lv_iload hx hb d_law_543 (lv_at hl 1 rfl) ?_
  refine lv_iconst (v := 3) hx hb d_law_545 (by decide) ?_
  refine lv_iadd hx hb d_law_546 ?_
  refine lv_topi (fun z7 ez7 => ?_)
  obtain rfl : z7 = 3 := ez7.trans (by decide)
  refine va_sld hx hb hX hbl hbA hS (by unfold vp_in; decide) d_law_547 ?_
  refine W.eq (g2 := F0 m 548 ls [.int (xs 3), .int (xs 2), .int (xs 1), .ref qm]) rfl ?_
  refine xc_V (As := [.int (xs 1), .int (xs 2), .int (xs 3)]) (rest := []) (n := 3) (wc := [(qm, .inr (7, [.int 0, .int 0, .int 0, .int 0, .int 0, .int 0, .int (-1), .int (-1), .int 0, .int 0, .int 0, .int 0, .int 0, .int 0, .int 0, .int 0, .ref (qb 0), .ref (qb 1), .ref (qb 2), .ref (qb 3), .int 0, .ref (qb 4), .ref (qb 5), .ref (qb 6), .ref (qb 7), .ref (qb 8), .ref (qb 9), .ref (qb 10), .ref (qb 11), .ref (qb 12), .ref (qb 13), .ref (qb 14), .ref (qb 15), .ref (qb 16), .ref (qb 17), .ref (qb 18), .ref (qb 19), .ref (qb 20), .int 0, .int 0, .int 0, .int 0, .long 0, .long 0, .long 0, .long 0, .long 0, .ref (qb 21), .int 0, .int 0, .int 0, .int 0]))]) (wr := [(qo, .inl (cj, 1, .inr (.inl (fun _ => 0))))]) (tc := []) (tr := [(cj, .long)]) ⟨hx, hb, hml, hown, hts⟩ (c_Mo_symbol_n l D qm qb (xs 1) (xs 2) (xs 3) hk H.size) rfl rfl w_518 w_515 w_516 w_517 w_8 (by decide +kernel) ⟨Nat.le_of_ble_eq_true rfl, Nat.le_of_ble_eq_true rfl⟩ hP hD hK hS hA hN hZ [0] [1] rfl rfl (by decide) (by decide) (by decide) [] [0] rfl rfl (ci := 7) (q0 := 0) (q := (R_Mo, F_Mo, 52)) rfl rfl rfl rfl hl.1 rfl (Nat.le_of_ble_eq_true rfl) d_law_548 ⟨Nat.le_of_ble_eq_true rfl, Nat.le_of_ble_eq_true rfl⟩ (fun u8 H locs hP hD hK hS => ?_)
  have hP : va_P D cls [(qo, .inl (cj, 1, .inr (.inl (fun _ => 0)))), (qm, .inr (7, [.int 1, .int 0, .int 0, .int 0, .int 0, .int 0, .int (-1), .int (-1), .int 0, .int 0, .int 0, .int 0, .int 0, .int 0, .int 0, .int 0, .ref (qb 0), .ref (qb 1), .ref (qb 2), .ref (qb 3), .int 0, .ref (qb 4), .ref (qb 5), .ref (qb 6), .ref (qb 7), .ref (qb 8), .ref (qb 9), .ref (qb 10), .ref (qb 11), .ref (qb 12), .ref (qb 13), .ref (qb 14), .ref (qb 15), .ref (qb 16), .ref (qb 17), .ref (qb 18), .ref (qb 19), .ref (qb 20), .int 0, .int 0, .int 0, .int 0, .long 0, .long 0, .long 0, .long 0, .long 0, .ref (qb 21), .int 0, .int 0, .int 0, .int 0]))] H := hP
  have hD : va_D A [(qo, .inl (cj, 1, .inr (.inl (fun _ => 0)))), (qm, .inr (7, [.int 1, .int 0, .int 0, .int 0, .int 0, .int 0, .int (-1), .int (-1), .int 0, .int 0, .int 0, .int 0, .int 0, .int 0, .int 0, .int 0, .ref (qb 0), .ref (qb 1), .ref (qb 2), .ref (qb 3), .int 0, .ref (qb 4), .ref (qb 5), .ref (qb 6), .ref (qb 7), .ref (qb 8), .ref (qb 9), .ref (qb 10), .ref (qb 11), .ref (qb 12), .ref (qb 13), .ref (qb 14), .ref (qb 15), .ref (qb 16), .ref (qb 17), .ref (qb 18), .ref (qb 19), .ref (qb 20), .int 0, .int 0, .int 0, .int 0, .long 0, .long 0, .long 0, .long 0, .long 0, .ref (qb 21), .int 0, .int 0, .int 0, .int 0]))] := hD
  have hK : va_K D cls [(cj, .long)] s := hK
  refine W.eq (g2 := F0 m 551 ls [.int 0]) rfl ?_
  refine lv_istore (lv' := [(6, .int 0), (5, .int 1), (4, .int 0), (3, .ref qo), (2, .ref qm), (1, .ref qx), (0, .ref b)]) hx hb d_law_551 hl (by decide) rfl (fun ls hl => ?_)
  refine lv_aload_n hx hb d_law_553 rfl (lv_at hl 4 rfl) ?_
  refine xc_V (As := []) (rest := []) (n := 0) (wc := [(qm, .inr (7, [.int 1, .int 0, .int 0, .int 0, .int 0, .int 0, .int (-1), .int (-1), .int 0, .int 0, .int 0, .int 0, .int 0, .int 0, .int 0, .int 0, .ref (qb 0), .ref (qb 1), .ref (qb 2), .ref (qb 3), .int 0, .ref (qb 4), .ref (qb 5), .ref (qb 6), .ref (qb 7), .ref (qb 8), .ref (qb 9), .ref (qb 10), .ref (qb 11), .ref (qb 12), .ref (qb 13), .ref (qb 14), .ref (qb 15), .ref (qb 16), .ref (qb 17), .ref (qb 18), .ref (qb 19), .ref (qb 20), .int 0, .int 0, .int 0, .int 0, .long 0, .long 0, .long 0, .long 0, .long 0, .ref (qb 21), .int 0, .int 0, .int 0, .int 0]))]) (wr := [(qo, .inl (cj, 1, .inr (.inl (fun _ => 0))))]) (tc := []) (tr := [(cj, .long)]) ⟨hx, hb, hml, hown, hts⟩ (c_Mo_thrown_1 l D qm qb H.size) rfl rfl w_445 w_442 w_443 w_444 w_8 (by decide +kernel) ⟨Nat.le_of_ble_eq_true rfl, Nat.le_of_ble_eq_true rfl⟩ hP hD hK hS hA hN hZ [1] [0] rfl rfl (by decide) (by decide) (by decide) [] [0] rfl rfl (ci := 7) (q0 := 0) (q := (R_Mo, F_Mo, 52)) rfl rfl rfl rfl hl.1 rfl (Nat.le_of_ble_eq_true rfl) d_law_554 ⟨Nat.le_of_ble_eq_true rfl, Nat.le_of_ble_eq_true rfl⟩ (fun u9 H locs hP hD hK hS => ?_)
  have hP : va_P D cls [(qo, .inl (cj, 1, .inr (.inl (fun _ => 0)))), (qm, .inr (7, [.int 1, .int 0, .int 0, .int 0, .int 0, .int 0, .int (-1), .int (-1), .int 0, .int 0, .int 0, .int 0, .int 0, .int 0, .int 0, .int 0, .ref (qb 0), .ref (qb 1), .ref (qb 2), .ref (qb 3), .int 0, .ref (qb 4), .ref (qb 5), .ref (qb 6), .ref (qb 7), .ref (qb 8), .ref (qb 9), .ref (qb 10), .ref (qb 11), .ref (qb 12), .ref (qb 13), .ref (qb 14), .ref (qb 15), .ref (qb 16), .ref (qb 17), .ref (qb 18), .ref (qb 19), .ref (qb 20), .int 0, .int 0, .int 0, .int 0, .long 0, .long 0, .long 0, .long 0, .long 0, .ref (qb 21), .int 0, .int 0, .int 0, .int 0]))] H := hP
  have hD : va_D A [(qo, .inl (cj, 1, .inr (.inl (fun _ => 0)))), (qm, .inr (7, [.int 1, .int 0, .int 0, .int 0, .int 0, .int 0, .int (-1), .int (-1), .int 0, .int 0, .int 0, .int 0, .int 0, .int 0, .int 0, .int 0, .ref (qb 0), .ref (qb 1), .ref (qb 2), .ref (qb 3), .int 0, .ref (qb 4), .ref (qb 5), .ref (qb 6), .ref (qb 7), .ref (qb 8), .ref (qb 9), .ref (qb 10), .ref (qb 11), .ref (qb 12), .ref (qb 13), .ref (qb 14), .ref (qb 15), .ref (qb 16), .ref (qb 17), .ref (qb 18), .ref (qb 19), .ref (qb 20), .int 0, .int 0, .int 0, .int 0, .long 0, .long 0, .long 0, .long 0, .long 0, .ref (qb 21), .int 0, .int 0, .int 0, .int 0]))] := hD
  have hK : va_K D cls [(cj, .long)] s := hK
  refine W.eq (g2 := F0 m 557 ls [.int 1]) rfl ?_
  refine lv_iload hx hb d_law_557 (lv_at hl 1 rfl) ?_
  refine lv_icmp_eq (tgt := 564) hx hb d_law_559 (by decide) (fun _ => ?_) (fun q9 => absurd (by decide : ((1 : Int32) = 1)) q9)
  refine lv_iload hx hb d_law_564 (lv_at hl 1 rfl) ?_
  refine lv_if_ne (tgt := 581) hx hb d_law_566 (by decide) (fun _ => ?_) (fun q9 => absurd q9 (by decide : ¬ ((1 : Int32) = 0)))
  refine lv_goto (tgt := 1005) hx hb d_law_581 (by decide) ?_
  exact law_tail C0 hA hAf hS (Nat.le_of_ble_eq_true rfl) (Nat.le_of_ble_eq_true rfl) (lv_sub hl [6, 2] rfl)

set_option maxHeartbeats 4000000 in
set_option maxRecDepth 100000 in
theorem l_symbol_g {p : Program} {l : Launch} {e : Env} {s : State} {m : MethodId} {below : List Frame} {meth : Method} {c : Code} {b : Nat} {xs : Nat → Int32} (htr : l.stackTraces = false) (C0 : lw_At p s m meth c b 5 xs) {A : Nat → Prop} (hA : ∀ q, s.heap.size ≤ q → A q) (hAf : ∀ q, A q → s.heap.size ≤ q) (hN : xN s) (hZ : xZ A s s.heap) {D : va_G} {qx qm qo : Nat} {cj : ClassId} {qa qb : Nat → Nat} {qk ql : Nat → ClassId} {uf : Nat → Option Nat} {H : Heap} {locs : List Loc} (hk : ¬ xs 1 < 0) (hP : va_P D cls (lawW qx qm qo cj qa qb qk ql uf) H) (hD : va_D A (lawW qx qm qo cj qa qb qk ql uf)) (hK : va_K D cls (lawT cj qk ql) s) (hS : va_S A s.heap H locs) {ls : Array Slot} (hl : lv_has ls 7 [(4, .int 0), (3, .ref qo), (2, .ref qm), (1, .ref qx), (0, .ref b)]) : W p l e room_1 s m #[Value.ref b] below meth c H locs 223 300058 (lw_Z below #[Value.ref b] s) (F0 m 504 ls []) := by
  obtain ⟨hx, hb, hr, hml, hown, hts0, hX, hbl, hlocks, hgv⟩ := id C0
  have hown : s.vm.findClass "ObjectForgeLaw" = some m.cls := hown
  have hbA : ¬ A b := fun h => absurd (hAf b h) (Nat.not_le.mpr hbl)
  have hts : ∀ w ∈ bw, w.before #[Value.ref b] s = true := fun w h => hts0 w (bw_in w h)
  have hP : va_P D cls [(qx, .inr (0, [.ref (qa 0), .ref (qa 1), .ref (qa 2), .int 0])), (qm, .inr (7, [.int 0, .int 0, .int 0, .int 0, .int 0, .int 0, .int (-1), .int (-1), .int 0, .int 0, .int 0, .int 0, .int 0, .int 0, .int 0, .int 0, .ref (qb 0), .ref (qb 1), .ref (qb 2), .ref (qb 3), .int 0, .ref (qb 4), .ref (qb 5), .ref (qb 6), .ref (qb 7), .ref (qb 8), .ref (qb 9), .ref (qb 10), .ref (qb 11), .ref (qb 12), .ref (qb 13), .ref (qb 14), .ref (qb 15), .ref (qb 16), .ref (qb 17), .ref (qb 18), .ref (qb 19), .ref (qb 20), .int 0, .int 0, .int 0, .int 0, .long 0, .long 0, .long 0, .long 0, .long 0, .ref (qb 21), .int 0, .int 0, .int 0, .int 0])), (qo, .inl (cj, 1, .inr (.inl (fun _ => 0))))] H := hP.sub [0, 10, 15] rfl
  have hD : va_D A [(qx, .inr (0, [.ref (qa 0), .ref (qa 1), .ref (qa 2), .int 0])), (qm, .inr (7, [.int 0, .int 0, .int 0, .int 0, .int 0, .int 0, .int (-1), .int (-1), .int 0, .int 0, .int 0, .int 0, .int 0, .int 0, .int 0, .int 0, .ref (qb 0), .ref (qb 1), .ref (qb 2), .ref (qb 3), .int 0, .ref (qb 4), .ref (qb 5), .ref (qb 6), .ref (qb 7), .ref (qb 8), .ref (qb 9), .ref (qb 10), .ref (qb 11), .ref (qb 12), .ref (qb 13), .ref (qb 14), .ref (qb 15), .ref (qb 16), .ref (qb 17), .ref (qb 18), .ref (qb 19), .ref (qb 20), .int 0, .int 0, .int 0, .int 0, .long 0, .long 0, .long 0, .long 0, .long 0, .ref (qb 21), .int 0, .int 0, .int 0, .int 0])), (qo, .inl (cj, 1, .inr (.inl (fun _ => 0))))] := hD.sub [0, 10, 15] (by decide) rfl
  have hK : va_K D cls [(cj, .long)] s := hK.sub [7] rfl
  refine lv_aload_n hx hb d_law_504 rfl (lv_at hl 3 rfl) ?_
  refine lv_aload_n hx hb d_law_505 rfl (lv_at hl 4 rfl) ?_
  refine lv_iload hx hb d_law_506 (lv_at hl 0 rfl) ?_
  refine lv_iconst (v := 1) hx hb d_law_508 (by decide) ?_
  refine lv_iadd hx hb d_law_509 ?_
  refine lv_topi (fun z1 ez1 => ?_)
  obtain rfl : z1 = 1 := ez1.trans (by decide)
  refine va_sld hx hb hX hbl hbA hS (by unfold vp_in; decide) d_law_510 ?_
  refine W.eq (g2 := F0 m 511 ls [.int (xs 1), .ref qx]) rfl ?_
  refine lv_aload_n hx hb d_law_511 rfl (lv_at hl 4 rfl) ?_
  refine lv_iload hx hb d_law_512 (lv_at hl 0 rfl) ?_
  refine lv_iconst (v := 2) hx hb d_law_514 (by decide) ?_
  refine lv_iadd hx hb d_law_515 ?_
  refine lv_topi (fun z2 ez2 => ?_)
  obtain rfl : z2 = 2 := ez2.trans (by decide)
  refine va_sld hx hb hX hbl hbA hS (by unfold vp_in; decide) d_law_516 ?_
  refine W.eq (g2 := F0 m 517 ls [.int (xs 2), .int (xs 1), .ref qx]) rfl ?_
  refine lv_aload_n hx hb d_law_517 rfl (lv_at hl 4 rfl) ?_
  refine lv_iload hx hb d_law_518 (lv_at hl 0 rfl) ?_
  refine lv_iconst (v := 3) hx hb d_law_520 (by decide) ?_
  refine lv_iadd hx hb d_law_521 ?_
  refine lv_topi (fun z3 ez3 => ?_)
  obtain rfl : z3 = 3 := ez3.trans (by decide)
  refine va_sld hx hb hX hbl hbA hS (by unfold vp_in; decide) d_law_522 ?_
  refine W.eq (g2 := F0 m 523 ls [.int (xs 3), .int (xs 2), .int (xs 1), .ref qx]) rfl ?_
  refine lv_aload_n hx hb d_law_523 rfl (lv_at hl 1 rfl) ?_
  refine xc_SW (As := [.ref qx, .int (xs 1), .int (xs 2), .int (xs 3), .ref qo]) (rest := []) (n := 5) (wc := [(qx, .inr (0, [.ref (qa 0), .ref (qa 1), .ref (qa 2), .int 0])), (qo, .inl (cj, 1, .inr (.inl (fun _ => 0))))]) (wr := [(qm, .inr (7, [.int 0, .int 0, .int 0, .int 0, .int 0, .int 0, .int (-1), .int (-1), .int 0, .int 0, .int 0, .int 0, .int 0, .int 0, .int 0, .int 0, .ref (qb 0), .ref (qb 1), .ref (qb 2), .ref (qb 3), .int 0, .ref (qb 4), .ref (qb 5), .ref (qb 6), .ref (qb 7), .ref (qb 8), .ref (qb 9), .ref (qb 10), .ref (qb 11), .ref (qb 12), .ref (qb 13), .ref (qb 14), .ref (qb 15), .ref (qb 16), .ref (qb 17), .ref (qb 18), .ref (qb 19), .ref (qb 20), .int 0, .int 0, .int 0, .int 0, .long 0, .long 0, .long 0, .long 0, .long 0, .ref (qb 21), .int 0, .int 0, .int 0, .int 0]))]) (tc := [(cj, .long)]) (tr := []) ⟨hx, hb, hml, hown, hts⟩ (c_La_symbol_g l htr D qx qo cj qa qk (xs 1) (xs 2) (xs 3) hk hk H.size) rfl rfl w_336 w_334 w_335 w_0 (by decide +kernel) ⟨Nat.le_of_ble_eq_true rfl, Nat.le_of_ble_eq_true rfl⟩ hP hD hK hS hA hN hZ [0, 2] [1] rfl rfl (by decide) (by decide) (by decide) [0] [] rfl rfl rfl hl.1 rfl (Nat.le_of_ble_eq_true rfl) d_law_524 ⟨Nat.le_of_ble_eq_true rfl, Nat.le_of_ble_eq_true rfl⟩ (fun u4 H locs hP hD hK hS => ?_)
  have hP : va_P D cls [(qm, .inr (7, [.int 0, .int 0, .int 0, .int 0, .int 0, .int 0, .int (-1), .int (-1), .int 0, .int 0, .int 0, .int 0, .int 0, .int 0, .int 0, .int 0, .ref (qb 0), .ref (qb 1), .ref (qb 2), .ref (qb 3), .int 0, .ref (qb 4), .ref (qb 5), .ref (qb 6), .ref (qb 7), .ref (qb 8), .ref (qb 9), .ref (qb 10), .ref (qb 11), .ref (qb 12), .ref (qb 13), .ref (qb 14), .ref (qb 15), .ref (qb 16), .ref (qb 17), .ref (qb 18), .ref (qb 19), .ref (qb 20), .int 0, .int 0, .int 0, .int 0, .long 0, .long 0, .long 0, .long 0, .long 0, .ref (qb 21), .int 0, .int 0, .int 0, .int 0])), (qo, .inl (cj, 1, .inr (.inl (fun _ => 0))))] H := hP
  have hD : va_D A [(qm, .inr (7, [.int 0, .int 0, .int 0, .int 0, .int 0, .int 0, .int (-1), .int (-1), .int 0, .int 0, .int 0, .int 0, .int 0, .int 0, .int 0, .int 0, .ref (qb 0), .ref (qb 1), .ref (qb 2), .ref (qb 3), .int 0, .ref (qb 4), .ref (qb 5), .ref (qb 6), .ref (qb 7), .ref (qb 8), .ref (qb 9), .ref (qb 10), .ref (qb 11), .ref (qb 12), .ref (qb 13), .ref (qb 14), .ref (qb 15), .ref (qb 16), .ref (qb 17), .ref (qb 18), .ref (qb 19), .ref (qb 20), .int 0, .int 0, .int 0, .int 0, .long 0, .long 0, .long 0, .long 0, .long 0, .ref (qb 21), .int 0, .int 0, .int 0, .int 0])), (qo, .inl (cj, 1, .inr (.inl (fun _ => 0))))] := hD
  have hK : va_K D cls [(cj, .long)] s := hK
  refine W.widen (k := 224) (n := 300064) (by omega) (by omega) ?_
  refine W.eq (g2 := F0 m 527 ls [.int 1]) rfl ?_
  refine lv_istore (lv' := [(5, .int 1), (4, .int 0), (3, .ref qo), (2, .ref qm), (1, .ref qx), (0, .ref b)]) hx hb d_law_527 hl (by decide) rfl (fun ls hl => ?_)
  refine lv_aload_n hx hb d_law_529 rfl (lv_at hl 3 rfl) ?_
  refine lv_aload_n hx hb d_law_530 rfl (lv_at hl 5 rfl) ?_
  refine lv_iload hx hb d_law_531 (lv_at hl 1 rfl) ?_
  refine lv_iconst (v := 1) hx hb d_law_533 (by decide) ?_
  refine lv_iadd hx hb d_law_534 ?_
  refine lv_topi (fun z5 ez5 => ?_)
  obtain rfl : z5 = 1 := ez5.trans (by decide)
  refine va_sld hx hb hX hbl hbA hS (by unfold vp_in; decide) d_law_535 ?_
  refine W.eq (g2 := F0 m 536 ls [.int (xs 1), .ref qm]) rfl ?_
  refine lv_aload_n hx hb d_law_536 rfl (lv_at hl 5 rfl) ?_
  refine lv_iload hx hb d_law_537 (lv_at hl 1 rfl) ?_
  refine lv_iconst (v := 2) hx hb d_law_539 (by decide) ?_
  refine lv_iadd hx hb d_law_540 ?_
  refine lv_topi (fun z6 ez6 => ?_)
  obtain rfl : z6 = 2 := ez6.trans (by decide)
  refine va_sld hx hb hX hbl hbA hS (by unfold vp_in; decide) d_law_541 ?_
  refine W.eq (g2 := F0 m 542 ls [.int (xs 2), .int (xs 1), .ref qm]) rfl ?_
  refine lv_aload_n hx hb d_law_542 rfl (lv_at hl 5 rfl) ?_
  refine lv_iload hx hb d_law_543 (lv_at hl 1 rfl) ?_
  refine lv_iconst (v := 3) hx hb d_law_545 (by decide) ?_
  refine lv_iadd hx hb d_law_546 ?_
  refine lv_topi (fun z7 ez7 => ?_)
  obtain rfl : z7 = 3 := ez7.trans (by decide)
  refine va_sld hx hb hX hbl hbA hS (by unfold vp_in; decide) d_law_547 ?_
  refine W.eq (g2 := F0 m 548 ls [.int (xs 3), .int (xs 2), .int (xs 1), .ref qm]) rfl ?_
  refine xc_V (As := [.int (xs 1), .int (xs 2), .int (xs 3)]) (rest := []) (n := 3) (wc := [(qm, .inr (7, [.int 0, .int 0, .int 0, .int 0, .int 0, .int 0, .int (-1), .int (-1), .int 0, .int 0, .int 0, .int 0, .int 0, .int 0, .int 0, .int 0, .ref (qb 0), .ref (qb 1), .ref (qb 2), .ref (qb 3), .int 0, .ref (qb 4), .ref (qb 5), .ref (qb 6), .ref (qb 7), .ref (qb 8), .ref (qb 9), .ref (qb 10), .ref (qb 11), .ref (qb 12), .ref (qb 13), .ref (qb 14), .ref (qb 15), .ref (qb 16), .ref (qb 17), .ref (qb 18), .ref (qb 19), .ref (qb 20), .int 0, .int 0, .int 0, .int 0, .long 0, .long 0, .long 0, .long 0, .long 0, .ref (qb 21), .int 0, .int 0, .int 0, .int 0]))]) (wr := [(qo, .inl (cj, 1, .inr (.inl (fun _ => 0))))]) (tc := []) (tr := [(cj, .long)]) ⟨hx, hb, hml, hown, hts⟩ (c_Mo_symbol_g l D qm qb (xs 1) (xs 2) (xs 3) hk (x_ge hk) H.size) rfl rfl w_518 w_515 w_516 w_517 w_8 (by decide +kernel) ⟨Nat.le_of_ble_eq_true rfl, Nat.le_of_ble_eq_true rfl⟩ hP hD hK hS hA hN hZ [0] [1] rfl rfl (by decide) (by decide) (by decide) [] [0] rfl rfl (ci := 7) (q0 := 0) (q := (R_Mo, F_Mo, 52)) rfl rfl rfl rfl hl.1 rfl (Nat.le_of_ble_eq_true rfl) d_law_548 ⟨Nat.le_of_ble_eq_true rfl, Nat.le_of_ble_eq_true rfl⟩ (fun u8 H locs hP hD hK hS => ?_)
  have hP : va_P D cls [(qo, .inl (cj, 1, .inr (.inl (fun _ => 0)))), (qm, .inr (7, [.int 1, .int 0, .int 0, .int 0, .int 0, .int 0, .int (-1), .int (-1), .int 0, .int 0, .int 0, .int 0, .int 0, .int 0, .int 0, .int 0, .ref (qb 0), .ref (qb 1), .ref (qb 2), .ref (qb 3), .int 0, .ref (qb 4), .ref (qb 5), .ref (qb 6), .ref (qb 7), .ref (qb 8), .ref (qb 9), .ref (qb 10), .ref (qb 11), .ref (qb 12), .ref (qb 13), .ref (qb 14), .ref (qb 15), .ref (qb 16), .ref (qb 17), .ref (qb 18), .ref (qb 19), .ref (qb 20), .int 0, .int 0, .int 0, .int 0, .long 0, .long 0, .long 0, .long 0, .long 0, .ref (qb 21), .int 0, .int 0, .int 0, .int 0]))] H := hP
  have hD : va_D A [(qo, .inl (cj, 1, .inr (.inl (fun _ => 0)))), (qm, .inr (7, [.int 1, .int 0, .int 0, .int 0, .int 0, .int 0, .int (-1), .int (-1), .int 0, .int 0, .int 0, .int 0, .int 0, .int 0, .int 0, .int 0, .ref (qb 0), .ref (qb 1), .ref (qb 2), .ref (qb 3), .int 0, .ref (qb 4), .ref (qb 5), .ref (qb 6), .ref (qb 7), .ref (qb 8), .ref (qb 9), .ref (qb 10), .ref (qb 11), .ref (qb 12), .ref (qb 13), .ref (qb 14), .ref (qb 15), .ref (qb 16), .ref (qb 17), .ref (qb 18), .ref (qb 19), .ref (qb 20), .int 0, .int 0, .int 0, .int 0, .long 0, .long 0, .long 0, .long 0, .long 0, .ref (qb 21), .int 0, .int 0, .int 0, .int 0]))] := hD
  have hK : va_K D cls [(cj, .long)] s := hK
  refine W.eq (g2 := F0 m 551 ls [.int 0]) rfl ?_
  refine lv_istore (lv' := [(6, .int 0), (5, .int 1), (4, .int 0), (3, .ref qo), (2, .ref qm), (1, .ref qx), (0, .ref b)]) hx hb d_law_551 hl (by decide) rfl (fun ls hl => ?_)
  refine lv_aload_n hx hb d_law_553 rfl (lv_at hl 4 rfl) ?_
  refine xc_V (As := []) (rest := []) (n := 0) (wc := [(qm, .inr (7, [.int 1, .int 0, .int 0, .int 0, .int 0, .int 0, .int (-1), .int (-1), .int 0, .int 0, .int 0, .int 0, .int 0, .int 0, .int 0, .int 0, .ref (qb 0), .ref (qb 1), .ref (qb 2), .ref (qb 3), .int 0, .ref (qb 4), .ref (qb 5), .ref (qb 6), .ref (qb 7), .ref (qb 8), .ref (qb 9), .ref (qb 10), .ref (qb 11), .ref (qb 12), .ref (qb 13), .ref (qb 14), .ref (qb 15), .ref (qb 16), .ref (qb 17), .ref (qb 18), .ref (qb 19), .ref (qb 20), .int 0, .int 0, .int 0, .int 0, .long 0, .long 0, .long 0, .long 0, .long 0, .ref (qb 21), .int 0, .int 0, .int 0, .int 0]))]) (wr := [(qo, .inl (cj, 1, .inr (.inl (fun _ => 0))))]) (tc := []) (tr := [(cj, .long)]) ⟨hx, hb, hml, hown, hts⟩ (c_Mo_thrown_1 l D qm qb H.size) rfl rfl w_445 w_442 w_443 w_444 w_8 (by decide +kernel) ⟨Nat.le_of_ble_eq_true rfl, Nat.le_of_ble_eq_true rfl⟩ hP hD hK hS hA hN hZ [1] [0] rfl rfl (by decide) (by decide) (by decide) [] [0] rfl rfl (ci := 7) (q0 := 0) (q := (R_Mo, F_Mo, 52)) rfl rfl rfl rfl hl.1 rfl (Nat.le_of_ble_eq_true rfl) d_law_554 ⟨Nat.le_of_ble_eq_true rfl, Nat.le_of_ble_eq_true rfl⟩ (fun u9 H locs hP hD hK hS => ?_)
  have hP : va_P D cls [(qo, .inl (cj, 1, .inr (.inl (fun _ => 0)))), (qm, .inr (7, [.int 1, .int 0, .int 0, .int 0, .int 0, .int 0, .int (-1), .int (-1), .int 0, .int 0, .int 0, .int 0, .int 0, .int 0, .int 0, .int 0, .ref (qb 0), .ref (qb 1), .ref (qb 2), .ref (qb 3), .int 0, .ref (qb 4), .ref (qb 5), .ref (qb 6), .ref (qb 7), .ref (qb 8), .ref (qb 9), .ref (qb 10), .ref (qb 11), .ref (qb 12), .ref (qb 13), .ref (qb 14), .ref (qb 15), .ref (qb 16), .ref (qb 17), .ref (qb 18), .ref (qb 19), .ref (qb 20), .int 0, .int 0, .int 0, .int 0, .long 0, .long 0, .long 0, .long 0, .long 0, .ref (qb 21), .int 0, .int 0, .int 0, .int 0]))] H := hP
  have hD : va_D A [(qo, .inl (cj, 1, .inr (.inl (fun _ => 0)))), (qm, .inr (7, [.int 1, .int 0, .int 0, .int 0, .int 0, .int 0, .int (-1), .int (-1), .int 0, .int 0, .int 0, .int 0, .int 0, .int 0, .int 0, .int 0, .ref (qb 0), .ref (qb 1), .ref (qb 2), .ref (qb 3), .int 0, .ref (qb 4), .ref (qb 5), .ref (qb 6), .ref (qb 7), .ref (qb 8), .ref (qb 9), .ref (qb 10), .ref (qb 11), .ref (qb 12), .ref (qb 13), .ref (qb 14), .ref (qb 15), .ref (qb 16), .ref (qb 17), .ref (qb 18), .ref (qb 19), .ref (qb 20), .int 0, .int 0, .int 0, .int 0, .long 0, .long 0, .long 0, .long 0, .long 0, .ref (qb 21), .int 0, .int 0, .int 0, .int 0]))] := hD
  have hK : va_K D cls [(cj, .long)] s := hK
  refine W.eq (g2 := F0 m 557 ls [.int 1]) rfl ?_
  refine lv_iload hx hb d_law_557 (lv_at hl 1 rfl) ?_
  refine lv_icmp_eq (tgt := 564) hx hb d_law_559 (by decide) (fun _ => ?_) (fun q9 => absurd (by decide : ((1 : Int32) = 1)) q9)
  refine lv_iload hx hb d_law_564 (lv_at hl 1 rfl) ?_
  refine lv_if_ne (tgt := 581) hx hb d_law_566 (by decide) (fun _ => ?_) (fun q9 => absurd q9 (by decide : ¬ ((1 : Int32) = 0)))
  refine lv_goto (tgt := 1005) hx hb d_law_581 (by decide) ?_
  exact law_tail C0 hA hAf hS (Nat.le_of_ble_eq_true rfl) (Nat.le_of_ble_eq_true rfl) (lv_sub hl [6, 2] rfl)

theorem d_law_584 : decode code 584 = .ok (.aload_n 1, 1) := by decide +kernel
theorem d_law_585 : decode code 585 = .ok (.aload_n 0, 1) := by decide +kernel
theorem d_law_586 : decode code 586 = .ok (.iload 4, 2) := by decide +kernel
theorem d_law_588 : decode code 588 = .ok (.iconst 1, 1) := by decide +kernel
theorem d_law_589 : decode code 589 = .ok (.iadd, 1) := by decide +kernel
theorem d_law_590 : decode code 590 = .ok (.iaload, 1) := by decide +kernel
theorem d_law_591 : decode code 591 = .ok (.aload_n 0, 1) := by decide +kernel
theorem d_law_592 : decode code 592 = .ok (.iload 4, 2) := by decide +kernel
theorem d_law_594 : decode code 594 = .ok (.iconst 2, 1) := by decide +kernel
theorem d_law_595 : decode code 595 = .ok (.iadd, 1) := by decide +kernel
theorem d_law_596 : decode code 596 = .ok (.iaload, 1) := by decide +kernel
theorem d_law_597 : decode code 597 = .ok (.aload_n 0, 1) := by decide +kernel
theorem d_law_598 : decode code 598 = .ok (.iload 4, 2) := by decide +kernel
theorem d_law_600 : decode code 600 = .ok (.iconst 3, 1) := by decide +kernel
theorem d_law_601 : decode code 601 = .ok (.iadd, 1) := by decide +kernel
theorem d_law_602 : decode code 602 = .ok (.iaload, 1) := by decide +kernel
theorem d_law_603 : decode code 603 = .ok (.aload_n 3, 1) := by decide +kernel
theorem d_law_604 : decode code 604 = .ok (.invokestatic 94, 3) := by decide +kernel
theorem d_law_607 : decode code 607 = .ok (.istore 5, 2) := by decide +kernel
theorem d_law_609 : decode code 609 = .ok (.aload_n 2, 1) := by decide +kernel
theorem d_law_610 : decode code 610 = .ok (.aload_n 0, 1) := by decide +kernel
theorem d_law_611 : decode code 611 = .ok (.iload 4, 2) := by decide +kernel
theorem d_law_613 : decode code 613 = .ok (.iconst 1, 1) := by decide +kernel
theorem d_law_614 : decode code 614 = .ok (.iadd, 1) := by decide +kernel
theorem d_law_615 : decode code 615 = .ok (.iaload, 1) := by decide +kernel
theorem d_law_616 : decode code 616 = .ok (.aload_n 0, 1) := by decide +kernel
theorem d_law_617 : decode code 617 = .ok (.iload 4, 2) := by decide +kernel
theorem d_law_619 : decode code 619 = .ok (.iconst 2, 1) := by decide +kernel
theorem d_law_620 : decode code 620 = .ok (.iadd, 1) := by decide +kernel
theorem d_law_621 : decode code 621 = .ok (.iaload, 1) := by decide +kernel
theorem d_law_622 : decode code 622 = .ok (.aload_n 0, 1) := by decide +kernel
theorem d_law_623 : decode code 623 = .ok (.iload 4, 2) := by decide +kernel
theorem d_law_625 : decode code 625 = .ok (.iconst 3, 1) := by decide +kernel
theorem d_law_626 : decode code 626 = .ok (.iadd, 1) := by decide +kernel
theorem d_law_627 : decode code 627 = .ok (.iaload, 1) := by decide +kernel
theorem d_law_628 : decode code 628 = .ok (.invokevirtual 96, 3) := by decide +kernel
theorem d_law_631 : decode code 631 = .ok (.istore 6, 2) := by decide +kernel
theorem d_law_633 : decode code 633 = .ok (.aload_n 2, 1) := by decide +kernel
theorem d_law_634 : decode code 634 = .ok (.invokevirtual 69, 3) := by decide +kernel
theorem d_law_637 : decode code 637 = .ok (.iload 5, 2) := by decide +kernel
theorem d_law_639 : decode code 639 = .ok (.if_icmp .eq 5, 3) := by decide +kernel
theorem d_law_644 : decode code 644 = .ok (.iload 5, 2) := by decide +kernel
theorem d_law_646 : decode code 646 = .ok (.ifCond .ne 15, 3) := by decide +kernel
theorem d_law_661 : decode code 661 = .ok (.goto 344, 3) := by decide +kernel
set_option maxHeartbeats 4000000 in
set_option maxRecDepth 100000 in
theorem l_letter_n {p : Program} {l : Launch} {e : Env} {s : State} {m : MethodId} {below : List Frame} {meth : Method} {c : Code} {b : Nat} {xs : Nat → Int32} (htr : l.stackTraces = false) (C0 : lw_At p s m meth c b 5 xs) {A : Nat → Prop} (hA : ∀ q, s.heap.size ≤ q → A q) (hAf : ∀ q, A q → s.heap.size ≤ q) (hN : xN s) (hZ : xZ A s s.heap) {D : va_G} {qx qm qo : Nat} {cj : ClassId} {qa qb : Nat → Nat} {qk ql : Nat → ClassId} {uf : Nat → Option Nat} {H : Heap} {locs : List Loc} (hk : xs 1 < 0) (hP : va_P D cls (lawW qx qm qo cj qa qb qk ql uf) H) (hD : va_D A (lawW qx qm qo cj qa qb qk ql uf)) (hK : va_K D cls (lawT cj qk ql) s) (hS : va_S A s.heap H locs) {ls : Array Slot} (hl : lv_has ls 7 [(4, .int 0), (3, .ref qo), (2, .ref qm), (1, .ref qx), (0, .ref b)]) : W p l e room_1 s m #[Value.ref b] below meth c H locs 223 300058 (lw_Z below #[Value.ref b] s) (F0 m 584 ls []) := by
  obtain ⟨hx, hb, hr, hml, hown, hts0, hX, hbl, hlocks, hgv⟩ := id C0
  have hown : s.vm.findClass "ObjectForgeLaw" = some m.cls := hown
  have hbA : ¬ A b := fun h => absurd (hAf b h) (Nat.not_le.mpr hbl)
  have hts : ∀ w ∈ bw, w.before #[Value.ref b] s = true := fun w h => hts0 w (bw_in w h)
  have hP : va_P D cls [(qx, .inr (0, [.ref (qa 0), .ref (qa 1), .ref (qa 2), .int 0])), (qm, .inr (7, [.int 0, .int 0, .int 0, .int 0, .int 0, .int 0, .int (-1), .int (-1), .int 0, .int 0, .int 0, .int 0, .int 0, .int 0, .int 0, .int 0, .ref (qb 0), .ref (qb 1), .ref (qb 2), .ref (qb 3), .int 0, .ref (qb 4), .ref (qb 5), .ref (qb 6), .ref (qb 7), .ref (qb 8), .ref (qb 9), .ref (qb 10), .ref (qb 11), .ref (qb 12), .ref (qb 13), .ref (qb 14), .ref (qb 15), .ref (qb 16), .ref (qb 17), .ref (qb 18), .ref (qb 19), .ref (qb 20), .int 0, .int 0, .int 0, .int 0, .long 0, .long 0, .long 0, .long 0, .long 0, .ref (qb 21), .int 0, .int 0, .int 0, .int 0])), (qo, .inl (cj, 1, .inr (.inl (fun _ => 0))))] H := hP.sub [0, 10, 15] rfl
  have hD : va_D A [(qx, .inr (0, [.ref (qa 0), .ref (qa 1), .ref (qa 2), .int 0])), (qm, .inr (7, [.int 0, .int 0, .int 0, .int 0, .int 0, .int 0, .int (-1), .int (-1), .int 0, .int 0, .int 0, .int 0, .int 0, .int 0, .int 0, .int 0, .ref (qb 0), .ref (qb 1), .ref (qb 2), .ref (qb 3), .int 0, .ref (qb 4), .ref (qb 5), .ref (qb 6), .ref (qb 7), .ref (qb 8), .ref (qb 9), .ref (qb 10), .ref (qb 11), .ref (qb 12), .ref (qb 13), .ref (qb 14), .ref (qb 15), .ref (qb 16), .ref (qb 17), .ref (qb 18), .ref (qb 19), .ref (qb 20), .int 0, .int 0, .int 0, .int 0, .long 0, .long 0, .long 0, .long 0, .long 0, .ref (qb 21), .int 0, .int 0, .int 0, .int 0])), (qo, .inl (cj, 1, .inr (.inl (fun _ => 0))))] := hD.sub [0, 10, 15] (by decide) rfl
  have hK : va_K D cls [(cj, .long)] s := hK.sub [7] rfl
  refine lv_aload_n hx hb d_law_584 rfl (lv_at hl 3 rfl) ?_
  refine lv_aload_n hx hb d_law_585 rfl (lv_at hl 4 rfl) ?_
  refine lv_iload hx hb d_law_586 (lv_at hl 0 rfl) ?_
  refine lv_iconst (v := 1) hx hb d_law_588 (by decide) ?_
  refine lv_iadd hx hb d_law_589 ?_
  refine lv_topi (fun z1 ez1 => ?_)
  obtain rfl : z1 = 1 := ez1.trans (by decide)
  refine va_sld hx hb hX hbl hbA hS (by unfold vp_in; decide) d_law_590 ?_
  refine W.eq (g2 := F0 m 591 ls [.int (xs 1), .ref qx]) rfl ?_
  refine lv_aload_n hx hb d_law_591 rfl (lv_at hl 4 rfl) ?_
  refine lv_iload hx hb d_law_592 (lv_at hl 0 rfl) ?_
  refine lv_iconst (v := 2) hx hb d_law_594 (by decide) ?_
  refine lv_iadd hx hb d_law_595 ?_
  refine lv_topi (fun z2 ez2 => ?_)
  obtain rfl : z2 = 2 := ez2.trans (by decide)
  refine va_sld hx hb hX hbl hbA hS (by unfold vp_in; decide) d_law_596 ?_
  refine W.eq (g2 := F0 m 597 ls [.int (xs 2), .int (xs 1), .ref qx]) rfl ?_
  refine lv_aload_n hx hb d_law_597 rfl (lv_at hl 4 rfl) ?_
  refine lv_iload hx hb d_law_598 (lv_at hl 0 rfl) ?_
  refine lv_iconst (v := 3) hx hb d_law_600 (by decide) ?_
  refine lv_iadd hx hb d_law_601 ?_
  refine lv_topi (fun z3 ez3 => ?_)
  obtain rfl : z3 = 3 := ez3.trans (by decide)
  refine va_sld hx hb hX hbl hbA hS (by unfold vp_in; decide) d_law_602 ?_
  refine W.eq (g2 := F0 m 603 ls [.int (xs 3), .int (xs 2), .int (xs 1), .ref qx]) rfl ?_
  refine lv_aload_n hx hb d_law_603 rfl (lv_at hl 1 rfl) ?_
  refine xc_SW (As := [.ref qx, .int (xs 1), .int (xs 2), .int (xs 3), .ref qo]) (rest := []) (n := 5) (wc := [(qx, .inr (0, [.ref (qa 0), .ref (qa 1), .ref (qa 2), .int 0])), (qo, .inl (cj, 1, .inr (.inl (fun _ => 0))))]) (wr := [(qm, .inr (7, [.int 0, .int 0, .int 0, .int 0, .int 0, .int 0, .int (-1), .int (-1), .int 0, .int 0, .int 0, .int 0, .int 0, .int 0, .int 0, .int 0, .ref (qb 0), .ref (qb 1), .ref (qb 2), .ref (qb 3), .int 0, .ref (qb 4), .ref (qb 5), .ref (qb 6), .ref (qb 7), .ref (qb 8), .ref (qb 9), .ref (qb 10), .ref (qb 11), .ref (qb 12), .ref (qb 13), .ref (qb 14), .ref (qb 15), .ref (qb 16), .ref (qb 17), .ref (qb 18), .ref (qb 19), .ref (qb 20), .int 0, .int 0, .int 0, .int 0, .long 0, .long 0, .long 0, .long 0, .long 0, .ref (qb 21), .int 0, .int 0, .int 0, .int 0]))]) (tc := [(cj, .long)]) (tr := []) ⟨hx, hb, hml, hown, hts⟩ (c_La_letter_n l htr D qx qo cj qa qk (xs 1) (xs 2) (xs 3) hk H.size) rfl rfl w_343 w_341 w_342 w_0 (by decide +kernel) ⟨Nat.le_of_ble_eq_true rfl, Nat.le_of_ble_eq_true rfl⟩ hP hD hK hS hA hN hZ [0, 2] [1] rfl rfl (by decide) (by decide) (by decide) [0] [] rfl rfl rfl hl.1 rfl (Nat.le_of_ble_eq_true rfl) d_law_604 ⟨Nat.le_of_ble_eq_true rfl, Nat.le_of_ble_eq_true rfl⟩ (fun u4 H locs hP hD hK hS => ?_)
  have hP : va_P D cls [(qm, .inr (7, [.int 0, .int 0, .int 0, .int 0, .int 0, .int 0, .int (-1), .int (-1), .int 0, .int 0, .int 0, .int 0, .int 0, .int 0, .int 0, .int 0, .ref (qb 0), .ref (qb 1), .ref (qb 2), .ref (qb 3), .int 0, .ref (qb 4), .ref (qb 5), .ref (qb 6), .ref (qb 7), .ref (qb 8), .ref (qb 9), .ref (qb 10), .ref (qb 11), .ref (qb 12), .ref (qb 13), .ref (qb 14), .ref (qb 15), .ref (qb 16), .ref (qb 17), .ref (qb 18), .ref (qb 19), .ref (qb 20), .int 0, .int 0, .int 0, .int 0, .long 0, .long 0, .long 0, .long 0, .long 0, .ref (qb 21), .int 0, .int 0, .int 0, .int 0])), (qo, .inl (cj, 1, .inr (.inl (fun _ => 0))))] H := hP
  have hD : va_D A [(qm, .inr (7, [.int 0, .int 0, .int 0, .int 0, .int 0, .int 0, .int (-1), .int (-1), .int 0, .int 0, .int 0, .int 0, .int 0, .int 0, .int 0, .int 0, .ref (qb 0), .ref (qb 1), .ref (qb 2), .ref (qb 3), .int 0, .ref (qb 4), .ref (qb 5), .ref (qb 6), .ref (qb 7), .ref (qb 8), .ref (qb 9), .ref (qb 10), .ref (qb 11), .ref (qb 12), .ref (qb 13), .ref (qb 14), .ref (qb 15), .ref (qb 16), .ref (qb 17), .ref (qb 18), .ref (qb 19), .ref (qb 20), .int 0, .int 0, .int 0, .int 0, .long 0, .long 0, .long 0, .long 0, .long 0, .ref (qb 21), .int 0, .int 0, .int 0, .int 0])), (qo, .inl (cj, 1, .inr (.inl (fun _ => 0))))] := hD
  have hK : va_K D cls [(cj, .long)] s := hK
  refine W.widen (k := 224) (n := 300064) (by omega) (by omega) ?_
  refine W.eq (g2 := F0 m 607 ls [.int 1]) rfl ?_
  refine lv_istore (lv' := [(5, .int 1), (4, .int 0), (3, .ref qo), (2, .ref qm), (1, .ref qx), (0, .ref b)]) hx hb d_law_607 hl (by decide) rfl (fun ls hl => ?_)
  refine lv_aload_n hx hb d_law_609 rfl (lv_at hl 3 rfl) ?_
  refine lv_aload_n hx hb d_law_610 rfl (lv_at hl 5 rfl) ?_
  refine lv_iload hx hb d_law_611 (lv_at hl 1 rfl) ?_
  refine lv_iconst (v := 1) hx hb d_law_613 (by decide) ?_
  refine lv_iadd hx hb d_law_614 ?_
  refine lv_topi (fun z5 ez5 => ?_)
  obtain rfl : z5 = 1 := ez5.trans (by decide)
  refine va_sld hx hb hX hbl hbA hS (by unfold vp_in; decide) d_law_615 ?_
  refine W.eq (g2 := F0 m 616 ls [.int (xs 1), .ref qm]) rfl ?_
  refine lv_aload_n hx hb d_law_616 rfl (lv_at hl 5 rfl) ?_
  refine lv_iload hx hb d_law_617 (lv_at hl 1 rfl) ?_
  refine lv_iconst (v := 2) hx hb d_law_619 (by decide) ?_
  refine lv_iadd hx hb d_law_620 ?_
  refine lv_topi (fun z6 ez6 => ?_)
  obtain rfl : z6 = 2 := ez6.trans (by decide)
  refine va_sld hx hb hX hbl hbA hS (by unfold vp_in; decide) d_law_621 ?_
  refine W.eq (g2 := F0 m 622 ls [.int (xs 2), .int (xs 1), .ref qm]) rfl ?_
  refine lv_aload_n hx hb d_law_622 rfl (lv_at hl 5 rfl) ?_
  refine lv_iload hx hb d_law_623 (lv_at hl 1 rfl) ?_
  refine lv_iconst (v := 3) hx hb d_law_625 (by decide) ?_
  refine lv_iadd hx hb d_law_626 ?_
  refine lv_topi (fun z7 ez7 => ?_)
  obtain rfl : z7 = 3 := ez7.trans (by decide)
  refine va_sld hx hb hX hbl hbA hS (by unfold vp_in; decide) d_law_627 ?_
  refine W.eq (g2 := F0 m 628 ls [.int (xs 3), .int (xs 2), .int (xs 1), .ref qm]) rfl ?_
  refine xc_V (As := [.int (xs 1), .int (xs 2), .int (xs 3)]) (rest := []) (n := 3) (wc := [(qm, .inr (7, [.int 0, .int 0, .int 0, .int 0, .int 0, .int 0, .int (-1), .int (-1), .int 0, .int 0, .int 0, .int 0, .int 0, .int 0, .int 0, .int 0, .ref (qb 0), .ref (qb 1), .ref (qb 2), .ref (qb 3), .int 0, .ref (qb 4), .ref (qb 5), .ref (qb 6), .ref (qb 7), .ref (qb 8), .ref (qb 9), .ref (qb 10), .ref (qb 11), .ref (qb 12), .ref (qb 13), .ref (qb 14), .ref (qb 15), .ref (qb 16), .ref (qb 17), .ref (qb 18), .ref (qb 19), .ref (qb 20), .int 0, .int 0, .int 0, .int 0, .long 0, .long 0, .long 0, .long 0, .long 0, .ref (qb 21), .int 0, .int 0, .int 0, .int 0]))]) (wr := [(qo, .inl (cj, 1, .inr (.inl (fun _ => 0))))]) (tc := []) (tr := [(cj, .long)]) ⟨hx, hb, hml, hown, hts⟩ (c_Mo_letter_n l D qm qb (xs 1) (xs 2) (xs 3) hk H.size) rfl rfl w_522 w_519 w_520 w_521 w_8 (by decide +kernel) ⟨Nat.le_of_ble_eq_true rfl, Nat.le_of_ble_eq_true rfl⟩ hP hD hK hS hA hN hZ [0] [1] rfl rfl (by decide) (by decide) (by decide) [] [0] rfl rfl (ci := 7) (q0 := 0) (q := (R_Mo, F_Mo, 52)) rfl rfl rfl rfl hl.1 rfl (Nat.le_of_ble_eq_true rfl) d_law_628 ⟨Nat.le_of_ble_eq_true rfl, Nat.le_of_ble_eq_true rfl⟩ (fun u8 H locs hP hD hK hS => ?_)
  have hP : va_P D cls [(qo, .inl (cj, 1, .inr (.inl (fun _ => 0)))), (qm, .inr (7, [.int 1, .int 0, .int 0, .int 0, .int 0, .int 0, .int (-1), .int (-1), .int 0, .int 0, .int 0, .int 0, .int 0, .int 0, .int 0, .int 0, .ref (qb 0), .ref (qb 1), .ref (qb 2), .ref (qb 3), .int 0, .ref (qb 4), .ref (qb 5), .ref (qb 6), .ref (qb 7), .ref (qb 8), .ref (qb 9), .ref (qb 10), .ref (qb 11), .ref (qb 12), .ref (qb 13), .ref (qb 14), .ref (qb 15), .ref (qb 16), .ref (qb 17), .ref (qb 18), .ref (qb 19), .ref (qb 20), .int 0, .int 0, .int 0, .int 0, .long 0, .long 0, .long 0, .long 0, .long 0, .ref (qb 21), .int 0, .int 0, .int 0, .int 0]))] H := hP
  have hD : va_D A [(qo, .inl (cj, 1, .inr (.inl (fun _ => 0)))), (qm, .inr (7, [.int 1, .int 0, .int 0, .int 0, .int 0, .int 0, .int (-1), .int (-1), .int 0, .int 0, .int 0, .int 0, .int 0, .int 0, .int 0, .int 0, .ref (qb 0), .ref (qb 1), .ref (qb 2), .ref (qb 3), .int 0, .ref (qb 4), .ref (qb 5), .ref (qb 6), .ref (qb 7), .ref (qb 8), .ref (qb 9), .ref (qb 10), .ref (qb 11), .ref (qb 12), .ref (qb 13), .ref (qb 14), .ref (qb 15), .ref (qb 16), .ref (qb 17), .ref (qb 18), .ref (qb 19), .ref (qb 20), .int 0, .int 0, .int 0, .int 0, .long 0, .long 0, .long 0, .long 0, .long 0, .ref (qb 21), .int 0, .int 0, .int 0, .int 0]))] := hD
  have hK : va_K D cls [(cj, .long)] s := hK
  refine W.eq (g2 := F0 m 631 ls [.int 0]) rfl ?_
  refine lv_istore (lv' := [(6, .int 0), (5, .int 1), (4, .int 0), (3, .ref qo), (2, .ref qm), (1, .ref qx), (0, .ref b)]) hx hb d_law_631 hl (by decide) rfl (fun ls hl => ?_)
  refine lv_aload_n hx hb d_law_633 rfl (lv_at hl 4 rfl) ?_
  refine xc_V (As := []) (rest := []) (n := 0) (wc := [(qm, .inr (7, [.int 1, .int 0, .int 0, .int 0, .int 0, .int 0, .int (-1), .int (-1), .int 0, .int 0, .int 0, .int 0, .int 0, .int 0, .int 0, .int 0, .ref (qb 0), .ref (qb 1), .ref (qb 2), .ref (qb 3), .int 0, .ref (qb 4), .ref (qb 5), .ref (qb 6), .ref (qb 7), .ref (qb 8), .ref (qb 9), .ref (qb 10), .ref (qb 11), .ref (qb 12), .ref (qb 13), .ref (qb 14), .ref (qb 15), .ref (qb 16), .ref (qb 17), .ref (qb 18), .ref (qb 19), .ref (qb 20), .int 0, .int 0, .int 0, .int 0, .long 0, .long 0, .long 0, .long 0, .long 0, .ref (qb 21), .int 0, .int 0, .int 0, .int 0]))]) (wr := [(qo, .inl (cj, 1, .inr (.inl (fun _ => 0))))]) (tc := []) (tr := [(cj, .long)]) ⟨hx, hb, hml, hown, hts⟩ (c_Mo_thrown_1 l D qm qb H.size) rfl rfl w_445 w_442 w_443 w_444 w_8 (by decide +kernel) ⟨Nat.le_of_ble_eq_true rfl, Nat.le_of_ble_eq_true rfl⟩ hP hD hK hS hA hN hZ [1] [0] rfl rfl (by decide) (by decide) (by decide) [] [0] rfl rfl (ci := 7) (q0 := 0) (q := (R_Mo, F_Mo, 52)) rfl rfl rfl rfl hl.1 rfl (Nat.le_of_ble_eq_true rfl) d_law_634 ⟨Nat.le_of_ble_eq_true rfl, Nat.le_of_ble_eq_true rfl⟩ (fun u9 H locs hP hD hK hS => ?_)
  have hP : va_P D cls [(qo, .inl (cj, 1, .inr (.inl (fun _ => 0)))), (qm, .inr (7, [.int 1, .int 0, .int 0, .int 0, .int 0, .int 0, .int (-1), .int (-1), .int 0, .int 0, .int 0, .int 0, .int 0, .int 0, .int 0, .int 0, .ref (qb 0), .ref (qb 1), .ref (qb 2), .ref (qb 3), .int 0, .ref (qb 4), .ref (qb 5), .ref (qb 6), .ref (qb 7), .ref (qb 8), .ref (qb 9), .ref (qb 10), .ref (qb 11), .ref (qb 12), .ref (qb 13), .ref (qb 14), .ref (qb 15), .ref (qb 16), .ref (qb 17), .ref (qb 18), .ref (qb 19), .ref (qb 20), .int 0, .int 0, .int 0, .int 0, .long 0, .long 0, .long 0, .long 0, .long 0, .ref (qb 21), .int 0, .int 0, .int 0, .int 0]))] H := hP
  have hD : va_D A [(qo, .inl (cj, 1, .inr (.inl (fun _ => 0)))), (qm, .inr (7, [.int 1, .int 0, .int 0, .int 0, .int 0, .int 0, .int (-1), .int (-1), .int 0, .int 0, .int 0, .int 0, .int 0, .int 0, .int 0, .int 0, .ref (qb 0), .ref (qb 1), .ref (qb 2), .ref (qb 3), .int 0, .ref (qb 4), .ref (qb 5), .ref (qb 6), .ref (qb 7), .ref (qb 8), .ref (qb 9), .ref (qb 10), .ref (qb 11), .ref (qb 12), .ref (qb 13), .ref (qb 14), .ref (qb 15), .ref (qb 16), .ref (qb 17), .ref (qb 18), .ref (qb 19), .ref (qb 20), .int 0, .int 0, .int 0, .int 0, .long 0, .long 0, .long 0, .long 0, .long 0, .ref (qb 21), .int 0, .int 0, .int 0, .int 0]))] := hD
  have hK : va_K D cls [(cj, .long)] s := hK
  refine W.eq (g2 := F0 m 637 ls [.int 1]) rfl ?_
  refine lv_iload hx hb d_law_637 (lv_at hl 1 rfl) ?_
  refine lv_icmp_eq (tgt := 644) hx hb d_law_639 (by decide) (fun _ => ?_) (fun q9 => absurd (by decide : ((1 : Int32) = 1)) q9)
  refine lv_iload hx hb d_law_644 (lv_at hl 1 rfl) ?_
  refine lv_if_ne (tgt := 661) hx hb d_law_646 (by decide) (fun _ => ?_) (fun q9 => absurd q9 (by decide : ¬ ((1 : Int32) = 0)))
  refine lv_goto (tgt := 1005) hx hb d_law_661 (by decide) ?_
  exact law_tail C0 hA hAf hS (Nat.le_of_ble_eq_true rfl) (Nat.le_of_ble_eq_true rfl) (lv_sub hl [6, 2] rfl)

set_option maxHeartbeats 4000000 in
set_option maxRecDepth 100000 in
theorem l_letter_g {p : Program} {l : Launch} {e : Env} {s : State} {m : MethodId} {below : List Frame} {meth : Method} {c : Code} {b : Nat} {xs : Nat → Int32} (htr : l.stackTraces = false) (C0 : lw_At p s m meth c b 5 xs) {A : Nat → Prop} (hA : ∀ q, s.heap.size ≤ q → A q) (hAf : ∀ q, A q → s.heap.size ≤ q) (hN : xN s) (hZ : xZ A s s.heap) {D : va_G} {qx qm qo : Nat} {cj : ClassId} {qa qb : Nat → Nat} {qk ql : Nat → ClassId} {uf : Nat → Option Nat} {H : Heap} {locs : List Loc} (hk : ¬ xs 1 < 0) (hP : va_P D cls (lawW qx qm qo cj qa qb qk ql uf) H) (hD : va_D A (lawW qx qm qo cj qa qb qk ql uf)) (hK : va_K D cls (lawT cj qk ql) s) (hS : va_S A s.heap H locs) {ls : Array Slot} (hl : lv_has ls 7 [(4, .int 0), (3, .ref qo), (2, .ref qm), (1, .ref qx), (0, .ref b)]) : W p l e room_1 s m #[Value.ref b] below meth c H locs 223 300058 (lw_Z below #[Value.ref b] s) (F0 m 584 ls []) := by
  obtain ⟨hx, hb, hr, hml, hown, hts0, hX, hbl, hlocks, hgv⟩ := id C0
  have hown : s.vm.findClass "ObjectForgeLaw" = some m.cls := hown
  have hbA : ¬ A b := fun h => absurd (hAf b h) (Nat.not_le.mpr hbl)
  have hts : ∀ w ∈ bw, w.before #[Value.ref b] s = true := fun w h => hts0 w (bw_in w h)
  have hP : va_P D cls [(qx, .inr (0, [.ref (qa 0), .ref (qa 1), .ref (qa 2), .int 0])), (qm, .inr (7, [.int 0, .int 0, .int 0, .int 0, .int 0, .int 0, .int (-1), .int (-1), .int 0, .int 0, .int 0, .int 0, .int 0, .int 0, .int 0, .int 0, .ref (qb 0), .ref (qb 1), .ref (qb 2), .ref (qb 3), .int 0, .ref (qb 4), .ref (qb 5), .ref (qb 6), .ref (qb 7), .ref (qb 8), .ref (qb 9), .ref (qb 10), .ref (qb 11), .ref (qb 12), .ref (qb 13), .ref (qb 14), .ref (qb 15), .ref (qb 16), .ref (qb 17), .ref (qb 18), .ref (qb 19), .ref (qb 20), .int 0, .int 0, .int 0, .int 0, .long 0, .long 0, .long 0, .long 0, .long 0, .ref (qb 21), .int 0, .int 0, .int 0, .int 0])), (qo, .inl (cj, 1, .inr (.inl (fun _ => 0))))] H := hP.sub [0, 10, 15] rfl
  have hD : va_D A [(qx, .inr (0, [.ref (qa 0), .ref (qa 1), .ref (qa 2), .int 0])), (qm, .inr (7, [.int 0, .int 0, .int 0, .int 0, .int 0, .int 0, .int (-1), .int (-1), .int 0, .int 0, .int 0, .int 0, .int 0, .int 0, .int 0, .int 0, .ref (qb 0), .ref (qb 1), .ref (qb 2), .ref (qb 3), .int 0, .ref (qb 4), .ref (qb 5), .ref (qb 6), .ref (qb 7), .ref (qb 8), .ref (qb 9), .ref (qb 10), .ref (qb 11), .ref (qb 12), .ref (qb 13), .ref (qb 14), .ref (qb 15), .ref (qb 16), .ref (qb 17), .ref (qb 18), .ref (qb 19), .ref (qb 20), .int 0, .int 0, .int 0, .int 0, .long 0, .long 0, .long 0, .long 0, .long 0, .ref (qb 21), .int 0, .int 0, .int 0, .int 0])), (qo, .inl (cj, 1, .inr (.inl (fun _ => 0))))] := hD.sub [0, 10, 15] (by decide) rfl
  have hK : va_K D cls [(cj, .long)] s := hK.sub [7] rfl
  refine lv_aload_n hx hb d_law_584 rfl (lv_at hl 3 rfl) ?_
  refine lv_aload_n hx hb d_law_585 rfl (lv_at hl 4 rfl) ?_
  refine lv_iload hx hb d_law_586 (lv_at hl 0 rfl) ?_
  refine lv_iconst (v := 1) hx hb d_law_588 (by decide) ?_
  refine lv_iadd hx hb d_law_589 ?_
  refine lv_topi (fun z1 ez1 => ?_)
  obtain rfl : z1 = 1 := ez1.trans (by decide)
  refine va_sld hx hb hX hbl hbA hS (by unfold vp_in; decide) d_law_590 ?_
  refine W.eq (g2 := F0 m 591 ls [.int (xs 1), .ref qx]) rfl ?_
  refine lv_aload_n hx hb d_law_591 rfl (lv_at hl 4 rfl) ?_
  refine lv_iload hx hb d_law_592 (lv_at hl 0 rfl) ?_
  refine lv_iconst (v := 2) hx hb d_law_594 (by decide) ?_
  refine lv_iadd hx hb d_law_595 ?_
  refine lv_topi (fun z2 ez2 => ?_)
  obtain rfl : z2 = 2 := ez2.trans (by decide)
  refine va_sld hx hb hX hbl hbA hS (by unfold vp_in; decide) d_law_596 ?_
  refine W.eq (g2 := F0 m 597 ls [.int (xs 2), .int (xs 1), .ref qx]) rfl ?_
  refine lv_aload_n hx hb d_law_597 rfl (lv_at hl 4 rfl) ?_
  refine lv_iload hx hb d_law_598 (lv_at hl 0 rfl) ?_
  refine lv_iconst (v := 3) hx hb d_law_600 (by decide) ?_
  refine lv_iadd hx hb d_law_601 ?_
  refine lv_topi (fun z3 ez3 => ?_)
  obtain rfl : z3 = 3 := ez3.trans (by decide)
  refine va_sld hx hb hX hbl hbA hS (by unfold vp_in; decide) d_law_602 ?_
  refine W.eq (g2 := F0 m 603 ls [.int (xs 3), .int (xs 2), .int (xs 1), .ref qx]) rfl ?_
  refine lv_aload_n hx hb d_law_603 rfl (lv_at hl 1 rfl) ?_
  refine xc_SW (As := [.ref qx, .int (xs 1), .int (xs 2), .int (xs 3), .ref qo]) (rest := []) (n := 5) (wc := [(qx, .inr (0, [.ref (qa 0), .ref (qa 1), .ref (qa 2), .int 0])), (qo, .inl (cj, 1, .inr (.inl (fun _ => 0))))]) (wr := [(qm, .inr (7, [.int 0, .int 0, .int 0, .int 0, .int 0, .int 0, .int (-1), .int (-1), .int 0, .int 0, .int 0, .int 0, .int 0, .int 0, .int 0, .int 0, .ref (qb 0), .ref (qb 1), .ref (qb 2), .ref (qb 3), .int 0, .ref (qb 4), .ref (qb 5), .ref (qb 6), .ref (qb 7), .ref (qb 8), .ref (qb 9), .ref (qb 10), .ref (qb 11), .ref (qb 12), .ref (qb 13), .ref (qb 14), .ref (qb 15), .ref (qb 16), .ref (qb 17), .ref (qb 18), .ref (qb 19), .ref (qb 20), .int 0, .int 0, .int 0, .int 0, .long 0, .long 0, .long 0, .long 0, .long 0, .ref (qb 21), .int 0, .int 0, .int 0, .int 0]))]) (tc := [(cj, .long)]) (tr := []) ⟨hx, hb, hml, hown, hts⟩ (c_La_letter_g l htr D qx qo cj qa qk (xs 1) (xs 2) (xs 3) hk hk H.size) rfl rfl w_343 w_341 w_342 w_0 (by decide +kernel) ⟨Nat.le_of_ble_eq_true rfl, Nat.le_of_ble_eq_true rfl⟩ hP hD hK hS hA hN hZ [0, 2] [1] rfl rfl (by decide) (by decide) (by decide) [0] [] rfl rfl rfl hl.1 rfl (Nat.le_of_ble_eq_true rfl) d_law_604 ⟨Nat.le_of_ble_eq_true rfl, Nat.le_of_ble_eq_true rfl⟩ (fun u4 H locs hP hD hK hS => ?_)
  have hP : va_P D cls [(qm, .inr (7, [.int 0, .int 0, .int 0, .int 0, .int 0, .int 0, .int (-1), .int (-1), .int 0, .int 0, .int 0, .int 0, .int 0, .int 0, .int 0, .int 0, .ref (qb 0), .ref (qb 1), .ref (qb 2), .ref (qb 3), .int 0, .ref (qb 4), .ref (qb 5), .ref (qb 6), .ref (qb 7), .ref (qb 8), .ref (qb 9), .ref (qb 10), .ref (qb 11), .ref (qb 12), .ref (qb 13), .ref (qb 14), .ref (qb 15), .ref (qb 16), .ref (qb 17), .ref (qb 18), .ref (qb 19), .ref (qb 20), .int 0, .int 0, .int 0, .int 0, .long 0, .long 0, .long 0, .long 0, .long 0, .ref (qb 21), .int 0, .int 0, .int 0, .int 0])), (qo, .inl (cj, 1, .inr (.inl (fun _ => 0))))] H := hP
  have hD : va_D A [(qm, .inr (7, [.int 0, .int 0, .int 0, .int 0, .int 0, .int 0, .int (-1), .int (-1), .int 0, .int 0, .int 0, .int 0, .int 0, .int 0, .int 0, .int 0, .ref (qb 0), .ref (qb 1), .ref (qb 2), .ref (qb 3), .int 0, .ref (qb 4), .ref (qb 5), .ref (qb 6), .ref (qb 7), .ref (qb 8), .ref (qb 9), .ref (qb 10), .ref (qb 11), .ref (qb 12), .ref (qb 13), .ref (qb 14), .ref (qb 15), .ref (qb 16), .ref (qb 17), .ref (qb 18), .ref (qb 19), .ref (qb 20), .int 0, .int 0, .int 0, .int 0, .long 0, .long 0, .long 0, .long 0, .long 0, .ref (qb 21), .int 0, .int 0, .int 0, .int 0])), (qo, .inl (cj, 1, .inr (.inl (fun _ => 0))))] := hD
  have hK : va_K D cls [(cj, .long)] s := hK
  refine W.widen (k := 224) (n := 300064) (by omega) (by omega) ?_
  refine W.eq (g2 := F0 m 607 ls [.int 1]) rfl ?_
  refine lv_istore (lv' := [(5, .int 1), (4, .int 0), (3, .ref qo), (2, .ref qm), (1, .ref qx), (0, .ref b)]) hx hb d_law_607 hl (by decide) rfl (fun ls hl => ?_)
  refine lv_aload_n hx hb d_law_609 rfl (lv_at hl 3 rfl) ?_
  refine lv_aload_n hx hb d_law_610 rfl (lv_at hl 5 rfl) ?_
  refine lv_iload hx hb d_law_611 (lv_at hl 1 rfl) ?_
  refine lv_iconst (v := 1) hx hb d_law_613 (by decide) ?_
  refine lv_iadd hx hb d_law_614 ?_
  refine lv_topi (fun z5 ez5 => ?_)
  obtain rfl : z5 = 1 := ez5.trans (by decide)
  refine va_sld hx hb hX hbl hbA hS (by unfold vp_in; decide) d_law_615 ?_
  refine W.eq (g2 := F0 m 616 ls [.int (xs 1), .ref qm]) rfl ?_
  refine lv_aload_n hx hb d_law_616 rfl (lv_at hl 5 rfl) ?_
  refine lv_iload hx hb d_law_617 (lv_at hl 1 rfl) ?_
  refine lv_iconst (v := 2) hx hb d_law_619 (by decide) ?_
  refine lv_iadd hx hb d_law_620 ?_
  refine lv_topi (fun z6 ez6 => ?_)
  obtain rfl : z6 = 2 := ez6.trans (by decide)
  refine va_sld hx hb hX hbl hbA hS (by unfold vp_in; decide) d_law_621 ?_
  refine W.eq (g2 := F0 m 622 ls [.int (xs 2), .int (xs 1), .ref qm]) rfl ?_
  refine lv_aload_n hx hb d_law_622 rfl (lv_at hl 5 rfl) ?_
  refine lv_iload hx hb d_law_623 (lv_at hl 1 rfl) ?_
  refine lv_iconst (v := 3) hx hb d_law_625 (by decide) ?_
  refine lv_iadd hx hb d_law_626 ?_
  refine lv_topi (fun z7 ez7 => ?_)
  obtain rfl : z7 = 3 := ez7.trans (by decide)
  refine va_sld hx hb hX hbl hbA hS (by unfold vp_in; decide) d_law_627 ?_
  refine W.eq (g2 := F0 m 628 ls [.int (xs 3), .int (xs 2), .int (xs 1), .ref qm]) rfl ?_
  refine xc_V (As := [.int (xs 1), .int (xs 2), .int (xs 3)]) (rest := []) (n := 3) (wc := [(qm, .inr (7, [.int 0, .int 0, .int 0, .int 0, .int 0, .int 0, .int (-1), .int (-1), .int 0, .int 0, .int 0, .int 0, .int 0, .int 0, .int 0, .int 0, .ref (qb 0), .ref (qb 1), .ref (qb 2), .ref (qb 3), .int 0, .ref (qb 4), .ref (qb 5), .ref (qb 6), .ref (qb 7), .ref (qb 8), .ref (qb 9), .ref (qb 10), .ref (qb 11), .ref (qb 12), .ref (qb 13), .ref (qb 14), .ref (qb 15), .ref (qb 16), .ref (qb 17), .ref (qb 18), .ref (qb 19), .ref (qb 20), .int 0, .int 0, .int 0, .int 0, .long 0, .long 0, .long 0, .long 0, .long 0, .ref (qb 21), .int 0, .int 0, .int 0, .int 0]))]) (wr := [(qo, .inl (cj, 1, .inr (.inl (fun _ => 0))))]) (tc := []) (tr := [(cj, .long)]) ⟨hx, hb, hml, hown, hts⟩ (c_Mo_letter_g l D qm qb (xs 1) (xs 2) (xs 3) hk (x_ge hk) H.size) rfl rfl w_522 w_519 w_520 w_521 w_8 (by decide +kernel) ⟨Nat.le_of_ble_eq_true rfl, Nat.le_of_ble_eq_true rfl⟩ hP hD hK hS hA hN hZ [0] [1] rfl rfl (by decide) (by decide) (by decide) [] [0] rfl rfl (ci := 7) (q0 := 0) (q := (R_Mo, F_Mo, 52)) rfl rfl rfl rfl hl.1 rfl (Nat.le_of_ble_eq_true rfl) d_law_628 ⟨Nat.le_of_ble_eq_true rfl, Nat.le_of_ble_eq_true rfl⟩ (fun u8 H locs hP hD hK hS => ?_)
  have hP : va_P D cls [(qo, .inl (cj, 1, .inr (.inl (fun _ => 0)))), (qm, .inr (7, [.int 1, .int 0, .int 0, .int 0, .int 0, .int 0, .int (-1), .int (-1), .int 0, .int 0, .int 0, .int 0, .int 0, .int 0, .int 0, .int 0, .ref (qb 0), .ref (qb 1), .ref (qb 2), .ref (qb 3), .int 0, .ref (qb 4), .ref (qb 5), .ref (qb 6), .ref (qb 7), .ref (qb 8), .ref (qb 9), .ref (qb 10), .ref (qb 11), .ref (qb 12), .ref (qb 13), .ref (qb 14), .ref (qb 15), .ref (qb 16), .ref (qb 17), .ref (qb 18), .ref (qb 19), .ref (qb 20), .int 0, .int 0, .int 0, .int 0, .long 0, .long 0, .long 0, .long 0, .long 0, .ref (qb 21), .int 0, .int 0, .int 0, .int 0]))] H := hP
  have hD : va_D A [(qo, .inl (cj, 1, .inr (.inl (fun _ => 0)))), (qm, .inr (7, [.int 1, .int 0, .int 0, .int 0, .int 0, .int 0, .int (-1), .int (-1), .int 0, .int 0, .int 0, .int 0, .int 0, .int 0, .int 0, .int 0, .ref (qb 0), .ref (qb 1), .ref (qb 2), .ref (qb 3), .int 0, .ref (qb 4), .ref (qb 5), .ref (qb 6), .ref (qb 7), .ref (qb 8), .ref (qb 9), .ref (qb 10), .ref (qb 11), .ref (qb 12), .ref (qb 13), .ref (qb 14), .ref (qb 15), .ref (qb 16), .ref (qb 17), .ref (qb 18), .ref (qb 19), .ref (qb 20), .int 0, .int 0, .int 0, .int 0, .long 0, .long 0, .long 0, .long 0, .long 0, .ref (qb 21), .int 0, .int 0, .int 0, .int 0]))] := hD
  have hK : va_K D cls [(cj, .long)] s := hK
  refine W.eq (g2 := F0 m 631 ls [.int 0]) rfl ?_
  refine lv_istore (lv' := [(6, .int 0), (5, .int 1), (4, .int 0), (3, .ref qo), (2, .ref qm), (1, .ref qx), (0, .ref b)]) hx hb d_law_631 hl (by decide) rfl (fun ls hl => ?_)
  refine lv_aload_n hx hb d_law_633 rfl (lv_at hl 4 rfl) ?_
  refine xc_V (As := []) (rest := []) (n := 0) (wc := [(qm, .inr (7, [.int 1, .int 0, .int 0, .int 0, .int 0, .int 0, .int (-1), .int (-1), .int 0, .int 0, .int 0, .int 0, .int 0, .int 0, .int 0, .int 0, .ref (qb 0), .ref (qb 1), .ref (qb 2), .ref (qb 3), .int 0, .ref (qb 4), .ref (qb 5), .ref (qb 6), .ref (qb 7), .ref (qb 8), .ref (qb 9), .ref (qb 10), .ref (qb 11), .ref (qb 12), .ref (qb 13), .ref (qb 14), .ref (qb 15), .ref (qb 16), .ref (qb 17), .ref (qb 18), .ref (qb 19), .ref (qb 20), .int 0, .int 0, .int 0, .int 0, .long 0, .long 0, .long 0, .long 0, .long 0, .ref (qb 21), .int 0, .int 0, .int 0, .int 0]))]) (wr := [(qo, .inl (cj, 1, .inr (.inl (fun _ => 0))))]) (tc := []) (tr := [(cj, .long)]) ⟨hx, hb, hml, hown, hts⟩ (c_Mo_thrown_1 l D qm qb H.size) rfl rfl w_445 w_442 w_443 w_444 w_8 (by decide +kernel) ⟨Nat.le_of_ble_eq_true rfl, Nat.le_of_ble_eq_true rfl⟩ hP hD hK hS hA hN hZ [1] [0] rfl rfl (by decide) (by decide) (by decide) [] [0] rfl rfl (ci := 7) (q0 := 0) (q := (R_Mo, F_Mo, 52)) rfl rfl rfl rfl hl.1 rfl (Nat.le_of_ble_eq_true rfl) d_law_634 ⟨Nat.le_of_ble_eq_true rfl, Nat.le_of_ble_eq_true rfl⟩ (fun u9 H locs hP hD hK hS => ?_)
  have hP : va_P D cls [(qo, .inl (cj, 1, .inr (.inl (fun _ => 0)))), (qm, .inr (7, [.int 1, .int 0, .int 0, .int 0, .int 0, .int 0, .int (-1), .int (-1), .int 0, .int 0, .int 0, .int 0, .int 0, .int 0, .int 0, .int 0, .ref (qb 0), .ref (qb 1), .ref (qb 2), .ref (qb 3), .int 0, .ref (qb 4), .ref (qb 5), .ref (qb 6), .ref (qb 7), .ref (qb 8), .ref (qb 9), .ref (qb 10), .ref (qb 11), .ref (qb 12), .ref (qb 13), .ref (qb 14), .ref (qb 15), .ref (qb 16), .ref (qb 17), .ref (qb 18), .ref (qb 19), .ref (qb 20), .int 0, .int 0, .int 0, .int 0, .long 0, .long 0, .long 0, .long 0, .long 0, .ref (qb 21), .int 0, .int 0, .int 0, .int 0]))] H := hP
  have hD : va_D A [(qo, .inl (cj, 1, .inr (.inl (fun _ => 0)))), (qm, .inr (7, [.int 1, .int 0, .int 0, .int 0, .int 0, .int 0, .int (-1), .int (-1), .int 0, .int 0, .int 0, .int 0, .int 0, .int 0, .int 0, .int 0, .ref (qb 0), .ref (qb 1), .ref (qb 2), .ref (qb 3), .int 0, .ref (qb 4), .ref (qb 5), .ref (qb 6), .ref (qb 7), .ref (qb 8), .ref (qb 9), .ref (qb 10), .ref (qb 11), .ref (qb 12), .ref (qb 13), .ref (qb 14), .ref (qb 15), .ref (qb 16), .ref (qb 17), .ref (qb 18), .ref (qb 19), .ref (qb 20), .int 0, .int 0, .int 0, .int 0, .long 0, .long 0, .long 0, .long 0, .long 0, .ref (qb 21), .int 0, .int 0, .int 0, .int 0]))] := hD
  have hK : va_K D cls [(cj, .long)] s := hK
  refine W.eq (g2 := F0 m 637 ls [.int 1]) rfl ?_
  refine lv_iload hx hb d_law_637 (lv_at hl 1 rfl) ?_
  refine lv_icmp_eq (tgt := 644) hx hb d_law_639 (by decide) (fun _ => ?_) (fun q9 => absurd (by decide : ((1 : Int32) = 1)) q9)
  refine lv_iload hx hb d_law_644 (lv_at hl 1 rfl) ?_
  refine lv_if_ne (tgt := 661) hx hb d_law_646 (by decide) (fun _ => ?_) (fun q9 => absurd q9 (by decide : ¬ ((1 : Int32) = 0)))
  refine lv_goto (tgt := 1005) hx hb d_law_661 (by decide) ?_
  exact law_tail C0 hA hAf hS (Nat.le_of_ble_eq_true rfl) (Nat.le_of_ble_eq_true rfl) (lv_sub hl [6, 2] rfl)

theorem d_law_664 : decode code 664 = .ok (.aload_n 1, 1) := by decide +kernel
theorem d_law_665 : decode code 665 = .ok (.aload_n 0, 1) := by decide +kernel
theorem d_law_666 : decode code 666 = .ok (.iload 4, 2) := by decide +kernel
theorem d_law_668 : decode code 668 = .ok (.iconst 1, 1) := by decide +kernel
theorem d_law_669 : decode code 669 = .ok (.iadd, 1) := by decide +kernel
theorem d_law_670 : decode code 670 = .ok (.iaload, 1) := by decide +kernel
theorem d_law_671 : decode code 671 = .ok (.aload_n 0, 1) := by decide +kernel
theorem d_law_672 : decode code 672 = .ok (.iload 4, 2) := by decide +kernel
theorem d_law_674 : decode code 674 = .ok (.iconst 2, 1) := by decide +kernel
theorem d_law_675 : decode code 675 = .ok (.iadd, 1) := by decide +kernel
theorem d_law_676 : decode code 676 = .ok (.iaload, 1) := by decide +kernel
theorem d_law_677 : decode code 677 = .ok (.aload_n 0, 1) := by decide +kernel
theorem d_law_678 : decode code 678 = .ok (.iload 4, 2) := by decide +kernel
theorem d_law_680 : decode code 680 = .ok (.iconst 3, 1) := by decide +kernel
theorem d_law_681 : decode code 681 = .ok (.iadd, 1) := by decide +kernel
theorem d_law_682 : decode code 682 = .ok (.iaload, 1) := by decide +kernel
theorem d_law_683 : decode code 683 = .ok (.aload_n 3, 1) := by decide +kernel
theorem d_law_684 : decode code 684 = .ok (.invokestatic 97, 3) := by decide +kernel
theorem d_law_687 : decode code 687 = .ok (.istore 5, 2) := by decide +kernel
theorem d_law_689 : decode code 689 = .ok (.aload_n 2, 1) := by decide +kernel
theorem d_law_690 : decode code 690 = .ok (.aload_n 0, 1) := by decide +kernel
theorem d_law_691 : decode code 691 = .ok (.iload 4, 2) := by decide +kernel
theorem d_law_693 : decode code 693 = .ok (.iconst 1, 1) := by decide +kernel
theorem d_law_694 : decode code 694 = .ok (.iadd, 1) := by decide +kernel
theorem d_law_695 : decode code 695 = .ok (.iaload, 1) := by decide +kernel
theorem d_law_696 : decode code 696 = .ok (.aload_n 0, 1) := by decide +kernel
theorem d_law_697 : decode code 697 = .ok (.iload 4, 2) := by decide +kernel
theorem d_law_699 : decode code 699 = .ok (.iconst 2, 1) := by decide +kernel
theorem d_law_700 : decode code 700 = .ok (.iadd, 1) := by decide +kernel
theorem d_law_701 : decode code 701 = .ok (.iaload, 1) := by decide +kernel
theorem d_law_702 : decode code 702 = .ok (.aload_n 0, 1) := by decide +kernel
theorem d_law_703 : decode code 703 = .ok (.iload 4, 2) := by decide +kernel
theorem d_law_705 : decode code 705 = .ok (.iconst 3, 1) := by decide +kernel
theorem d_law_706 : decode code 706 = .ok (.iadd, 1) := by decide +kernel
theorem d_law_707 : decode code 707 = .ok (.iaload, 1) := by decide +kernel
theorem d_law_708 : decode code 708 = .ok (.invokevirtual 99, 3) := by decide +kernel
theorem d_law_711 : decode code 711 = .ok (.istore 6, 2) := by decide +kernel
theorem d_law_713 : decode code 713 = .ok (.aload_n 2, 1) := by decide +kernel
theorem d_law_714 : decode code 714 = .ok (.invokevirtual 69, 3) := by decide +kernel
theorem d_law_717 : decode code 717 = .ok (.iload 5, 2) := by decide +kernel
theorem d_law_719 : decode code 719 = .ok (.if_icmp .eq 5, 3) := by decide +kernel
theorem d_law_724 : decode code 724 = .ok (.iload 5, 2) := by decide +kernel
theorem d_law_726 : decode code 726 = .ok (.ifCond .ne 15, 3) := by decide +kernel
theorem d_law_741 : decode code 741 = .ok (.goto 264, 3) := by decide +kernel
set_option maxHeartbeats 4000000 in
set_option maxRecDepth 100000 in
theorem l_relocation_n {p : Program} {l : Launch} {e : Env} {s : State} {m : MethodId} {below : List Frame} {meth : Method} {c : Code} {b : Nat} {xs : Nat → Int32} (htr : l.stackTraces = false) (C0 : lw_At p s m meth c b 5 xs) {A : Nat → Prop} (hA : ∀ q, s.heap.size ≤ q → A q) (hAf : ∀ q, A q → s.heap.size ≤ q) (hN : xN s) (hZ : xZ A s s.heap) {D : va_G} {qx qm qo : Nat} {cj : ClassId} {qa qb : Nat → Nat} {qk ql : Nat → ClassId} {uf : Nat → Option Nat} {H : Heap} {locs : List Loc} (hk : xs 1 < 0) (hP : va_P D cls (lawW qx qm qo cj qa qb qk ql uf) H) (hD : va_D A (lawW qx qm qo cj qa qb qk ql uf)) (hK : va_K D cls (lawT cj qk ql) s) (hS : va_S A s.heap H locs) {ls : Array Slot} (hl : lv_has ls 7 [(4, .int 0), (3, .ref qo), (2, .ref qm), (1, .ref qx), (0, .ref b)]) : W p l e room_1 s m #[Value.ref b] below meth c H locs 223 300058 (lw_Z below #[Value.ref b] s) (F0 m 664 ls []) := by
  obtain ⟨hx, hb, hr, hml, hown, hts0, hX, hbl, hlocks, hgv⟩ := id C0
  have hown : s.vm.findClass "ObjectForgeLaw" = some m.cls := hown
  have hbA : ¬ A b := fun h => absurd (hAf b h) (Nat.not_le.mpr hbl)
  have hts : ∀ w ∈ bw, w.before #[Value.ref b] s = true := fun w h => hts0 w (bw_in w h)
  have hP : va_P D cls [(qx, .inr (0, [.ref (qa 0), .ref (qa 1), .ref (qa 2), .int 0])), (qm, .inr (7, [.int 0, .int 0, .int 0, .int 0, .int 0, .int 0, .int (-1), .int (-1), .int 0, .int 0, .int 0, .int 0, .int 0, .int 0, .int 0, .int 0, .ref (qb 0), .ref (qb 1), .ref (qb 2), .ref (qb 3), .int 0, .ref (qb 4), .ref (qb 5), .ref (qb 6), .ref (qb 7), .ref (qb 8), .ref (qb 9), .ref (qb 10), .ref (qb 11), .ref (qb 12), .ref (qb 13), .ref (qb 14), .ref (qb 15), .ref (qb 16), .ref (qb 17), .ref (qb 18), .ref (qb 19), .ref (qb 20), .int 0, .int 0, .int 0, .int 0, .long 0, .long 0, .long 0, .long 0, .long 0, .ref (qb 21), .int 0, .int 0, .int 0, .int 0])), (qo, .inl (cj, 1, .inr (.inl (fun _ => 0))))] H := hP.sub [0, 10, 15] rfl
  have hD : va_D A [(qx, .inr (0, [.ref (qa 0), .ref (qa 1), .ref (qa 2), .int 0])), (qm, .inr (7, [.int 0, .int 0, .int 0, .int 0, .int 0, .int 0, .int (-1), .int (-1), .int 0, .int 0, .int 0, .int 0, .int 0, .int 0, .int 0, .int 0, .ref (qb 0), .ref (qb 1), .ref (qb 2), .ref (qb 3), .int 0, .ref (qb 4), .ref (qb 5), .ref (qb 6), .ref (qb 7), .ref (qb 8), .ref (qb 9), .ref (qb 10), .ref (qb 11), .ref (qb 12), .ref (qb 13), .ref (qb 14), .ref (qb 15), .ref (qb 16), .ref (qb 17), .ref (qb 18), .ref (qb 19), .ref (qb 20), .int 0, .int 0, .int 0, .int 0, .long 0, .long 0, .long 0, .long 0, .long 0, .ref (qb 21), .int 0, .int 0, .int 0, .int 0])), (qo, .inl (cj, 1, .inr (.inl (fun _ => 0))))] := hD.sub [0, 10, 15] (by decide) rfl
  have hK : va_K D cls [(cj, .long)] s := hK.sub [7] rfl
  refine lv_aload_n hx hb d_law_664 rfl (lv_at hl 3 rfl) ?_
  refine lv_aload_n hx hb d_law_665 rfl (lv_at hl 4 rfl) ?_
  refine lv_iload hx hb d_law_666 (lv_at hl 0 rfl) ?_
  refine lv_iconst (v := 1) hx hb d_law_668 (by decide) ?_
  refine lv_iadd hx hb d_law_669 ?_
  refine lv_topi (fun z1 ez1 => ?_)
  obtain rfl : z1 = 1 := ez1.trans (by decide)
  refine va_sld hx hb hX hbl hbA hS (by unfold vp_in; decide) d_law_670 ?_
  refine W.eq (g2 := F0 m 671 ls [.int (xs 1), .ref qx]) rfl ?_
  refine lv_aload_n hx hb d_law_671 rfl (lv_at hl 4 rfl) ?_
  refine lv_iload hx hb d_law_672 (lv_at hl 0 rfl) ?_
  refine lv_iconst (v := 2) hx hb d_law_674 (by decide) ?_
  refine lv_iadd hx hb d_law_675 ?_
  refine lv_topi (fun z2 ez2 => ?_)
  obtain rfl : z2 = 2 := ez2.trans (by decide)
  refine va_sld hx hb hX hbl hbA hS (by unfold vp_in; decide) d_law_676 ?_
  refine W.eq (g2 := F0 m 677 ls [.int (xs 2), .int (xs 1), .ref qx]) rfl ?_
  refine lv_aload_n hx hb d_law_677 rfl (lv_at hl 4 rfl) ?_
  refine lv_iload hx hb d_law_678 (lv_at hl 0 rfl) ?_
  refine lv_iconst (v := 3) hx hb d_law_680 (by decide) ?_
  refine lv_iadd hx hb d_law_681 ?_
  refine lv_topi (fun z3 ez3 => ?_)
  obtain rfl : z3 = 3 := ez3.trans (by decide)
  refine va_sld hx hb hX hbl hbA hS (by unfold vp_in; decide) d_law_682 ?_
  refine W.eq (g2 := F0 m 683 ls [.int (xs 3), .int (xs 2), .int (xs 1), .ref qx]) rfl ?_
  refine lv_aload_n hx hb d_law_683 rfl (lv_at hl 1 rfl) ?_
  refine xc_SW (As := [.ref qx, .int (xs 1), .int (xs 2), .int (xs 3), .ref qo]) (rest := []) (n := 5) (wc := [(qx, .inr (0, [.ref (qa 0), .ref (qa 1), .ref (qa 2), .int 0])), (qo, .inl (cj, 1, .inr (.inl (fun _ => 0))))]) (wr := [(qm, .inr (7, [.int 0, .int 0, .int 0, .int 0, .int 0, .int 0, .int (-1), .int (-1), .int 0, .int 0, .int 0, .int 0, .int 0, .int 0, .int 0, .int 0, .ref (qb 0), .ref (qb 1), .ref (qb 2), .ref (qb 3), .int 0, .ref (qb 4), .ref (qb 5), .ref (qb 6), .ref (qb 7), .ref (qb 8), .ref (qb 9), .ref (qb 10), .ref (qb 11), .ref (qb 12), .ref (qb 13), .ref (qb 14), .ref (qb 15), .ref (qb 16), .ref (qb 17), .ref (qb 18), .ref (qb 19), .ref (qb 20), .int 0, .int 0, .int 0, .int 0, .long 0, .long 0, .long 0, .long 0, .long 0, .ref (qb 21), .int 0, .int 0, .int 0, .int 0]))]) (tc := [(cj, .long)]) (tr := []) ⟨hx, hb, hml, hown, hts⟩ (c_La_relocation_n l htr D qx qo cj qa qk (xs 1) (xs 2) (xs 3) hk H.size) rfl rfl w_350 w_348 w_349 w_0 (by decide +kernel) ⟨Nat.le_of_ble_eq_true rfl, Nat.le_of_ble_eq_true rfl⟩ hP hD hK hS hA hN hZ [0, 2] [1] rfl rfl (by decide) (by decide) (by decide) [0] [] rfl rfl rfl hl.1 rfl (Nat.le_of_ble_eq_true rfl) d_law_684 ⟨Nat.le_of_ble_eq_true rfl, Nat.le_of_ble_eq_true rfl⟩ (fun u4 H locs hP hD hK hS => ?_)
  have hP : va_P D cls [(qm, .inr (7, [.int 0, .int 0, .int 0, .int 0, .int 0, .int 0, .int (-1), .int (-1), .int 0, .int 0, .int 0, .int 0, .int 0, .int 0, .int 0, .int 0, .ref (qb 0), .ref (qb 1), .ref (qb 2), .ref (qb 3), .int 0, .ref (qb 4), .ref (qb 5), .ref (qb 6), .ref (qb 7), .ref (qb 8), .ref (qb 9), .ref (qb 10), .ref (qb 11), .ref (qb 12), .ref (qb 13), .ref (qb 14), .ref (qb 15), .ref (qb 16), .ref (qb 17), .ref (qb 18), .ref (qb 19), .ref (qb 20), .int 0, .int 0, .int 0, .int 0, .long 0, .long 0, .long 0, .long 0, .long 0, .ref (qb 21), .int 0, .int 0, .int 0, .int 0])), (qo, .inl (cj, 1, .inr (.inl (fun _ => 0))))] H := hP
  have hD : va_D A [(qm, .inr (7, [.int 0, .int 0, .int 0, .int 0, .int 0, .int 0, .int (-1), .int (-1), .int 0, .int 0, .int 0, .int 0, .int 0, .int 0, .int 0, .int 0, .ref (qb 0), .ref (qb 1), .ref (qb 2), .ref (qb 3), .int 0, .ref (qb 4), .ref (qb 5), .ref (qb 6), .ref (qb 7), .ref (qb 8), .ref (qb 9), .ref (qb 10), .ref (qb 11), .ref (qb 12), .ref (qb 13), .ref (qb 14), .ref (qb 15), .ref (qb 16), .ref (qb 17), .ref (qb 18), .ref (qb 19), .ref (qb 20), .int 0, .int 0, .int 0, .int 0, .long 0, .long 0, .long 0, .long 0, .long 0, .ref (qb 21), .int 0, .int 0, .int 0, .int 0])), (qo, .inl (cj, 1, .inr (.inl (fun _ => 0))))] := hD
  have hK : va_K D cls [(cj, .long)] s := hK
  refine W.widen (k := 224) (n := 300064) (by omega) (by omega) ?_
  refine W.eq (g2 := F0 m 687 ls [.int 1]) rfl ?_
  refine lv_istore (lv' := [(5, .int 1), (4, .int 0), (3, .ref qo), (2, .ref qm), (1, .ref qx), (0, .ref b)]) hx hb d_law_687 hl (by decide) rfl (fun ls hl => ?_)
  refine lv_aload_n hx hb d_law_689 rfl (lv_at hl 3 rfl) ?_
  refine lv_aload_n hx hb d_law_690 rfl (lv_at hl 5 rfl) ?_
  refine lv_iload hx hb d_law_691 (lv_at hl 1 rfl) ?_
  refine lv_iconst (v := 1) hx hb d_law_693 (by decide) ?_
  refine lv_iadd hx hb d_law_694 ?_
  refine lv_topi (fun z5 ez5 => ?_)
  obtain rfl : z5 = 1 := ez5.trans (by decide)
  refine va_sld hx hb hX hbl hbA hS (by unfold vp_in; decide) d_law_695 ?_
  refine W.eq (g2 := F0 m 696 ls [.int (xs 1), .ref qm]) rfl ?_
  refine lv_aload_n hx hb d_law_696 rfl (lv_at hl 5 rfl) ?_
  refine lv_iload hx hb d_law_697 (lv_at hl 1 rfl) ?_
  refine lv_iconst (v := 2) hx hb d_law_699 (by decide) ?_
  refine lv_iadd hx hb d_law_700 ?_
  refine lv_topi (fun z6 ez6 => ?_)
  obtain rfl : z6 = 2 := ez6.trans (by decide)
  refine va_sld hx hb hX hbl hbA hS (by unfold vp_in; decide) d_law_701 ?_
  refine W.eq (g2 := F0 m 702 ls [.int (xs 2), .int (xs 1), .ref qm]) rfl ?_
  refine lv_aload_n hx hb d_law_702 rfl (lv_at hl 5 rfl) ?_
  refine lv_iload hx hb d_law_703 (lv_at hl 1 rfl) ?_
  refine lv_iconst (v := 3) hx hb d_law_705 (by decide) ?_
  refine lv_iadd hx hb d_law_706 ?_
  refine lv_topi (fun z7 ez7 => ?_)
  obtain rfl : z7 = 3 := ez7.trans (by decide)
  refine va_sld hx hb hX hbl hbA hS (by unfold vp_in; decide) d_law_707 ?_
  refine W.eq (g2 := F0 m 708 ls [.int (xs 3), .int (xs 2), .int (xs 1), .ref qm]) rfl ?_
  refine xc_V (As := [.int (xs 1), .int (xs 2), .int (xs 3)]) (rest := []) (n := 3) (wc := [(qm, .inr (7, [.int 0, .int 0, .int 0, .int 0, .int 0, .int 0, .int (-1), .int (-1), .int 0, .int 0, .int 0, .int 0, .int 0, .int 0, .int 0, .int 0, .ref (qb 0), .ref (qb 1), .ref (qb 2), .ref (qb 3), .int 0, .ref (qb 4), .ref (qb 5), .ref (qb 6), .ref (qb 7), .ref (qb 8), .ref (qb 9), .ref (qb 10), .ref (qb 11), .ref (qb 12), .ref (qb 13), .ref (qb 14), .ref (qb 15), .ref (qb 16), .ref (qb 17), .ref (qb 18), .ref (qb 19), .ref (qb 20), .int 0, .int 0, .int 0, .int 0, .long 0, .long 0, .long 0, .long 0, .long 0, .ref (qb 21), .int 0, .int 0, .int 0, .int 0]))]) (wr := [(qo, .inl (cj, 1, .inr (.inl (fun _ => 0))))]) (tc := []) (tr := [(cj, .long)]) ⟨hx, hb, hml, hown, hts⟩ (c_Mo_relocation_n l D qm qb (xs 1) (xs 2) (xs 3) hk H.size) rfl rfl w_526 w_523 w_524 w_525 w_8 (by decide +kernel) ⟨Nat.le_of_ble_eq_true rfl, Nat.le_of_ble_eq_true rfl⟩ hP hD hK hS hA hN hZ [0] [1] rfl rfl (by decide) (by decide) (by decide) [] [0] rfl rfl (ci := 7) (q0 := 0) (q := (R_Mo, F_Mo, 52)) rfl rfl rfl rfl hl.1 rfl (Nat.le_of_ble_eq_true rfl) d_law_708 ⟨Nat.le_of_ble_eq_true rfl, Nat.le_of_ble_eq_true rfl⟩ (fun u8 H locs hP hD hK hS => ?_)
  have hP : va_P D cls [(qo, .inl (cj, 1, .inr (.inl (fun _ => 0)))), (qm, .inr (7, [.int 1, .int 0, .int 0, .int 0, .int 0, .int 0, .int (-1), .int (-1), .int 0, .int 0, .int 0, .int 0, .int 0, .int 0, .int 0, .int 0, .ref (qb 0), .ref (qb 1), .ref (qb 2), .ref (qb 3), .int 0, .ref (qb 4), .ref (qb 5), .ref (qb 6), .ref (qb 7), .ref (qb 8), .ref (qb 9), .ref (qb 10), .ref (qb 11), .ref (qb 12), .ref (qb 13), .ref (qb 14), .ref (qb 15), .ref (qb 16), .ref (qb 17), .ref (qb 18), .ref (qb 19), .ref (qb 20), .int 0, .int 0, .int 0, .int 0, .long 0, .long 0, .long 0, .long 0, .long 0, .ref (qb 21), .int 0, .int 0, .int 0, .int 0]))] H := hP
  have hD : va_D A [(qo, .inl (cj, 1, .inr (.inl (fun _ => 0)))), (qm, .inr (7, [.int 1, .int 0, .int 0, .int 0, .int 0, .int 0, .int (-1), .int (-1), .int 0, .int 0, .int 0, .int 0, .int 0, .int 0, .int 0, .int 0, .ref (qb 0), .ref (qb 1), .ref (qb 2), .ref (qb 3), .int 0, .ref (qb 4), .ref (qb 5), .ref (qb 6), .ref (qb 7), .ref (qb 8), .ref (qb 9), .ref (qb 10), .ref (qb 11), .ref (qb 12), .ref (qb 13), .ref (qb 14), .ref (qb 15), .ref (qb 16), .ref (qb 17), .ref (qb 18), .ref (qb 19), .ref (qb 20), .int 0, .int 0, .int 0, .int 0, .long 0, .long 0, .long 0, .long 0, .long 0, .ref (qb 21), .int 0, .int 0, .int 0, .int 0]))] := hD
  have hK : va_K D cls [(cj, .long)] s := hK
  refine W.eq (g2 := F0 m 711 ls [.int 0]) rfl ?_
  refine lv_istore (lv' := [(6, .int 0), (5, .int 1), (4, .int 0), (3, .ref qo), (2, .ref qm), (1, .ref qx), (0, .ref b)]) hx hb d_law_711 hl (by decide) rfl (fun ls hl => ?_)
  refine lv_aload_n hx hb d_law_713 rfl (lv_at hl 4 rfl) ?_
  refine xc_V (As := []) (rest := []) (n := 0) (wc := [(qm, .inr (7, [.int 1, .int 0, .int 0, .int 0, .int 0, .int 0, .int (-1), .int (-1), .int 0, .int 0, .int 0, .int 0, .int 0, .int 0, .int 0, .int 0, .ref (qb 0), .ref (qb 1), .ref (qb 2), .ref (qb 3), .int 0, .ref (qb 4), .ref (qb 5), .ref (qb 6), .ref (qb 7), .ref (qb 8), .ref (qb 9), .ref (qb 10), .ref (qb 11), .ref (qb 12), .ref (qb 13), .ref (qb 14), .ref (qb 15), .ref (qb 16), .ref (qb 17), .ref (qb 18), .ref (qb 19), .ref (qb 20), .int 0, .int 0, .int 0, .int 0, .long 0, .long 0, .long 0, .long 0, .long 0, .ref (qb 21), .int 0, .int 0, .int 0, .int 0]))]) (wr := [(qo, .inl (cj, 1, .inr (.inl (fun _ => 0))))]) (tc := []) (tr := [(cj, .long)]) ⟨hx, hb, hml, hown, hts⟩ (c_Mo_thrown_1 l D qm qb H.size) rfl rfl w_445 w_442 w_443 w_444 w_8 (by decide +kernel) ⟨Nat.le_of_ble_eq_true rfl, Nat.le_of_ble_eq_true rfl⟩ hP hD hK hS hA hN hZ [1] [0] rfl rfl (by decide) (by decide) (by decide) [] [0] rfl rfl (ci := 7) (q0 := 0) (q := (R_Mo, F_Mo, 52)) rfl rfl rfl rfl hl.1 rfl (Nat.le_of_ble_eq_true rfl) d_law_714 ⟨Nat.le_of_ble_eq_true rfl, Nat.le_of_ble_eq_true rfl⟩ (fun u9 H locs hP hD hK hS => ?_)
  have hP : va_P D cls [(qo, .inl (cj, 1, .inr (.inl (fun _ => 0)))), (qm, .inr (7, [.int 1, .int 0, .int 0, .int 0, .int 0, .int 0, .int (-1), .int (-1), .int 0, .int 0, .int 0, .int 0, .int 0, .int 0, .int 0, .int 0, .ref (qb 0), .ref (qb 1), .ref (qb 2), .ref (qb 3), .int 0, .ref (qb 4), .ref (qb 5), .ref (qb 6), .ref (qb 7), .ref (qb 8), .ref (qb 9), .ref (qb 10), .ref (qb 11), .ref (qb 12), .ref (qb 13), .ref (qb 14), .ref (qb 15), .ref (qb 16), .ref (qb 17), .ref (qb 18), .ref (qb 19), .ref (qb 20), .int 0, .int 0, .int 0, .int 0, .long 0, .long 0, .long 0, .long 0, .long 0, .ref (qb 21), .int 0, .int 0, .int 0, .int 0]))] H := hP
  have hD : va_D A [(qo, .inl (cj, 1, .inr (.inl (fun _ => 0)))), (qm, .inr (7, [.int 1, .int 0, .int 0, .int 0, .int 0, .int 0, .int (-1), .int (-1), .int 0, .int 0, .int 0, .int 0, .int 0, .int 0, .int 0, .int 0, .ref (qb 0), .ref (qb 1), .ref (qb 2), .ref (qb 3), .int 0, .ref (qb 4), .ref (qb 5), .ref (qb 6), .ref (qb 7), .ref (qb 8), .ref (qb 9), .ref (qb 10), .ref (qb 11), .ref (qb 12), .ref (qb 13), .ref (qb 14), .ref (qb 15), .ref (qb 16), .ref (qb 17), .ref (qb 18), .ref (qb 19), .ref (qb 20), .int 0, .int 0, .int 0, .int 0, .long 0, .long 0, .long 0, .long 0, .long 0, .ref (qb 21), .int 0, .int 0, .int 0, .int 0]))] := hD
  have hK : va_K D cls [(cj, .long)] s := hK
  refine W.eq (g2 := F0 m 717 ls [.int 1]) rfl ?_
  refine lv_iload hx hb d_law_717 (lv_at hl 1 rfl) ?_
  refine lv_icmp_eq (tgt := 724) hx hb d_law_719 (by decide) (fun _ => ?_) (fun q9 => absurd (by decide : ((1 : Int32) = 1)) q9)
  refine lv_iload hx hb d_law_724 (lv_at hl 1 rfl) ?_
  refine lv_if_ne (tgt := 741) hx hb d_law_726 (by decide) (fun _ => ?_) (fun q9 => absurd q9 (by decide : ¬ ((1 : Int32) = 0)))
  refine lv_goto (tgt := 1005) hx hb d_law_741 (by decide) ?_
  exact law_tail C0 hA hAf hS (Nat.le_of_ble_eq_true rfl) (Nat.le_of_ble_eq_true rfl) (lv_sub hl [6, 2] rfl)

set_option maxHeartbeats 4000000 in
set_option maxRecDepth 100000 in
theorem l_relocation_g {p : Program} {l : Launch} {e : Env} {s : State} {m : MethodId} {below : List Frame} {meth : Method} {c : Code} {b : Nat} {xs : Nat → Int32} (htr : l.stackTraces = false) (C0 : lw_At p s m meth c b 5 xs) {A : Nat → Prop} (hA : ∀ q, s.heap.size ≤ q → A q) (hAf : ∀ q, A q → s.heap.size ≤ q) (hN : xN s) (hZ : xZ A s s.heap) {D : va_G} {qx qm qo : Nat} {cj : ClassId} {qa qb : Nat → Nat} {qk ql : Nat → ClassId} {uf : Nat → Option Nat} {H : Heap} {locs : List Loc} (hk : ¬ xs 1 < 0) (hP : va_P D cls (lawW qx qm qo cj qa qb qk ql uf) H) (hD : va_D A (lawW qx qm qo cj qa qb qk ql uf)) (hK : va_K D cls (lawT cj qk ql) s) (hS : va_S A s.heap H locs) {ls : Array Slot} (hl : lv_has ls 7 [(4, .int 0), (3, .ref qo), (2, .ref qm), (1, .ref qx), (0, .ref b)]) : W p l e room_1 s m #[Value.ref b] below meth c H locs 223 300058 (lw_Z below #[Value.ref b] s) (F0 m 664 ls []) := by
  obtain ⟨hx, hb, hr, hml, hown, hts0, hX, hbl, hlocks, hgv⟩ := id C0
  have hown : s.vm.findClass "ObjectForgeLaw" = some m.cls := hown
  have hbA : ¬ A b := fun h => absurd (hAf b h) (Nat.not_le.mpr hbl)
  have hts : ∀ w ∈ bw, w.before #[Value.ref b] s = true := fun w h => hts0 w (bw_in w h)
  have hP : va_P D cls [(qx, .inr (0, [.ref (qa 0), .ref (qa 1), .ref (qa 2), .int 0])), (qm, .inr (7, [.int 0, .int 0, .int 0, .int 0, .int 0, .int 0, .int (-1), .int (-1), .int 0, .int 0, .int 0, .int 0, .int 0, .int 0, .int 0, .int 0, .ref (qb 0), .ref (qb 1), .ref (qb 2), .ref (qb 3), .int 0, .ref (qb 4), .ref (qb 5), .ref (qb 6), .ref (qb 7), .ref (qb 8), .ref (qb 9), .ref (qb 10), .ref (qb 11), .ref (qb 12), .ref (qb 13), .ref (qb 14), .ref (qb 15), .ref (qb 16), .ref (qb 17), .ref (qb 18), .ref (qb 19), .ref (qb 20), .int 0, .int 0, .int 0, .int 0, .long 0, .long 0, .long 0, .long 0, .long 0, .ref (qb 21), .int 0, .int 0, .int 0, .int 0])), (qo, .inl (cj, 1, .inr (.inl (fun _ => 0))))] H := hP.sub [0, 10, 15] rfl
  have hD : va_D A [(qx, .inr (0, [.ref (qa 0), .ref (qa 1), .ref (qa 2), .int 0])), (qm, .inr (7, [.int 0, .int 0, .int 0, .int 0, .int 0, .int 0, .int (-1), .int (-1), .int 0, .int 0, .int 0, .int 0, .int 0, .int 0, .int 0, .int 0, .ref (qb 0), .ref (qb 1), .ref (qb 2), .ref (qb 3), .int 0, .ref (qb 4), .ref (qb 5), .ref (qb 6), .ref (qb 7), .ref (qb 8), .ref (qb 9), .ref (qb 10), .ref (qb 11), .ref (qb 12), .ref (qb 13), .ref (qb 14), .ref (qb 15), .ref (qb 16), .ref (qb 17), .ref (qb 18), .ref (qb 19), .ref (qb 20), .int 0, .int 0, .int 0, .int 0, .long 0, .long 0, .long 0, .long 0, .long 0, .ref (qb 21), .int 0, .int 0, .int 0, .int 0])), (qo, .inl (cj, 1, .inr (.inl (fun _ => 0))))] := hD.sub [0, 10, 15] (by decide) rfl
  have hK : va_K D cls [(cj, .long)] s := hK.sub [7] rfl
  refine lv_aload_n hx hb d_law_664 rfl (lv_at hl 3 rfl) ?_
  refine lv_aload_n hx hb d_law_665 rfl (lv_at hl 4 rfl) ?_
  refine lv_iload hx hb d_law_666 (lv_at hl 0 rfl) ?_
  refine lv_iconst (v := 1) hx hb d_law_668 (by decide) ?_
  refine lv_iadd hx hb d_law_669 ?_
  refine lv_topi (fun z1 ez1 => ?_)
  obtain rfl : z1 = 1 := ez1.trans (by decide)
  refine va_sld hx hb hX hbl hbA hS (by unfold vp_in; decide) d_law_670 ?_
  refine W.eq (g2 := F0 m 671 ls [.int (xs 1), .ref qx]) rfl ?_
  refine lv_aload_n hx hb d_law_671 rfl (lv_at hl 4 rfl) ?_
  refine lv_iload hx hb d_law_672 (lv_at hl 0 rfl) ?_
  refine lv_iconst (v := 2) hx hb d_law_674 (by decide) ?_
  refine lv_iadd hx hb d_law_675 ?_
  refine lv_topi (fun z2 ez2 => ?_)
  obtain rfl : z2 = 2 := ez2.trans (by decide)
  refine va_sld hx hb hX hbl hbA hS (by unfold vp_in; decide) d_law_676 ?_
  refine W.eq (g2 := F0 m 677 ls [.int (xs 2), .int (xs 1), .ref qx]) rfl ?_
  refine lv_aload_n hx hb d_law_677 rfl (lv_at hl 4 rfl) ?_
  refine lv_iload hx hb d_law_678 (lv_at hl 0 rfl) ?_
  refine lv_iconst (v := 3) hx hb d_law_680 (by decide) ?_
  refine lv_iadd hx hb d_law_681 ?_
  refine lv_topi (fun z3 ez3 => ?_)
  obtain rfl : z3 = 3 := ez3.trans (by decide)
  refine va_sld hx hb hX hbl hbA hS (by unfold vp_in; decide) d_law_682 ?_
  refine W.eq (g2 := F0 m 683 ls [.int (xs 3), .int (xs 2), .int (xs 1), .ref qx]) rfl ?_
  refine lv_aload_n hx hb d_law_683 rfl (lv_at hl 1 rfl) ?_
  refine xc_SW (As := [.ref qx, .int (xs 1), .int (xs 2), .int (xs 3), .ref qo]) (rest := []) (n := 5) (wc := [(qx, .inr (0, [.ref (qa 0), .ref (qa 1), .ref (qa 2), .int 0])), (qo, .inl (cj, 1, .inr (.inl (fun _ => 0))))]) (wr := [(qm, .inr (7, [.int 0, .int 0, .int 0, .int 0, .int 0, .int 0, .int (-1), .int (-1), .int 0, .int 0, .int 0, .int 0, .int 0, .int 0, .int 0, .int 0, .ref (qb 0), .ref (qb 1), .ref (qb 2), .ref (qb 3), .int 0, .ref (qb 4), .ref (qb 5), .ref (qb 6), .ref (qb 7), .ref (qb 8), .ref (qb 9), .ref (qb 10), .ref (qb 11), .ref (qb 12), .ref (qb 13), .ref (qb 14), .ref (qb 15), .ref (qb 16), .ref (qb 17), .ref (qb 18), .ref (qb 19), .ref (qb 20), .int 0, .int 0, .int 0, .int 0, .long 0, .long 0, .long 0, .long 0, .long 0, .ref (qb 21), .int 0, .int 0, .int 0, .int 0]))]) (tc := [(cj, .long)]) (tr := []) ⟨hx, hb, hml, hown, hts⟩ (c_La_relocation_g l htr D qx qo cj qa qk (xs 1) (xs 2) (xs 3) hk hk H.size) rfl rfl w_350 w_348 w_349 w_0 (by decide +kernel) ⟨Nat.le_of_ble_eq_true rfl, Nat.le_of_ble_eq_true rfl⟩ hP hD hK hS hA hN hZ [0, 2] [1] rfl rfl (by decide) (by decide) (by decide) [0] [] rfl rfl rfl hl.1 rfl (Nat.le_of_ble_eq_true rfl) d_law_684 ⟨Nat.le_of_ble_eq_true rfl, Nat.le_of_ble_eq_true rfl⟩ (fun u4 H locs hP hD hK hS => ?_)
  have hP : va_P D cls [(qm, .inr (7, [.int 0, .int 0, .int 0, .int 0, .int 0, .int 0, .int (-1), .int (-1), .int 0, .int 0, .int 0, .int 0, .int 0, .int 0, .int 0, .int 0, .ref (qb 0), .ref (qb 1), .ref (qb 2), .ref (qb 3), .int 0, .ref (qb 4), .ref (qb 5), .ref (qb 6), .ref (qb 7), .ref (qb 8), .ref (qb 9), .ref (qb 10), .ref (qb 11), .ref (qb 12), .ref (qb 13), .ref (qb 14), .ref (qb 15), .ref (qb 16), .ref (qb 17), .ref (qb 18), .ref (qb 19), .ref (qb 20), .int 0, .int 0, .int 0, .int 0, .long 0, .long 0, .long 0, .long 0, .long 0, .ref (qb 21), .int 0, .int 0, .int 0, .int 0])), (qo, .inl (cj, 1, .inr (.inl (fun _ => 0))))] H := hP
  have hD : va_D A [(qm, .inr (7, [.int 0, .int 0, .int 0, .int 0, .int 0, .int 0, .int (-1), .int (-1), .int 0, .int 0, .int 0, .int 0, .int 0, .int 0, .int 0, .int 0, .ref (qb 0), .ref (qb 1), .ref (qb 2), .ref (qb 3), .int 0, .ref (qb 4), .ref (qb 5), .ref (qb 6), .ref (qb 7), .ref (qb 8), .ref (qb 9), .ref (qb 10), .ref (qb 11), .ref (qb 12), .ref (qb 13), .ref (qb 14), .ref (qb 15), .ref (qb 16), .ref (qb 17), .ref (qb 18), .ref (qb 19), .ref (qb 20), .int 0, .int 0, .int 0, .int 0, .long 0, .long 0, .long 0, .long 0, .long 0, .ref (qb 21), .int 0, .int 0, .int 0, .int 0])), (qo, .inl (cj, 1, .inr (.inl (fun _ => 0))))] := hD
  have hK : va_K D cls [(cj, .long)] s := hK
  refine W.widen (k := 224) (n := 300064) (by omega) (by omega) ?_
  refine W.eq (g2 := F0 m 687 ls [.int 1]) rfl ?_
  refine lv_istore (lv' := [(5, .int 1), (4, .int 0), (3, .ref qo), (2, .ref qm), (1, .ref qx), (0, .ref b)]) hx hb d_law_687 hl (by decide) rfl (fun ls hl => ?_)
  refine lv_aload_n hx hb d_law_689 rfl (lv_at hl 3 rfl) ?_
  refine lv_aload_n hx hb d_law_690 rfl (lv_at hl 5 rfl) ?_
  refine lv_iload hx hb d_law_691 (lv_at hl 1 rfl) ?_
  refine lv_iconst (v := 1) hx hb d_law_693 (by decide) ?_
  refine lv_iadd hx hb d_law_694 ?_
  refine lv_topi (fun z5 ez5 => ?_)
  obtain rfl : z5 = 1 := ez5.trans (by decide)
  refine va_sld hx hb hX hbl hbA hS (by unfold vp_in; decide) d_law_695 ?_
  refine W.eq (g2 := F0 m 696 ls [.int (xs 1), .ref qm]) rfl ?_
  refine lv_aload_n hx hb d_law_696 rfl (lv_at hl 5 rfl) ?_
  refine lv_iload hx hb d_law_697 (lv_at hl 1 rfl) ?_
  refine lv_iconst (v := 2) hx hb d_law_699 (by decide) ?_
  refine lv_iadd hx hb d_law_700 ?_
  refine lv_topi (fun z6 ez6 => ?_)
  obtain rfl : z6 = 2 := ez6.trans (by decide)
  refine va_sld hx hb hX hbl hbA hS (by unfold vp_in; decide) d_law_701 ?_
  refine W.eq (g2 := F0 m 702 ls [.int (xs 2), .int (xs 1), .ref qm]) rfl ?_
  refine lv_aload_n hx hb d_law_702 rfl (lv_at hl 5 rfl) ?_
  refine lv_iload hx hb d_law_703 (lv_at hl 1 rfl) ?_
  refine lv_iconst (v := 3) hx hb d_law_705 (by decide) ?_
  refine lv_iadd hx hb d_law_706 ?_
  refine lv_topi (fun z7 ez7 => ?_)
  obtain rfl : z7 = 3 := ez7.trans (by decide)
  refine va_sld hx hb hX hbl hbA hS (by unfold vp_in; decide) d_law_707 ?_
  refine W.eq (g2 := F0 m 708 ls [.int (xs 3), .int (xs 2), .int (xs 1), .ref qm]) rfl ?_
  refine xc_V (As := [.int (xs 1), .int (xs 2), .int (xs 3)]) (rest := []) (n := 3) (wc := [(qm, .inr (7, [.int 0, .int 0, .int 0, .int 0, .int 0, .int 0, .int (-1), .int (-1), .int 0, .int 0, .int 0, .int 0, .int 0, .int 0, .int 0, .int 0, .ref (qb 0), .ref (qb 1), .ref (qb 2), .ref (qb 3), .int 0, .ref (qb 4), .ref (qb 5), .ref (qb 6), .ref (qb 7), .ref (qb 8), .ref (qb 9), .ref (qb 10), .ref (qb 11), .ref (qb 12), .ref (qb 13), .ref (qb 14), .ref (qb 15), .ref (qb 16), .ref (qb 17), .ref (qb 18), .ref (qb 19), .ref (qb 20), .int 0, .int 0, .int 0, .int 0, .long 0, .long 0, .long 0, .long 0, .long 0, .ref (qb 21), .int 0, .int 0, .int 0, .int 0]))]) (wr := [(qo, .inl (cj, 1, .inr (.inl (fun _ => 0))))]) (tc := []) (tr := [(cj, .long)]) ⟨hx, hb, hml, hown, hts⟩ (c_Mo_relocation_g l D qm qb (xs 1) (xs 2) (xs 3) hk (x_ge hk) H.size) rfl rfl w_526 w_523 w_524 w_525 w_8 (by decide +kernel) ⟨Nat.le_of_ble_eq_true rfl, Nat.le_of_ble_eq_true rfl⟩ hP hD hK hS hA hN hZ [0] [1] rfl rfl (by decide) (by decide) (by decide) [] [0] rfl rfl (ci := 7) (q0 := 0) (q := (R_Mo, F_Mo, 52)) rfl rfl rfl rfl hl.1 rfl (Nat.le_of_ble_eq_true rfl) d_law_708 ⟨Nat.le_of_ble_eq_true rfl, Nat.le_of_ble_eq_true rfl⟩ (fun u8 H locs hP hD hK hS => ?_)
  have hP : va_P D cls [(qo, .inl (cj, 1, .inr (.inl (fun _ => 0)))), (qm, .inr (7, [.int 1, .int 0, .int 0, .int 0, .int 0, .int 0, .int (-1), .int (-1), .int 0, .int 0, .int 0, .int 0, .int 0, .int 0, .int 0, .int 0, .ref (qb 0), .ref (qb 1), .ref (qb 2), .ref (qb 3), .int 0, .ref (qb 4), .ref (qb 5), .ref (qb 6), .ref (qb 7), .ref (qb 8), .ref (qb 9), .ref (qb 10), .ref (qb 11), .ref (qb 12), .ref (qb 13), .ref (qb 14), .ref (qb 15), .ref (qb 16), .ref (qb 17), .ref (qb 18), .ref (qb 19), .ref (qb 20), .int 0, .int 0, .int 0, .int 0, .long 0, .long 0, .long 0, .long 0, .long 0, .ref (qb 21), .int 0, .int 0, .int 0, .int 0]))] H := hP
  have hD : va_D A [(qo, .inl (cj, 1, .inr (.inl (fun _ => 0)))), (qm, .inr (7, [.int 1, .int 0, .int 0, .int 0, .int 0, .int 0, .int (-1), .int (-1), .int 0, .int 0, .int 0, .int 0, .int 0, .int 0, .int 0, .int 0, .ref (qb 0), .ref (qb 1), .ref (qb 2), .ref (qb 3), .int 0, .ref (qb 4), .ref (qb 5), .ref (qb 6), .ref (qb 7), .ref (qb 8), .ref (qb 9), .ref (qb 10), .ref (qb 11), .ref (qb 12), .ref (qb 13), .ref (qb 14), .ref (qb 15), .ref (qb 16), .ref (qb 17), .ref (qb 18), .ref (qb 19), .ref (qb 20), .int 0, .int 0, .int 0, .int 0, .long 0, .long 0, .long 0, .long 0, .long 0, .ref (qb 21), .int 0, .int 0, .int 0, .int 0]))] := hD
  have hK : va_K D cls [(cj, .long)] s := hK
  refine W.eq (g2 := F0 m 711 ls [.int 0]) rfl ?_
  refine lv_istore (lv' := [(6, .int 0), (5, .int 1), (4, .int 0), (3, .ref qo), (2, .ref qm), (1, .ref qx), (0, .ref b)]) hx hb d_law_711 hl (by decide) rfl (fun ls hl => ?_)
  refine lv_aload_n hx hb d_law_713 rfl (lv_at hl 4 rfl) ?_
  refine xc_V (As := []) (rest := []) (n := 0) (wc := [(qm, .inr (7, [.int 1, .int 0, .int 0, .int 0, .int 0, .int 0, .int (-1), .int (-1), .int 0, .int 0, .int 0, .int 0, .int 0, .int 0, .int 0, .int 0, .ref (qb 0), .ref (qb 1), .ref (qb 2), .ref (qb 3), .int 0, .ref (qb 4), .ref (qb 5), .ref (qb 6), .ref (qb 7), .ref (qb 8), .ref (qb 9), .ref (qb 10), .ref (qb 11), .ref (qb 12), .ref (qb 13), .ref (qb 14), .ref (qb 15), .ref (qb 16), .ref (qb 17), .ref (qb 18), .ref (qb 19), .ref (qb 20), .int 0, .int 0, .int 0, .int 0, .long 0, .long 0, .long 0, .long 0, .long 0, .ref (qb 21), .int 0, .int 0, .int 0, .int 0]))]) (wr := [(qo, .inl (cj, 1, .inr (.inl (fun _ => 0))))]) (tc := []) (tr := [(cj, .long)]) ⟨hx, hb, hml, hown, hts⟩ (c_Mo_thrown_1 l D qm qb H.size) rfl rfl w_445 w_442 w_443 w_444 w_8 (by decide +kernel) ⟨Nat.le_of_ble_eq_true rfl, Nat.le_of_ble_eq_true rfl⟩ hP hD hK hS hA hN hZ [1] [0] rfl rfl (by decide) (by decide) (by decide) [] [0] rfl rfl (ci := 7) (q0 := 0) (q := (R_Mo, F_Mo, 52)) rfl rfl rfl rfl hl.1 rfl (Nat.le_of_ble_eq_true rfl) d_law_714 ⟨Nat.le_of_ble_eq_true rfl, Nat.le_of_ble_eq_true rfl⟩ (fun u9 H locs hP hD hK hS => ?_)
  have hP : va_P D cls [(qo, .inl (cj, 1, .inr (.inl (fun _ => 0)))), (qm, .inr (7, [.int 1, .int 0, .int 0, .int 0, .int 0, .int 0, .int (-1), .int (-1), .int 0, .int 0, .int 0, .int 0, .int 0, .int 0, .int 0, .int 0, .ref (qb 0), .ref (qb 1), .ref (qb 2), .ref (qb 3), .int 0, .ref (qb 4), .ref (qb 5), .ref (qb 6), .ref (qb 7), .ref (qb 8), .ref (qb 9), .ref (qb 10), .ref (qb 11), .ref (qb 12), .ref (qb 13), .ref (qb 14), .ref (qb 15), .ref (qb 16), .ref (qb 17), .ref (qb 18), .ref (qb 19), .ref (qb 20), .int 0, .int 0, .int 0, .int 0, .long 0, .long 0, .long 0, .long 0, .long 0, .ref (qb 21), .int 0, .int 0, .int 0, .int 0]))] H := hP
  have hD : va_D A [(qo, .inl (cj, 1, .inr (.inl (fun _ => 0)))), (qm, .inr (7, [.int 1, .int 0, .int 0, .int 0, .int 0, .int 0, .int (-1), .int (-1), .int 0, .int 0, .int 0, .int 0, .int 0, .int 0, .int 0, .int 0, .ref (qb 0), .ref (qb 1), .ref (qb 2), .ref (qb 3), .int 0, .ref (qb 4), .ref (qb 5), .ref (qb 6), .ref (qb 7), .ref (qb 8), .ref (qb 9), .ref (qb 10), .ref (qb 11), .ref (qb 12), .ref (qb 13), .ref (qb 14), .ref (qb 15), .ref (qb 16), .ref (qb 17), .ref (qb 18), .ref (qb 19), .ref (qb 20), .int 0, .int 0, .int 0, .int 0, .long 0, .long 0, .long 0, .long 0, .long 0, .ref (qb 21), .int 0, .int 0, .int 0, .int 0]))] := hD
  have hK : va_K D cls [(cj, .long)] s := hK
  refine W.eq (g2 := F0 m 717 ls [.int 1]) rfl ?_
  refine lv_iload hx hb d_law_717 (lv_at hl 1 rfl) ?_
  refine lv_icmp_eq (tgt := 724) hx hb d_law_719 (by decide) (fun _ => ?_) (fun q9 => absurd (by decide : ((1 : Int32) = 1)) q9)
  refine lv_iload hx hb d_law_724 (lv_at hl 1 rfl) ?_
  refine lv_if_ne (tgt := 741) hx hb d_law_726 (by decide) (fun _ => ?_) (fun q9 => absurd q9 (by decide : ¬ ((1 : Int32) = 0)))
  refine lv_goto (tgt := 1005) hx hb d_law_741 (by decide) ?_
  exact law_tail C0 hA hAf hS (Nat.le_of_ble_eq_true rfl) (Nat.le_of_ble_eq_true rfl) (lv_sub hl [6, 2] rfl)

theorem d_law_856 : decode code 856 = .ok (.aload_n 1, 1) := by decide +kernel
theorem d_law_857 : decode code 857 = .ok (.aload_n 0, 1) := by decide +kernel
theorem d_law_858 : decode code 858 = .ok (.iload 4, 2) := by decide +kernel
theorem d_law_860 : decode code 860 = .ok (.iconst 1, 1) := by decide +kernel
theorem d_law_861 : decode code 861 = .ok (.iadd, 1) := by decide +kernel
theorem d_law_862 : decode code 862 = .ok (.iaload, 1) := by decide +kernel
theorem d_law_863 : decode code 863 = .ok (.aload_n 0, 1) := by decide +kernel
theorem d_law_864 : decode code 864 = .ok (.iload 4, 2) := by decide +kernel
theorem d_law_866 : decode code 866 = .ok (.iconst 2, 1) := by decide +kernel
theorem d_law_867 : decode code 867 = .ok (.iadd, 1) := by decide +kernel
theorem d_law_868 : decode code 868 = .ok (.iaload, 1) := by decide +kernel
theorem d_law_869 : decode code 869 = .ok (.aload_n 3, 1) := by decide +kernel
theorem d_law_870 : decode code 870 = .ok (.invokestatic 106, 3) := by decide +kernel
theorem d_law_873 : decode code 873 = .ok (.istore 5, 2) := by decide +kernel
theorem d_law_875 : decode code 875 = .ok (.aload_n 2, 1) := by decide +kernel
theorem d_law_876 : decode code 876 = .ok (.aload_n 0, 1) := by decide +kernel
theorem d_law_877 : decode code 877 = .ok (.iload 4, 2) := by decide +kernel
theorem d_law_879 : decode code 879 = .ok (.iconst 1, 1) := by decide +kernel
theorem d_law_880 : decode code 880 = .ok (.iadd, 1) := by decide +kernel
theorem d_law_881 : decode code 881 = .ok (.iaload, 1) := by decide +kernel
theorem d_law_882 : decode code 882 = .ok (.aload_n 0, 1) := by decide +kernel
theorem d_law_883 : decode code 883 = .ok (.iload 4, 2) := by decide +kernel
theorem d_law_885 : decode code 885 = .ok (.iconst 2, 1) := by decide +kernel
theorem d_law_886 : decode code 886 = .ok (.iadd, 1) := by decide +kernel
theorem d_law_887 : decode code 887 = .ok (.iaload, 1) := by decide +kernel
theorem d_law_888 : decode code 888 = .ok (.invokevirtual 108, 3) := by decide +kernel
theorem d_law_891 : decode code 891 = .ok (.istore 6, 2) := by decide +kernel
theorem d_law_893 : decode code 893 = .ok (.aload_n 2, 1) := by decide +kernel
theorem d_law_894 : decode code 894 = .ok (.invokevirtual 69, 3) := by decide +kernel
theorem d_law_897 : decode code 897 = .ok (.iload 5, 2) := by decide +kernel
theorem d_law_899 : decode code 899 = .ok (.if_icmp .eq 5, 3) := by decide +kernel
theorem d_law_904 : decode code 904 = .ok (.iload 5, 2) := by decide +kernel
theorem d_law_906 : decode code 906 = .ok (.ifCond .ne 15, 3) := by decide +kernel
theorem d_law_921 : decode code 921 = .ok (.goto 84, 3) := by decide +kernel
set_option maxHeartbeats 4000000 in
set_option maxRecDepth 100000 in
theorem l_address_n {p : Program} {l : Launch} {e : Env} {s : State} {m : MethodId} {below : List Frame} {meth : Method} {c : Code} {b : Nat} {xs : Nat → Int32} (htr : l.stackTraces = false) (C0 : lw_At p s m meth c b 5 xs) {A : Nat → Prop} (hA : ∀ q, s.heap.size ≤ q → A q) (hAf : ∀ q, A q → s.heap.size ≤ q) (hN : xN s) (hZ : xZ A s s.heap) {D : va_G} {qx qm qo : Nat} {cj : ClassId} {qa qb : Nat → Nat} {qk ql : Nat → ClassId} {uf : Nat → Option Nat} {H : Heap} {locs : List Loc} (hk : xs 1 < 0) (hP : va_P D cls (lawW qx qm qo cj qa qb qk ql uf) H) (hD : va_D A (lawW qx qm qo cj qa qb qk ql uf)) (hK : va_K D cls (lawT cj qk ql) s) (hS : va_S A s.heap H locs) {ls : Array Slot} (hl : lv_has ls 7 [(4, .int 0), (3, .ref qo), (2, .ref qm), (1, .ref qx), (0, .ref b)]) : W p l e room_1 s m #[Value.ref b] below meth c H locs 223 300058 (lw_Z below #[Value.ref b] s) (F0 m 856 ls []) := by
  obtain ⟨hx, hb, hr, hml, hown, hts0, hX, hbl, hlocks, hgv⟩ := id C0
  have hown : s.vm.findClass "ObjectForgeLaw" = some m.cls := hown
  have hbA : ¬ A b := fun h => absurd (hAf b h) (Nat.not_le.mpr hbl)
  have hts : ∀ w ∈ bw, w.before #[Value.ref b] s = true := fun w h => hts0 w (bw_in w h)
  have hP : va_P D cls [(qx, .inr (0, [.ref (qa 0), .ref (qa 1), .ref (qa 2), .int 0])), (qm, .inr (7, [.int 0, .int 0, .int 0, .int 0, .int 0, .int 0, .int (-1), .int (-1), .int 0, .int 0, .int 0, .int 0, .int 0, .int 0, .int 0, .int 0, .ref (qb 0), .ref (qb 1), .ref (qb 2), .ref (qb 3), .int 0, .ref (qb 4), .ref (qb 5), .ref (qb 6), .ref (qb 7), .ref (qb 8), .ref (qb 9), .ref (qb 10), .ref (qb 11), .ref (qb 12), .ref (qb 13), .ref (qb 14), .ref (qb 15), .ref (qb 16), .ref (qb 17), .ref (qb 18), .ref (qb 19), .ref (qb 20), .int 0, .int 0, .int 0, .int 0, .long 0, .long 0, .long 0, .long 0, .long 0, .ref (qb 21), .int 0, .int 0, .int 0, .int 0])), (qo, .inl (cj, 1, .inr (.inl (fun _ => 0))))] H := hP.sub [0, 10, 15] rfl
  have hD : va_D A [(qx, .inr (0, [.ref (qa 0), .ref (qa 1), .ref (qa 2), .int 0])), (qm, .inr (7, [.int 0, .int 0, .int 0, .int 0, .int 0, .int 0, .int (-1), .int (-1), .int 0, .int 0, .int 0, .int 0, .int 0, .int 0, .int 0, .int 0, .ref (qb 0), .ref (qb 1), .ref (qb 2), .ref (qb 3), .int 0, .ref (qb 4), .ref (qb 5), .ref (qb 6), .ref (qb 7), .ref (qb 8), .ref (qb 9), .ref (qb 10), .ref (qb 11), .ref (qb 12), .ref (qb 13), .ref (qb 14), .ref (qb 15), .ref (qb 16), .ref (qb 17), .ref (qb 18), .ref (qb 19), .ref (qb 20), .int 0, .int 0, .int 0, .int 0, .long 0, .long 0, .long 0, .long 0, .long 0, .ref (qb 21), .int 0, .int 0, .int 0, .int 0])), (qo, .inl (cj, 1, .inr (.inl (fun _ => 0))))] := hD.sub [0, 10, 15] (by decide) rfl
  have hK : va_K D cls [(cj, .long)] s := hK.sub [7] rfl
  refine lv_aload_n hx hb d_law_856 rfl (lv_at hl 3 rfl) ?_
  refine lv_aload_n hx hb d_law_857 rfl (lv_at hl 4 rfl) ?_
  refine lv_iload hx hb d_law_858 (lv_at hl 0 rfl) ?_
  refine lv_iconst (v := 1) hx hb d_law_860 (by decide) ?_
  refine lv_iadd hx hb d_law_861 ?_
  refine lv_topi (fun z1 ez1 => ?_)
  obtain rfl : z1 = 1 := ez1.trans (by decide)
  refine va_sld hx hb hX hbl hbA hS (by unfold vp_in; decide) d_law_862 ?_
  refine W.eq (g2 := F0 m 863 ls [.int (xs 1), .ref qx]) rfl ?_
  refine lv_aload_n hx hb d_law_863 rfl (lv_at hl 4 rfl) ?_
  refine lv_iload hx hb d_law_864 (lv_at hl 0 rfl) ?_
  refine lv_iconst (v := 2) hx hb d_law_866 (by decide) ?_
  refine lv_iadd hx hb d_law_867 ?_
  refine lv_topi (fun z2 ez2 => ?_)
  obtain rfl : z2 = 2 := ez2.trans (by decide)
  refine va_sld hx hb hX hbl hbA hS (by unfold vp_in; decide) d_law_868 ?_
  refine W.eq (g2 := F0 m 869 ls [.int (xs 2), .int (xs 1), .ref qx]) rfl ?_
  refine lv_aload_n hx hb d_law_869 rfl (lv_at hl 1 rfl) ?_
  refine xc_SW (As := [.ref qx, .int (xs 1), .int (xs 2), .ref qo]) (rest := []) (n := 4) (wc := [(qx, .inr (0, [.ref (qa 0), .ref (qa 1), .ref (qa 2), .int 0])), (qo, .inl (cj, 1, .inr (.inl (fun _ => 0))))]) (wr := [(qm, .inr (7, [.int 0, .int 0, .int 0, .int 0, .int 0, .int 0, .int (-1), .int (-1), .int 0, .int 0, .int 0, .int 0, .int 0, .int 0, .int 0, .int 0, .ref (qb 0), .ref (qb 1), .ref (qb 2), .ref (qb 3), .int 0, .ref (qb 4), .ref (qb 5), .ref (qb 6), .ref (qb 7), .ref (qb 8), .ref (qb 9), .ref (qb 10), .ref (qb 11), .ref (qb 12), .ref (qb 13), .ref (qb 14), .ref (qb 15), .ref (qb 16), .ref (qb 17), .ref (qb 18), .ref (qb 19), .ref (qb 20), .int 0, .int 0, .int 0, .int 0, .long 0, .long 0, .long 0, .long 0, .long 0, .ref (qb 21), .int 0, .int 0, .int 0, .int 0]))]) (tc := [(cj, .long)]) (tr := []) ⟨hx, hb, hml, hown, hts⟩ (c_La_address_n l htr D qx qo cj qa qk (xs 1) (xs 2) hk H.size) rfl rfl w_377 w_375 w_376 w_0 (by decide +kernel) ⟨Nat.le_of_ble_eq_true rfl, Nat.le_of_ble_eq_true rfl⟩ hP hD hK hS hA hN hZ [0, 2] [1] rfl rfl (by decide) (by decide) (by decide) [0] [] rfl rfl rfl hl.1 rfl (Nat.le_of_ble_eq_true rfl) d_law_870 ⟨Nat.le_of_ble_eq_true rfl, Nat.le_of_ble_eq_true rfl⟩ (fun u3 H locs hP hD hK hS => ?_)
  have hP : va_P D cls [(qm, .inr (7, [.int 0, .int 0, .int 0, .int 0, .int 0, .int 0, .int (-1), .int (-1), .int 0, .int 0, .int 0, .int 0, .int 0, .int 0, .int 0, .int 0, .ref (qb 0), .ref (qb 1), .ref (qb 2), .ref (qb 3), .int 0, .ref (qb 4), .ref (qb 5), .ref (qb 6), .ref (qb 7), .ref (qb 8), .ref (qb 9), .ref (qb 10), .ref (qb 11), .ref (qb 12), .ref (qb 13), .ref (qb 14), .ref (qb 15), .ref (qb 16), .ref (qb 17), .ref (qb 18), .ref (qb 19), .ref (qb 20), .int 0, .int 0, .int 0, .int 0, .long 0, .long 0, .long 0, .long 0, .long 0, .ref (qb 21), .int 0, .int 0, .int 0, .int 0])), (qo, .inl (cj, 1, .inr (.inl (fun _ => 0))))] H := hP
  have hD : va_D A [(qm, .inr (7, [.int 0, .int 0, .int 0, .int 0, .int 0, .int 0, .int (-1), .int (-1), .int 0, .int 0, .int 0, .int 0, .int 0, .int 0, .int 0, .int 0, .ref (qb 0), .ref (qb 1), .ref (qb 2), .ref (qb 3), .int 0, .ref (qb 4), .ref (qb 5), .ref (qb 6), .ref (qb 7), .ref (qb 8), .ref (qb 9), .ref (qb 10), .ref (qb 11), .ref (qb 12), .ref (qb 13), .ref (qb 14), .ref (qb 15), .ref (qb 16), .ref (qb 17), .ref (qb 18), .ref (qb 19), .ref (qb 20), .int 0, .int 0, .int 0, .int 0, .long 0, .long 0, .long 0, .long 0, .long 0, .ref (qb 21), .int 0, .int 0, .int 0, .int 0])), (qo, .inl (cj, 1, .inr (.inl (fun _ => 0))))] := hD
  have hK : va_K D cls [(cj, .long)] s := hK
  refine W.widen (k := 224) (n := 300064) (by omega) (by omega) ?_
  refine W.eq (g2 := F0 m 873 ls [.int 1]) rfl ?_
  refine lv_istore (lv' := [(5, .int 1), (4, .int 0), (3, .ref qo), (2, .ref qm), (1, .ref qx), (0, .ref b)]) hx hb d_law_873 hl (by decide) rfl (fun ls hl => ?_)
  refine lv_aload_n hx hb d_law_875 rfl (lv_at hl 3 rfl) ?_
  refine lv_aload_n hx hb d_law_876 rfl (lv_at hl 5 rfl) ?_
  refine lv_iload hx hb d_law_877 (lv_at hl 1 rfl) ?_
  refine lv_iconst (v := 1) hx hb d_law_879 (by decide) ?_
  refine lv_iadd hx hb d_law_880 ?_
  refine lv_topi (fun z4 ez4 => ?_)
  obtain rfl : z4 = 1 := ez4.trans (by decide)
  refine va_sld hx hb hX hbl hbA hS (by unfold vp_in; decide) d_law_881 ?_
  refine W.eq (g2 := F0 m 882 ls [.int (xs 1), .ref qm]) rfl ?_
  refine lv_aload_n hx hb d_law_882 rfl (lv_at hl 5 rfl) ?_
  refine lv_iload hx hb d_law_883 (lv_at hl 1 rfl) ?_
  refine lv_iconst (v := 2) hx hb d_law_885 (by decide) ?_
  refine lv_iadd hx hb d_law_886 ?_
  refine lv_topi (fun z5 ez5 => ?_)
  obtain rfl : z5 = 2 := ez5.trans (by decide)
  refine va_sld hx hb hX hbl hbA hS (by unfold vp_in; decide) d_law_887 ?_
  refine W.eq (g2 := F0 m 888 ls [.int (xs 2), .int (xs 1), .ref qm]) rfl ?_
  refine xc_V (As := [.int (xs 1), .int (xs 2)]) (rest := []) (n := 2) (wc := [(qm, .inr (7, [.int 0, .int 0, .int 0, .int 0, .int 0, .int 0, .int (-1), .int (-1), .int 0, .int 0, .int 0, .int 0, .int 0, .int 0, .int 0, .int 0, .ref (qb 0), .ref (qb 1), .ref (qb 2), .ref (qb 3), .int 0, .ref (qb 4), .ref (qb 5), .ref (qb 6), .ref (qb 7), .ref (qb 8), .ref (qb 9), .ref (qb 10), .ref (qb 11), .ref (qb 12), .ref (qb 13), .ref (qb 14), .ref (qb 15), .ref (qb 16), .ref (qb 17), .ref (qb 18), .ref (qb 19), .ref (qb 20), .int 0, .int 0, .int 0, .int 0, .long 0, .long 0, .long 0, .long 0, .long 0, .ref (qb 21), .int 0, .int 0, .int 0, .int 0]))]) (wr := [(qo, .inl (cj, 1, .inr (.inl (fun _ => 0))))]) (tc := []) (tr := [(cj, .long)]) ⟨hx, hb, hml, hown, hts⟩ (c_Mo_address_n l D qm qb (xs 1) (xs 2) hk H.size) rfl rfl w_544 w_541 w_542 w_543 w_8 (by decide +kernel) ⟨Nat.le_of_ble_eq_true rfl, Nat.le_of_ble_eq_true rfl⟩ hP hD hK hS hA hN hZ [0] [1] rfl rfl (by decide) (by decide) (by decide) [] [0] rfl rfl (ci := 7) (q0 := 0) (q := (R_Mo, F_Mo, 52)) rfl rfl rfl rfl hl.1 rfl (Nat.le_of_ble_eq_true rfl) d_law_888 ⟨Nat.le_of_ble_eq_true rfl, Nat.le_of_ble_eq_true rfl⟩ (fun u6 H locs hP hD hK hS => ?_)
  have hP : va_P D cls [(qo, .inl (cj, 1, .inr (.inl (fun _ => 0)))), (qm, .inr (7, [.int 1, .int 0, .int 0, .int 0, .int 0, .int 0, .int (-1), .int (-1), .int 0, .int 0, .int 0, .int 0, .int 0, .int 0, .int 0, .int 0, .ref (qb 0), .ref (qb 1), .ref (qb 2), .ref (qb 3), .int 0, .ref (qb 4), .ref (qb 5), .ref (qb 6), .ref (qb 7), .ref (qb 8), .ref (qb 9), .ref (qb 10), .ref (qb 11), .ref (qb 12), .ref (qb 13), .ref (qb 14), .ref (qb 15), .ref (qb 16), .ref (qb 17), .ref (qb 18), .ref (qb 19), .ref (qb 20), .int 0, .int 0, .int 0, .int 0, .long 0, .long 0, .long 0, .long 0, .long 0, .ref (qb 21), .int 0, .int 0, .int 0, .int 0]))] H := hP
  have hD : va_D A [(qo, .inl (cj, 1, .inr (.inl (fun _ => 0)))), (qm, .inr (7, [.int 1, .int 0, .int 0, .int 0, .int 0, .int 0, .int (-1), .int (-1), .int 0, .int 0, .int 0, .int 0, .int 0, .int 0, .int 0, .int 0, .ref (qb 0), .ref (qb 1), .ref (qb 2), .ref (qb 3), .int 0, .ref (qb 4), .ref (qb 5), .ref (qb 6), .ref (qb 7), .ref (qb 8), .ref (qb 9), .ref (qb 10), .ref (qb 11), .ref (qb 12), .ref (qb 13), .ref (qb 14), .ref (qb 15), .ref (qb 16), .ref (qb 17), .ref (qb 18), .ref (qb 19), .ref (qb 20), .int 0, .int 0, .int 0, .int 0, .long 0, .long 0, .long 0, .long 0, .long 0, .ref (qb 21), .int 0, .int 0, .int 0, .int 0]))] := hD
  have hK : va_K D cls [(cj, .long)] s := hK
  refine W.eq (g2 := F0 m 891 ls [.int 0]) rfl ?_
  refine lv_istore (lv' := [(6, .int 0), (5, .int 1), (4, .int 0), (3, .ref qo), (2, .ref qm), (1, .ref qx), (0, .ref b)]) hx hb d_law_891 hl (by decide) rfl (fun ls hl => ?_)
  refine lv_aload_n hx hb d_law_893 rfl (lv_at hl 4 rfl) ?_
  refine xc_V (As := []) (rest := []) (n := 0) (wc := [(qm, .inr (7, [.int 1, .int 0, .int 0, .int 0, .int 0, .int 0, .int (-1), .int (-1), .int 0, .int 0, .int 0, .int 0, .int 0, .int 0, .int 0, .int 0, .ref (qb 0), .ref (qb 1), .ref (qb 2), .ref (qb 3), .int 0, .ref (qb 4), .ref (qb 5), .ref (qb 6), .ref (qb 7), .ref (qb 8), .ref (qb 9), .ref (qb 10), .ref (qb 11), .ref (qb 12), .ref (qb 13), .ref (qb 14), .ref (qb 15), .ref (qb 16), .ref (qb 17), .ref (qb 18), .ref (qb 19), .ref (qb 20), .int 0, .int 0, .int 0, .int 0, .long 0, .long 0, .long 0, .long 0, .long 0, .ref (qb 21), .int 0, .int 0, .int 0, .int 0]))]) (wr := [(qo, .inl (cj, 1, .inr (.inl (fun _ => 0))))]) (tc := []) (tr := [(cj, .long)]) ⟨hx, hb, hml, hown, hts⟩ (c_Mo_thrown_1 l D qm qb H.size) rfl rfl w_445 w_442 w_443 w_444 w_8 (by decide +kernel) ⟨Nat.le_of_ble_eq_true rfl, Nat.le_of_ble_eq_true rfl⟩ hP hD hK hS hA hN hZ [1] [0] rfl rfl (by decide) (by decide) (by decide) [] [0] rfl rfl (ci := 7) (q0 := 0) (q := (R_Mo, F_Mo, 52)) rfl rfl rfl rfl hl.1 rfl (Nat.le_of_ble_eq_true rfl) d_law_894 ⟨Nat.le_of_ble_eq_true rfl, Nat.le_of_ble_eq_true rfl⟩ (fun u7 H locs hP hD hK hS => ?_)
  have hP : va_P D cls [(qo, .inl (cj, 1, .inr (.inl (fun _ => 0)))), (qm, .inr (7, [.int 1, .int 0, .int 0, .int 0, .int 0, .int 0, .int (-1), .int (-1), .int 0, .int 0, .int 0, .int 0, .int 0, .int 0, .int 0, .int 0, .ref (qb 0), .ref (qb 1), .ref (qb 2), .ref (qb 3), .int 0, .ref (qb 4), .ref (qb 5), .ref (qb 6), .ref (qb 7), .ref (qb 8), .ref (qb 9), .ref (qb 10), .ref (qb 11), .ref (qb 12), .ref (qb 13), .ref (qb 14), .ref (qb 15), .ref (qb 16), .ref (qb 17), .ref (qb 18), .ref (qb 19), .ref (qb 20), .int 0, .int 0, .int 0, .int 0, .long 0, .long 0, .long 0, .long 0, .long 0, .ref (qb 21), .int 0, .int 0, .int 0, .int 0]))] H := hP
  have hD : va_D A [(qo, .inl (cj, 1, .inr (.inl (fun _ => 0)))), (qm, .inr (7, [.int 1, .int 0, .int 0, .int 0, .int 0, .int 0, .int (-1), .int (-1), .int 0, .int 0, .int 0, .int 0, .int 0, .int 0, .int 0, .int 0, .ref (qb 0), .ref (qb 1), .ref (qb 2), .ref (qb 3), .int 0, .ref (qb 4), .ref (qb 5), .ref (qb 6), .ref (qb 7), .ref (qb 8), .ref (qb 9), .ref (qb 10), .ref (qb 11), .ref (qb 12), .ref (qb 13), .ref (qb 14), .ref (qb 15), .ref (qb 16), .ref (qb 17), .ref (qb 18), .ref (qb 19), .ref (qb 20), .int 0, .int 0, .int 0, .int 0, .long 0, .long 0, .long 0, .long 0, .long 0, .ref (qb 21), .int 0, .int 0, .int 0, .int 0]))] := hD
  have hK : va_K D cls [(cj, .long)] s := hK
  refine W.eq (g2 := F0 m 897 ls [.int 1]) rfl ?_
  refine lv_iload hx hb d_law_897 (lv_at hl 1 rfl) ?_
  refine lv_icmp_eq (tgt := 904) hx hb d_law_899 (by decide) (fun _ => ?_) (fun q9 => absurd (by decide : ((1 : Int32) = 1)) q9)
  refine lv_iload hx hb d_law_904 (lv_at hl 1 rfl) ?_
  refine lv_if_ne (tgt := 921) hx hb d_law_906 (by decide) (fun _ => ?_) (fun q9 => absurd q9 (by decide : ¬ ((1 : Int32) = 0)))
  refine lv_goto (tgt := 1005) hx hb d_law_921 (by decide) ?_
  exact law_tail C0 hA hAf hS (Nat.le_of_ble_eq_true rfl) (Nat.le_of_ble_eq_true rfl) (lv_sub hl [6, 2] rfl)
