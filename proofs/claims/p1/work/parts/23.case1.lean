set_option maxHeartbeats 4000000 in
set_option maxRecDepth 100000 in
theorem l_fault_2 {p : Program} {l : Launch} {e : Env} {s : State} {m : MethodId} {below : List Frame} {meth : Method} {c : Code} {b : Nat} {xs : Nat → Int32} (htr : l.stackTraces = false) (C0 : lw_At p s m meth c b 5 xs) {A : Nat → Prop} (hA : ∀ q, s.heap.size ≤ q → A q) (hAf : ∀ q, A q → s.heap.size ≤ q) (hN : xN s) (hZ : xZ A s s.heap) {D : va_G} {qx qm qo : Nat} {cj : ClassId} {qa qb : Nat → Nat} {qk ql : Nat → ClassId} {uf : Nat → Option Nat} {H : Heap} {locs : List Loc} (h0 : xs 1 = 2) (hP : va_P D cls (lawW qx qm qo cj qa qb qk ql uf) H) (hD : va_D A (lawW qx qm qo cj qa qb qk ql uf)) (hK : va_K D cls (lawT cj qk ql) s) (hS : va_S A s.heap H locs) {ls : Array Slot} (hl : lv_has ls 7 [(4, .int 0), (3, .ref qo), (2, .ref qm), (1, .ref qx), (0, .ref b)]) : W p l e room_1 s m #[Value.ref b] below meth c H locs 223 300058 (lw_Z below #[Value.ref b] s) (F0 m 300 ls []) := by
  obtain ⟨hx, hb, hr, hml, hown, hts0, hX, hbl, hlocks, hgv⟩ := id C0
  have hown : s.vm.findClass "ObjectForgeLaw" = some m.cls := hown
  have hbA : ¬ A b := fun h => absurd (hAf b h) (Nat.not_le.mpr hbl)
  have hts : ∀ w ∈ bw, w.before #[Value.ref b] s = true := fun w h => hts0 w (bw_in w h)
  have hP : va_P D cls [(qx, .inr (0, [.ref (qa 0), .ref (qa 1), .ref (qa 2), .int 0])), ((qa 0), .inr (1, [.ref (qa 3), .ref (qa 4), .int 0, .int 0, .int 0, .int 0, .int 0, .int (-1), .long 0, .int 0, .int 0, .int 0, .int 0, .int (-1), .int (-1)])), ((qa 1), .inr (2, [.ref (qa 27), .int 0, .int 0, .int 0, .int 0, .int (-1), .int (-1)])), (qm, .inr (7, [.int 0, .int 0, .int 0, .int 0, .int 0, .int 0, .int (-1), .int (-1), .int 0, .int 0, .int 0, .int 0, .int 0, .int 0, .int 0, .int 0, .ref (qb 0), .ref (qb 1), .ref (qb 2), .ref (qb 3), .int 0, .ref (qb 4), .ref (qb 5), .ref (qb 6), .ref (qb 7), .ref (qb 8), .ref (qb 9), .ref (qb 10), .ref (qb 11), .ref (qb 12), .ref (qb 13), .ref (qb 14), .ref (qb 15), .ref (qb 16), .ref (qb 17), .ref (qb 18), .ref (qb 19), .ref (qb 20), .int 0, .int 0, .int 0, .int 0, .long 0, .long 0, .long 0, .long 0, .long 0, .ref (qb 21), .int 0, .int 0, .int 0, .int 0])), (qo, .inl (cj, 1, .inr (.inl (fun _ => 0))))] H := hP.sub [0, 1, 4, 10, 15] rfl
  have hD : va_D A [(qx, .inr (0, [.ref (qa 0), .ref (qa 1), .ref (qa 2), .int 0])), ((qa 0), .inr (1, [.ref (qa 3), .ref (qa 4), .int 0, .int 0, .int 0, .int 0, .int 0, .int (-1), .long 0, .int 0, .int 0, .int 0, .int 0, .int (-1), .int (-1)])), ((qa 1), .inr (2, [.ref (qa 27), .int 0, .int 0, .int 0, .int 0, .int (-1), .int (-1)])), (qm, .inr (7, [.int 0, .int 0, .int 0, .int 0, .int 0, .int 0, .int (-1), .int (-1), .int 0, .int 0, .int 0, .int 0, .int 0, .int 0, .int 0, .int 0, .ref (qb 0), .ref (qb 1), .ref (qb 2), .ref (qb 3), .int 0, .ref (qb 4), .ref (qb 5), .ref (qb 6), .ref (qb 7), .ref (qb 8), .ref (qb 9), .ref (qb 10), .ref (qb 11), .ref (qb 12), .ref (qb 13), .ref (qb 14), .ref (qb 15), .ref (qb 16), .ref (qb 17), .ref (qb 18), .ref (qb 19), .ref (qb 20), .int 0, .int 0, .int 0, .int 0, .long 0, .long 0, .long 0, .long 0, .long 0, .ref (qb 21), .int 0, .int 0, .int 0, .int 0])), (qo, .inl (cj, 1, .inr (.inl (fun _ => 0))))] := hD.sub [0, 1, 4, 10, 15] (by decide) rfl
  have hK : va_K D cls [(cj, .long)] s := hK.sub [7] rfl
  refine lv_aload_n hx hb d_law_300 rfl (lv_at hl 3 rfl) ?_
  refine lv_aload_n hx hb d_law_301 rfl (lv_at hl 4 rfl) ?_
  refine lv_iload hx hb d_law_302 (lv_at hl 0 rfl) ?_
  refine lv_iconst (v := 1) hx hb d_law_304 (by decide) ?_
  refine lv_iadd hx hb d_law_305 ?_
  refine lv_topi (fun z1 ez1 => ?_)
  obtain rfl : z1 = 1 := ez1.trans (by decide)
  refine va_sld hx hb hX hbl hbA hS (by unfold vp_in; decide) d_law_306 ?_
  refine W.eq (g2 := F0 m 307 ls [.int (xs 1), .ref qx]) rfl ?_
  refine lv_topi (fun z2 ez2 => ?_)
  obtain rfl : z2 = 2 := ez2.trans h0
  refine lv_aload_n hx hb d_law_307 rfl (lv_at hl 1 rfl) ?_
  refine xc_SW (As := [.ref qx, .int 2, .ref qo]) (rest := []) (n := 3) (wc := [(qx, .inr (0, [.ref (qa 0), .ref (qa 1), .ref (qa 2), .int 0])), ((qa 0), .inr (1, [.ref (qa 3), .ref (qa 4), .int 0, .int 0, .int 0, .int 0, .int 0, .int (-1), .long 0, .int 0, .int 0, .int 0, .int 0, .int (-1), .int (-1)])), ((qa 1), .inr (2, [.ref (qa 27), .int 0, .int 0, .int 0, .int 0, .int (-1), .int (-1)])), (qo, .inl (cj, 1, .inr (.inl (fun _ => 0))))]) (wr := [(qm, .inr (7, [.int 0, .int 0, .int 0, .int 0, .int 0, .int 0, .int (-1), .int (-1), .int 0, .int 0, .int 0, .int 0, .int 0, .int 0, .int 0, .int 0, .ref (qb 0), .ref (qb 1), .ref (qb 2), .ref (qb 3), .int 0, .ref (qb 4), .ref (qb 5), .ref (qb 6), .ref (qb 7), .ref (qb 8), .ref (qb 9), .ref (qb 10), .ref (qb 11), .ref (qb 12), .ref (qb 13), .ref (qb 14), .ref (qb 15), .ref (qb 16), .ref (qb 17), .ref (qb 18), .ref (qb 19), .ref (qb 20), .int 0, .int 0, .int 0, .int 0, .long 0, .long 0, .long 0, .long 0, .long 0, .ref (qb 21), .int 0, .int 0, .int 0, .int 0]))]) (tc := [(cj, .long)]) (tr := []) ⟨hx, hb, hml, hown, hts⟩ (c_La_fault_2 l htr D qx qo cj qa qk H.size) rfl rfl w_297 w_295 w_296 w_0 (by decide +kernel) ⟨Nat.le_of_ble_eq_true rfl, Nat.le_of_ble_eq_true rfl⟩ hP hD hK hS hA hN hZ [0, 1, 2, 4] [3] rfl rfl (by decide) (by decide) (by decide) [0] [] rfl rfl rfl hl.1 rfl (Nat.le_of_ble_eq_true rfl) d_law_308 ⟨Nat.le_of_ble_eq_true rfl, Nat.le_of_ble_eq_true rfl⟩ (fun u3 H locs hP hD hK hS => ?_)
  have hP : va_P D cls [(qm, .inr (7, [.int 0, .int 0, .int 0, .int 0, .int 0, .int 0, .int (-1), .int (-1), .int 0, .int 0, .int 0, .int 0, .int 0, .int 0, .int 0, .int 0, .ref (qb 0), .ref (qb 1), .ref (qb 2), .ref (qb 3), .int 0, .ref (qb 4), .ref (qb 5), .ref (qb 6), .ref (qb 7), .ref (qb 8), .ref (qb 9), .ref (qb 10), .ref (qb 11), .ref (qb 12), .ref (qb 13), .ref (qb 14), .ref (qb 15), .ref (qb 16), .ref (qb 17), .ref (qb 18), .ref (qb 19), .ref (qb 20), .int 0, .int 0, .int 0, .int 0, .long 0, .long 0, .long 0, .long 0, .long 0, .ref (qb 21), .int 0, .int 0, .int 0, .int 0])), (qo, .inl (cj, 1, .inr (.inl (vp_updL (fun _ => 0) (0 : Int32).toNatClampNeg 0))))] H := hP
  have hD : va_D A [(qm, .inr (7, [.int 0, .int 0, .int 0, .int 0, .int 0, .int 0, .int (-1), .int (-1), .int 0, .int 0, .int 0, .int 0, .int 0, .int 0, .int 0, .int 0, .ref (qb 0), .ref (qb 1), .ref (qb 2), .ref (qb 3), .int 0, .ref (qb 4), .ref (qb 5), .ref (qb 6), .ref (qb 7), .ref (qb 8), .ref (qb 9), .ref (qb 10), .ref (qb 11), .ref (qb 12), .ref (qb 13), .ref (qb 14), .ref (qb 15), .ref (qb 16), .ref (qb 17), .ref (qb 18), .ref (qb 19), .ref (qb 20), .int 0, .int 0, .int 0, .int 0, .long 0, .long 0, .long 0, .long 0, .long 0, .ref (qb 21), .int 0, .int 0, .int 0, .int 0])), (qo, .inl (cj, 1, .inr (.inl (vp_updL (fun _ => 0) (0 : Int32).toNatClampNeg 0))))] := hD
  have hK : va_K D cls [(cj, .long)] s := hK
  refine W.eq (g2 := F0 m 311 ls [.int 0]) rfl ?_
  refine lv_istore (lv' := [(5, .int 0), (4, .int 0), (3, .ref qo), (2, .ref qm), (1, .ref qx), (0, .ref b)]) hx hb d_law_311 hl (by decide) rfl (fun ls hl => ?_)
  refine lv_aload_n hx hb d_law_313 rfl (lv_at hl 3 rfl) ?_
  refine lv_aload_n hx hb d_law_314 rfl (lv_at hl 5 rfl) ?_
  refine lv_iload hx hb d_law_315 (lv_at hl 1 rfl) ?_
  refine lv_iconst (v := 1) hx hb d_law_317 (by decide) ?_
  refine lv_iadd hx hb d_law_318 ?_
  refine lv_topi (fun z4 ez4 => ?_)
  obtain rfl : z4 = 1 := ez4.trans (by decide)
  refine va_sld hx hb hX hbl hbA hS (by unfold vp_in; decide) d_law_319 ?_
  refine W.eq (g2 := F0 m 320 ls [.int (xs 1), .ref qm]) rfl ?_
  refine lv_topi (fun z5 ez5 => ?_)
  obtain rfl : z5 = 2 := ez5.trans h0
  refine xc_V (As := [.int 2]) (rest := []) (n := 1) (wc := [(qm, .inr (7, [.int 0, .int 0, .int 0, .int 0, .int 0, .int 0, .int (-1), .int (-1), .int 0, .int 0, .int 0, .int 0, .int 0, .int 0, .int 0, .int 0, .ref (qb 0), .ref (qb 1), .ref (qb 2), .ref (qb 3), .int 0, .ref (qb 4), .ref (qb 5), .ref (qb 6), .ref (qb 7), .ref (qb 8), .ref (qb 9), .ref (qb 10), .ref (qb 11), .ref (qb 12), .ref (qb 13), .ref (qb 14), .ref (qb 15), .ref (qb 16), .ref (qb 17), .ref (qb 18), .ref (qb 19), .ref (qb 20), .int 0, .int 0, .int 0, .int 0, .long 0, .long 0, .long 0, .long 0, .long 0, .ref (qb 21), .int 0, .int 0, .int 0, .int 0]))]) (wr := [(qo, .inl (cj, 1, .inr (.inl (vp_updL (fun _ => 0) (0 : Int32).toNatClampNeg 0))))]) (tc := []) (tr := [(cj, .long)]) ⟨hx, hb, hml, hown, hts⟩ (c_Mo_fault_2 l D qm qb H.size) rfl rfl w_503 w_500 w_501 w_502 w_8 (by decide +kernel) ⟨Nat.le_of_ble_eq_true rfl, Nat.le_of_ble_eq_true rfl⟩ hP hD hK hS hA hN hZ [0] [1] rfl rfl (by decide) (by decide) (by decide) [] [0] rfl rfl (ci := 7) (q0 := 0) (q := (R_Mo, F_Mo, 52)) rfl rfl rfl rfl hl.1 rfl (Nat.le_of_ble_eq_true rfl) d_law_320 ⟨Nat.le_of_ble_eq_true rfl, Nat.le_of_ble_eq_true rfl⟩ (fun u6 H locs hP hD hK hS => ?_)
  have hP : va_P D cls [(qo, .inl (cj, 1, .inr (.inl (vp_updL (fun _ => 0) (0 : Int32).toNatClampNeg 0)))), (qm, .inr (7, [.int 0, .int 0, .int 0, .int 0, .int 0, .int 0, .int (-1), .int (-1), .int 0, .int 0, .int 0, .int 0, .int 0, .int 0, .int 0, .int 0, .ref (qb 0), .ref (qb 1), .ref (qb 2), .ref (qb 3), .int 0, .ref (qb 4), .ref (qb 5), .ref (qb 6), .ref (qb 7), .ref (qb 8), .ref (qb 9), .ref (qb 10), .ref (qb 11), .ref (qb 12), .ref (qb 13), .ref (qb 14), .ref (qb 15), .ref (qb 16), .ref (qb 17), .ref (qb 18), .ref (qb 19), .ref (qb 20), .int 0, .int 0, .int 0, .int 0, .long 0, .long 0, .long 0, .long 0, .long 0, .ref (qb 21), .int 0, .int 0, .int 0, .int 0]))] H := hP
  have hD : va_D A [(qo, .inl (cj, 1, .inr (.inl (vp_updL (fun _ => 0) (0 : Int32).toNatClampNeg 0)))), (qm, .inr (7, [.int 0, .int 0, .int 0, .int 0, .int 0, .int 0, .int (-1), .int (-1), .int 0, .int 0, .int 0, .int 0, .int 0, .int 0, .int 0, .int 0, .ref (qb 0), .ref (qb 1), .ref (qb 2), .ref (qb 3), .int 0, .ref (qb 4), .ref (qb 5), .ref (qb 6), .ref (qb 7), .ref (qb 8), .ref (qb 9), .ref (qb 10), .ref (qb 11), .ref (qb 12), .ref (qb 13), .ref (qb 14), .ref (qb 15), .ref (qb 16), .ref (qb 17), .ref (qb 18), .ref (qb 19), .ref (qb 20), .int 0, .int 0, .int 0, .int 0, .long 0, .long 0, .long 0, .long 0, .long 0, .ref (qb 21), .int 0, .int 0, .int 0, .int 0]))] := hD
  have hK : va_K D cls [(cj, .long)] s := hK
  refine W.eq (g2 := F0 m 323 ls [.int 0]) rfl ?_
  refine lv_istore (lv' := [(6, .int 0), (5, .int 0), (4, .int 0), (3, .ref qo), (2, .ref qm), (1, .ref qx), (0, .ref b)]) hx hb d_law_323 hl (by decide) rfl (fun ls hl => ?_)
  refine lv_aload_n hx hb d_law_325 rfl (lv_at hl 4 rfl) ?_
  refine xc_V (As := []) (rest := []) (n := 0) (wc := [(qm, .inr (7, [.int 0, .int 0, .int 0, .int 0, .int 0, .int 0, .int (-1), .int (-1), .int 0, .int 0, .int 0, .int 0, .int 0, .int 0, .int 0, .int 0, .ref (qb 0), .ref (qb 1), .ref (qb 2), .ref (qb 3), .int 0, .ref (qb 4), .ref (qb 5), .ref (qb 6), .ref (qb 7), .ref (qb 8), .ref (qb 9), .ref (qb 10), .ref (qb 11), .ref (qb 12), .ref (qb 13), .ref (qb 14), .ref (qb 15), .ref (qb 16), .ref (qb 17), .ref (qb 18), .ref (qb 19), .ref (qb 20), .int 0, .int 0, .int 0, .int 0, .long 0, .long 0, .long 0, .long 0, .long 0, .ref (qb 21), .int 0, .int 0, .int 0, .int 0]))]) (wr := [(qo, .inl (cj, 1, .inr (.inl (vp_updL (fun _ => 0) (0 : Int32).toNatClampNeg 0))))]) (tc := []) (tr := [(cj, .long)]) ⟨hx, hb, hml, hown, hts⟩ (c_Mo_thrown_0 l D qm qb H.size) rfl rfl w_445 w_442 w_443 w_444 w_8 (by decide +kernel) ⟨Nat.le_of_ble_eq_true rfl, Nat.le_of_ble_eq_true rfl⟩ hP hD hK hS hA hN hZ [1] [0] rfl rfl (by decide) (by decide) (by decide) [] [0] rfl rfl (ci := 7) (q0 := 0) (q := (R_Mo, F_Mo, 52)) rfl rfl rfl rfl hl.1 rfl (Nat.le_of_ble_eq_true rfl) d_law_326 ⟨Nat.le_of_ble_eq_true rfl, Nat.le_of_ble_eq_true rfl⟩ (fun u7 H locs hP hD hK hS => ?_)
  have hP : va_P D cls [(qo, .inl (cj, 1, .inr (.inl (vp_updL (fun _ => 0) (0 : Int32).toNatClampNeg 0)))), (qm, .inr (7, [.int 0, .int 0, .int 0, .int 0, .int 0, .int 0, .int (-1), .int (-1), .int 0, .int 0, .int 0, .int 0, .int 0, .int 0, .int 0, .int 0, .ref (qb 0), .ref (qb 1), .ref (qb 2), .ref (qb 3), .int 0, .ref (qb 4), .ref (qb 5), .ref (qb 6), .ref (qb 7), .ref (qb 8), .ref (qb 9), .ref (qb 10), .ref (qb 11), .ref (qb 12), .ref (qb 13), .ref (qb 14), .ref (qb 15), .ref (qb 16), .ref (qb 17), .ref (qb 18), .ref (qb 19), .ref (qb 20), .int 0, .int 0, .int 0, .int 0, .long 0, .long 0, .long 0, .long 0, .long 0, .ref (qb 21), .int 0, .int 0, .int 0, .int 0]))] H := hP
  have hD : va_D A [(qo, .inl (cj, 1, .inr (.inl (vp_updL (fun _ => 0) (0 : Int32).toNatClampNeg 0)))), (qm, .inr (7, [.int 0, .int 0, .int 0, .int 0, .int 0, .int 0, .int (-1), .int (-1), .int 0, .int 0, .int 0, .int 0, .int 0, .int 0, .int 0, .int 0, .ref (qb 0), .ref (qb 1), .ref (qb 2), .ref (qb 3), .int 0, .ref (qb 4), .ref (qb 5), .ref (qb 6), .ref (qb 7), .ref (qb 8), .ref (qb 9), .ref (qb 10), .ref (qb 11), .ref (qb 12), .ref (qb 13), .ref (qb 14), .ref (qb 15), .ref (qb 16), .ref (qb 17), .ref (qb 18), .ref (qb 19), .ref (qb 20), .int 0, .int 0, .int 0, .int 0, .long 0, .long 0, .long 0, .long 0, .long 0, .ref (qb 21), .int 0, .int 0, .int 0, .int 0]))] := hD
  have hK : va_K D cls [(cj, .long)] s := hK
  refine W.eq (g2 := F0 m 329 ls [.int 0]) rfl ?_
  refine lv_iload hx hb d_law_329 (lv_at hl 1 rfl) ?_
  refine lv_icmp_eq (tgt := 336) hx hb d_law_331 (by decide) (fun _ => ?_) (fun q9 => absurd (by decide : ((0 : Int32) = 0)) q9)
  refine lv_iload hx hb d_law_336 (lv_at hl 1 rfl) ?_
  refine lv_if_ne (tgt := 353) hx hb d_law_338 (by decide) (fun q9 => absurd (by decide : ((0 : Int32) = 0)) q9) (fun _ => ?_)
  refine lv_aload_n hx hb d_law_341 rfl (lv_at hl 3 rfl) ?_
  refine lv_iconst (v := 0) hx hb d_law_342 (by decide) ?_
  refine va_lald hx hb hK hP 0 0 rfl rfl (by unfold vp_in; decide) d_law_343 ?_
  refine lv_topl (fun z8 ez8 => ?_)
  obtain rfl : z8 = 0 := ez8.trans (by decide)
  refine lv_iload hx hb d_law_344 (lv_at hl 0 rfl) ?_
  refine lv_i2l (v := 0) hx hb d_law_346 (by first | rfl | decide) ?_
  refine W.lcmp hx hb d_law_347 ?_
  refine lv_topi (fun z9 ez9 => ?_)
  obtain rfl : z9 = 0 := ez9.trans (by decide)
  refine lv_if_eq (tgt := 353) hx hb d_law_348 (by decide) (fun _ => ?_) (fun q9 => absurd (by decide : ((0 : Int32) = 0)) q9)
  refine lv_goto (tgt := 1005) hx hb d_law_353 (by decide) ?_
  exact law_tail C0 hA hAf hS (Nat.le_of_ble_eq_true rfl) (Nat.le_of_ble_eq_true rfl) (lv_sub hl [6, 2] rfl)

set_option maxHeartbeats 4000000 in
set_option maxRecDepth 100000 in
theorem l_fault_3 {p : Program} {l : Launch} {e : Env} {s : State} {m : MethodId} {below : List Frame} {meth : Method} {c : Code} {b : Nat} {xs : Nat → Int32} (htr : l.stackTraces = false) (C0 : lw_At p s m meth c b 5 xs) {A : Nat → Prop} (hA : ∀ q, s.heap.size ≤ q → A q) (hAf : ∀ q, A q → s.heap.size ≤ q) (hN : xN s) (hZ : xZ A s s.heap) {D : va_G} {qx qm qo : Nat} {cj : ClassId} {qa qb : Nat → Nat} {qk ql : Nat → ClassId} {uf : Nat → Option Nat} {H : Heap} {locs : List Loc} (h0 : xs 1 = 3) (hP : va_P D cls (lawW qx qm qo cj qa qb qk ql uf) H) (hD : va_D A (lawW qx qm qo cj qa qb qk ql uf)) (hK : va_K D cls (lawT cj qk ql) s) (hS : va_S A s.heap H locs) {ls : Array Slot} (hl : lv_has ls 7 [(4, .int 0), (3, .ref qo), (2, .ref qm), (1, .ref qx), (0, .ref b)]) : W p l e room_1 s m #[Value.ref b] below meth c H locs 223 300058 (lw_Z below #[Value.ref b] s) (F0 m 300 ls []) := by
  obtain ⟨hx, hb, hr, hml, hown, hts0, hX, hbl, hlocks, hgv⟩ := id C0
  have hown : s.vm.findClass "ObjectForgeLaw" = some m.cls := hown
  have hbA : ¬ A b := fun h => absurd (hAf b h) (Nat.not_le.mpr hbl)
  have hts : ∀ w ∈ bw, w.before #[Value.ref b] s = true := fun w h => hts0 w (bw_in w h)
  have hP : va_P D cls [(qx, .inr (0, [.ref (qa 0), .ref (qa 1), .ref (qa 2), .int 0])), ((qa 0), .inr (1, [.ref (qa 3), .ref (qa 4), .int 0, .int 0, .int 0, .int 0, .int 0, .int (-1), .long 0, .int 0, .int 0, .int 0, .int 0, .int (-1), .int (-1)])), ((qa 1), .inr (2, [.ref (qa 27), .int 0, .int 0, .int 0, .int 0, .int (-1), .int (-1)])), (qm, .inr (7, [.int 0, .int 0, .int 0, .int 0, .int 0, .int 0, .int (-1), .int (-1), .int 0, .int 0, .int 0, .int 0, .int 0, .int 0, .int 0, .int 0, .ref (qb 0), .ref (qb 1), .ref (qb 2), .ref (qb 3), .int 0, .ref (qb 4), .ref (qb 5), .ref (qb 6), .ref (qb 7), .ref (qb 8), .ref (qb 9), .ref (qb 10), .ref (qb 11), .ref (qb 12), .ref (qb 13), .ref (qb 14), .ref (qb 15), .ref (qb 16), .ref (qb 17), .ref (qb 18), .ref (qb 19), .ref (qb 20), .int 0, .int 0, .int 0, .int 0, .long 0, .long 0, .long 0, .long 0, .long 0, .ref (qb 21), .int 0, .int 0, .int 0, .int 0])), (qo, .inl (cj, 1, .inr (.inl (fun _ => 0))))] H := hP.sub [0, 1, 4, 10, 15] rfl
  have hD : va_D A [(qx, .inr (0, [.ref (qa 0), .ref (qa 1), .ref (qa 2), .int 0])), ((qa 0), .inr (1, [.ref (qa 3), .ref (qa 4), .int 0, .int 0, .int 0, .int 0, .int 0, .int (-1), .long 0, .int 0, .int 0, .int 0, .int 0, .int (-1), .int (-1)])), ((qa 1), .inr (2, [.ref (qa 27), .int 0, .int 0, .int 0, .int 0, .int (-1), .int (-1)])), (qm, .inr (7, [.int 0, .int 0, .int 0, .int 0, .int 0, .int 0, .int (-1), .int (-1), .int 0, .int 0, .int 0, .int 0, .int 0, .int 0, .int 0, .int 0, .ref (qb 0), .ref (qb 1), .ref (qb 2), .ref (qb 3), .int 0, .ref (qb 4), .ref (qb 5), .ref (qb 6), .ref (qb 7), .ref (qb 8), .ref (qb 9), .ref (qb 10), .ref (qb 11), .ref (qb 12), .ref (qb 13), .ref (qb 14), .ref (qb 15), .ref (qb 16), .ref (qb 17), .ref (qb 18), .ref (qb 19), .ref (qb 20), .int 0, .int 0, .int 0, .int 0, .long 0, .long 0, .long 0, .long 0, .long 0, .ref (qb 21), .int 0, .int 0, .int 0, .int 0])), (qo, .inl (cj, 1, .inr (.inl (fun _ => 0))))] := hD.sub [0, 1, 4, 10, 15] (by decide) rfl
  have hK : va_K D cls [(cj, .long)] s := hK.sub [7] rfl
  refine lv_aload_n hx hb d_law_300 rfl (lv_at hl 3 rfl) ?_
  refine lv_aload_n hx hb d_law_301 rfl (lv_at hl 4 rfl) ?_
  refine lv_iload hx hb d_law_302 (lv_at hl 0 rfl) ?_
  refine lv_iconst (v := 1) hx hb d_law_304 (by decide) ?_
  refine lv_iadd hx hb d_law_305 ?_
  refine lv_topi (fun z1 ez1 => ?_)
  obtain rfl : z1 = 1 := ez1.trans (by decide)
  refine va_sld hx hb hX hbl hbA hS (by unfold vp_in; decide) d_law_306 ?_
  refine W.eq (g2 := F0 m 307 ls [.int (xs 1), .ref qx]) rfl ?_
  refine lv_topi (fun z2 ez2 => ?_)
  obtain rfl : z2 = 3 := ez2.trans h0
  refine lv_aload_n hx hb d_law_307 rfl (lv_at hl 1 rfl) ?_
  refine xc_SW (As := [.ref qx, .int 3, .ref qo]) (rest := []) (n := 3) (wc := [(qx, .inr (0, [.ref (qa 0), .ref (qa 1), .ref (qa 2), .int 0])), ((qa 0), .inr (1, [.ref (qa 3), .ref (qa 4), .int 0, .int 0, .int 0, .int 0, .int 0, .int (-1), .long 0, .int 0, .int 0, .int 0, .int 0, .int (-1), .int (-1)])), ((qa 1), .inr (2, [.ref (qa 27), .int 0, .int 0, .int 0, .int 0, .int (-1), .int (-1)])), (qo, .inl (cj, 1, .inr (.inl (fun _ => 0))))]) (wr := [(qm, .inr (7, [.int 0, .int 0, .int 0, .int 0, .int 0, .int 0, .int (-1), .int (-1), .int 0, .int 0, .int 0, .int 0, .int 0, .int 0, .int 0, .int 0, .ref (qb 0), .ref (qb 1), .ref (qb 2), .ref (qb 3), .int 0, .ref (qb 4), .ref (qb 5), .ref (qb 6), .ref (qb 7), .ref (qb 8), .ref (qb 9), .ref (qb 10), .ref (qb 11), .ref (qb 12), .ref (qb 13), .ref (qb 14), .ref (qb 15), .ref (qb 16), .ref (qb 17), .ref (qb 18), .ref (qb 19), .ref (qb 20), .int 0, .int 0, .int 0, .int 0, .long 0, .long 0, .long 0, .long 0, .long 0, .ref (qb 21), .int 0, .int 0, .int 0, .int 0]))]) (tc := [(cj, .long)]) (tr := []) ⟨hx, hb, hml, hown, hts⟩ (c_La_fault_3 l htr D qx qo cj qa qk H.size) rfl rfl w_297 w_295 w_296 w_0 (by decide +kernel) ⟨Nat.le_of_ble_eq_true rfl, Nat.le_of_ble_eq_true rfl⟩ hP hD hK hS hA hN hZ [0, 1, 2, 4] [3] rfl rfl (by decide) (by decide) (by decide) [0] [] rfl rfl rfl hl.1 rfl (Nat.le_of_ble_eq_true rfl) d_law_308 ⟨Nat.le_of_ble_eq_true rfl, Nat.le_of_ble_eq_true rfl⟩ (fun u3 H locs hP hD hK hS => ?_)
  have hP : va_P D cls [(qm, .inr (7, [.int 0, .int 0, .int 0, .int 0, .int 0, .int 0, .int (-1), .int (-1), .int 0, .int 0, .int 0, .int 0, .int 0, .int 0, .int 0, .int 0, .ref (qb 0), .ref (qb 1), .ref (qb 2), .ref (qb 3), .int 0, .ref (qb 4), .ref (qb 5), .ref (qb 6), .ref (qb 7), .ref (qb 8), .ref (qb 9), .ref (qb 10), .ref (qb 11), .ref (qb 12), .ref (qb 13), .ref (qb 14), .ref (qb 15), .ref (qb 16), .ref (qb 17), .ref (qb 18), .ref (qb 19), .ref (qb 20), .int 0, .int 0, .int 0, .int 0, .long 0, .long 0, .long 0, .long 0, .long 0, .ref (qb 21), .int 0, .int 0, .int 0, .int 0])), (qo, .inl (cj, 1, .inr (.inl (vp_updL (fun _ => 0) (0 : Int32).toNatClampNeg (-1)))))] H := hP
  have hD : va_D A [(qm, .inr (7, [.int 0, .int 0, .int 0, .int 0, .int 0, .int 0, .int (-1), .int (-1), .int 0, .int 0, .int 0, .int 0, .int 0, .int 0, .int 0, .int 0, .ref (qb 0), .ref (qb 1), .ref (qb 2), .ref (qb 3), .int 0, .ref (qb 4), .ref (qb 5), .ref (qb 6), .ref (qb 7), .ref (qb 8), .ref (qb 9), .ref (qb 10), .ref (qb 11), .ref (qb 12), .ref (qb 13), .ref (qb 14), .ref (qb 15), .ref (qb 16), .ref (qb 17), .ref (qb 18), .ref (qb 19), .ref (qb 20), .int 0, .int 0, .int 0, .int 0, .long 0, .long 0, .long 0, .long 0, .long 0, .ref (qb 21), .int 0, .int 0, .int 0, .int 0])), (qo, .inl (cj, 1, .inr (.inl (vp_updL (fun _ => 0) (0 : Int32).toNatClampNeg (-1)))))] := hD
  have hK : va_K D cls [(cj, .long)] s := hK
  refine W.eq (g2 := F0 m 311 ls [.int 0]) rfl ?_
  refine lv_istore (lv' := [(5, .int 0), (4, .int 0), (3, .ref qo), (2, .ref qm), (1, .ref qx), (0, .ref b)]) hx hb d_law_311 hl (by decide) rfl (fun ls hl => ?_)
  refine lv_aload_n hx hb d_law_313 rfl (lv_at hl 3 rfl) ?_
  refine lv_aload_n hx hb d_law_314 rfl (lv_at hl 5 rfl) ?_
  refine lv_iload hx hb d_law_315 (lv_at hl 1 rfl) ?_
  refine lv_iconst (v := 1) hx hb d_law_317 (by decide) ?_
  refine lv_iadd hx hb d_law_318 ?_
  refine lv_topi (fun z4 ez4 => ?_)
  obtain rfl : z4 = 1 := ez4.trans (by decide)
  refine va_sld hx hb hX hbl hbA hS (by unfold vp_in; decide) d_law_319 ?_
  refine W.eq (g2 := F0 m 320 ls [.int (xs 1), .ref qm]) rfl ?_
  refine lv_topi (fun z5 ez5 => ?_)
  obtain rfl : z5 = 3 := ez5.trans h0
  refine xc_V (As := [.int 3]) (rest := []) (n := 1) (wc := [(qm, .inr (7, [.int 0, .int 0, .int 0, .int 0, .int 0, .int 0, .int (-1), .int (-1), .int 0, .int 0, .int 0, .int 0, .int 0, .int 0, .int 0, .int 0, .ref (qb 0), .ref (qb 1), .ref (qb 2), .ref (qb 3), .int 0, .ref (qb 4), .ref (qb 5), .ref (qb 6), .ref (qb 7), .ref (qb 8), .ref (qb 9), .ref (qb 10), .ref (qb 11), .ref (qb 12), .ref (qb 13), .ref (qb 14), .ref (qb 15), .ref (qb 16), .ref (qb 17), .ref (qb 18), .ref (qb 19), .ref (qb 20), .int 0, .int 0, .int 0, .int 0, .long 0, .long 0, .long 0, .long 0, .long 0, .ref (qb 21), .int 0, .int 0, .int 0, .int 0]))]) (wr := [(qo, .inl (cj, 1, .inr (.inl (vp_updL (fun _ => 0) (0 : Int32).toNatClampNeg (-1)))))]) (tc := []) (tr := [(cj, .long)]) ⟨hx, hb, hml, hown, hts⟩ (c_Mo_fault_3 l D qm qb H.size) rfl rfl w_503 w_500 w_501 w_502 w_8 (by decide +kernel) ⟨Nat.le_of_ble_eq_true rfl, Nat.le_of_ble_eq_true rfl⟩ hP hD hK hS hA hN hZ [0] [1] rfl rfl (by decide) (by decide) (by decide) [] [0] rfl rfl (ci := 7) (q0 := 0) (q := (R_Mo, F_Mo, 52)) rfl rfl rfl rfl hl.1 rfl (Nat.le_of_ble_eq_true rfl) d_law_320 ⟨Nat.le_of_ble_eq_true rfl, Nat.le_of_ble_eq_true rfl⟩ (fun u6 H locs hP hD hK hS => ?_)
  have hP : va_P D cls [(qo, .inl (cj, 1, .inr (.inl (vp_updL (fun _ => 0) (0 : Int32).toNatClampNeg (-1))))), (qm, .inr (7, [.int 0, .int 0, .int 0, .int 0, .int 0, .int 0, .int (-1), .int (-1), .int 0, .int 0, .int 0, .int 0, .int 0, .int 0, .int 0, .int 0, .ref (qb 0), .ref (qb 1), .ref (qb 2), .ref (qb 3), .int 0, .ref (qb 4), .ref (qb 5), .ref (qb 6), .ref (qb 7), .ref (qb 8), .ref (qb 9), .ref (qb 10), .ref (qb 11), .ref (qb 12), .ref (qb 13), .ref (qb 14), .ref (qb 15), .ref (qb 16), .ref (qb 17), .ref (qb 18), .ref (qb 19), .ref (qb 20), .int 0, .int 0, .int 0, .int 0, .long 0, .long 0, .long 0, .long 0, .long 0, .ref (qb 21), .int 0, .int 0, .int 0, .int 0]))] H := hP
  have hD : va_D A [(qo, .inl (cj, 1, .inr (.inl (vp_updL (fun _ => 0) (0 : Int32).toNatClampNeg (-1))))), (qm, .inr (7, [.int 0, .int 0, .int 0, .int 0, .int 0, .int 0, .int (-1), .int (-1), .int 0, .int 0, .int 0, .int 0, .int 0, .int 0, .int 0, .int 0, .ref (qb 0), .ref (qb 1), .ref (qb 2), .ref (qb 3), .int 0, .ref (qb 4), .ref (qb 5), .ref (qb 6), .ref (qb 7), .ref (qb 8), .ref (qb 9), .ref (qb 10), .ref (qb 11), .ref (qb 12), .ref (qb 13), .ref (qb 14), .ref (qb 15), .ref (qb 16), .ref (qb 17), .ref (qb 18), .ref (qb 19), .ref (qb 20), .int 0, .int 0, .int 0, .int 0, .long 0, .long 0, .long 0, .long 0, .long 0, .ref (qb 21), .int 0, .int 0, .int 0, .int 0]))] := hD
  have hK : va_K D cls [(cj, .long)] s := hK
  refine W.eq (g2 := F0 m 323 ls [.int (-1)]) rfl ?_
  refine lv_istore (lv' := [(6, .int (-1)), (5, .int 0), (4, .int 0), (3, .ref qo), (2, .ref qm), (1, .ref qx), (0, .ref b)]) hx hb d_law_323 hl (by decide) rfl (fun ls hl => ?_)
  refine lv_aload_n hx hb d_law_325 rfl (lv_at hl 4 rfl) ?_
  refine xc_V (As := []) (rest := []) (n := 0) (wc := [(qm, .inr (7, [.int 0, .int 0, .int 0, .int 0, .int 0, .int 0, .int (-1), .int (-1), .int 0, .int 0, .int 0, .int 0, .int 0, .int 0, .int 0, .int 0, .ref (qb 0), .ref (qb 1), .ref (qb 2), .ref (qb 3), .int 0, .ref (qb 4), .ref (qb 5), .ref (qb 6), .ref (qb 7), .ref (qb 8), .ref (qb 9), .ref (qb 10), .ref (qb 11), .ref (qb 12), .ref (qb 13), .ref (qb 14), .ref (qb 15), .ref (qb 16), .ref (qb 17), .ref (qb 18), .ref (qb 19), .ref (qb 20), .int 0, .int 0, .int 0, .int 0, .long 0, .long 0, .long 0, .long 0, .long 0, .ref (qb 21), .int 0, .int 0, .int 0, .int 0]))]) (wr := [(qo, .inl (cj, 1, .inr (.inl (vp_updL (fun _ => 0) (0 : Int32).toNatClampNeg (-1)))))]) (tc := []) (tr := [(cj, .long)]) ⟨hx, hb, hml, hown, hts⟩ (c_Mo_thrown_0 l D qm qb H.size) rfl rfl w_445 w_442 w_443 w_444 w_8 (by decide +kernel) ⟨Nat.le_of_ble_eq_true rfl, Nat.le_of_ble_eq_true rfl⟩ hP hD hK hS hA hN hZ [1] [0] rfl rfl (by decide) (by decide) (by decide) [] [0] rfl rfl (ci := 7) (q0 := 0) (q := (R_Mo, F_Mo, 52)) rfl rfl rfl rfl hl.1 rfl (Nat.le_of_ble_eq_true rfl) d_law_326 ⟨Nat.le_of_ble_eq_true rfl, Nat.le_of_ble_eq_true rfl⟩ (fun u7 H locs hP hD hK hS => ?_)
  have hP : va_P D cls [(qo, .inl (cj, 1, .inr (.inl (vp_updL (fun _ => 0) (0 : Int32).toNatClampNeg (-1))))), (qm, .inr (7, [.int 0, .int 0, .int 0, .int 0, .int 0, .int 0, .int (-1), .int (-1), .int 0, .int 0, .int 0, .int 0, .int 0, .int 0, .int 0, .int 0, .ref (qb 0), .ref (qb 1), .ref (qb 2), .ref (qb 3), .int 0, .ref (qb 4), .ref (qb 5), .ref (qb 6), .ref (qb 7), .ref (qb 8), .ref (qb 9), .ref (qb 10), .ref (qb 11), .ref (qb 12), .ref (qb 13), .ref (qb 14), .ref (qb 15), .ref (qb 16), .ref (qb 17), .ref (qb 18), .ref (qb 19), .ref (qb 20), .int 0, .int 0, .int 0, .int 0, .long 0, .long 0, .long 0, .long 0, .long 0, .ref (qb 21), .int 0, .int 0, .int 0, .int 0]))] H := hP
  have hD : va_D A [(qo, .inl (cj, 1, .inr (.inl (vp_updL (fun _ => 0) (0 : Int32).toNatClampNeg (-1))))), (qm, .inr (7, [.int 0, .int 0, .int 0, .int 0, .int 0, .int 0, .int (-1), .int (-1), .int 0, .int 0, .int 0, .int 0, .int 0, .int 0, .int 0, .int 0, .ref (qb 0), .ref (qb 1), .ref (qb 2), .ref (qb 3), .int 0, .ref (qb 4), .ref (qb 5), .ref (qb 6), .ref (qb 7), .ref (qb 8), .ref (qb 9), .ref (qb 10), .ref (qb 11), .ref (qb 12), .ref (qb 13), .ref (qb 14), .ref (qb 15), .ref (qb 16), .ref (qb 17), .ref (qb 18), .ref (qb 19), .ref (qb 20), .int 0, .int 0, .int 0, .int 0, .long 0, .long 0, .long 0, .long 0, .long 0, .ref (qb 21), .int 0, .int 0, .int 0, .int 0]))] := hD
  have hK : va_K D cls [(cj, .long)] s := hK
  refine W.eq (g2 := F0 m 329 ls [.int 0]) rfl ?_
  refine lv_iload hx hb d_law_329 (lv_at hl 1 rfl) ?_
  refine lv_icmp_eq (tgt := 336) hx hb d_law_331 (by decide) (fun _ => ?_) (fun q9 => absurd (by decide : ((0 : Int32) = 0)) q9)
  refine lv_iload hx hb d_law_336 (lv_at hl 1 rfl) ?_
  refine lv_if_ne (tgt := 353) hx hb d_law_338 (by decide) (fun q9 => absurd (by decide : ((0 : Int32) = 0)) q9) (fun _ => ?_)
  refine lv_aload_n hx hb d_law_341 rfl (lv_at hl 3 rfl) ?_
  refine lv_iconst (v := 0) hx hb d_law_342 (by decide) ?_
  refine va_lald hx hb hK hP 0 0 rfl rfl (by unfold vp_in; decide) d_law_343 ?_
  refine lv_topl (fun z8 ez8 => ?_)
  obtain rfl : z8 = (-1) := ez8.trans (by decide)
  refine lv_iload hx hb d_law_344 (lv_at hl 0 rfl) ?_
  refine lv_i2l (v := (-1)) hx hb d_law_346 (by first | rfl | decide) ?_
  refine W.lcmp hx hb d_law_347 ?_
  refine lv_topi (fun z9 ez9 => ?_)
  obtain rfl : z9 = 0 := ez9.trans (by decide)
  refine lv_if_eq (tgt := 353) hx hb d_law_348 (by decide) (fun _ => ?_) (fun q9 => absurd (by decide : ((0 : Int32) = 0)) q9)
  refine lv_goto (tgt := 1005) hx hb d_law_353 (by decide) ?_
  exact law_tail C0 hA hAf hS (Nat.le_of_ble_eq_true rfl) (Nat.le_of_ble_eq_true rfl) (lv_sub hl [6, 2] rfl)

set_option maxHeartbeats 4000000 in
set_option maxRecDepth 100000 in
theorem l_fault_4 {p : Program} {l : Launch} {e : Env} {s : State} {m : MethodId} {below : List Frame} {meth : Method} {c : Code} {b : Nat} {xs : Nat → Int32} (htr : l.stackTraces = false) (C0 : lw_At p s m meth c b 5 xs) {A : Nat → Prop} (hA : ∀ q, s.heap.size ≤ q → A q) (hAf : ∀ q, A q → s.heap.size ≤ q) (hN : xN s) (hZ : xZ A s s.heap) {D : va_G} {qx qm qo : Nat} {cj : ClassId} {qa qb : Nat → Nat} {qk ql : Nat → ClassId} {uf : Nat → Option Nat} {H : Heap} {locs : List Loc} (h0 : xs 1 = 4) (hP : va_P D cls (lawW qx qm qo cj qa qb qk ql uf) H) (hD : va_D A (lawW qx qm qo cj qa qb qk ql uf)) (hK : va_K D cls (lawT cj qk ql) s) (hS : va_S A s.heap H locs) {ls : Array Slot} (hl : lv_has ls 7 [(4, .int 0), (3, .ref qo), (2, .ref qm), (1, .ref qx), (0, .ref b)]) : W p l e room_1 s m #[Value.ref b] below meth c H locs 223 300058 (lw_Z below #[Value.ref b] s) (F0 m 300 ls []) := by
  obtain ⟨hx, hb, hr, hml, hown, hts0, hX, hbl, hlocks, hgv⟩ := id C0
  have hown : s.vm.findClass "ObjectForgeLaw" = some m.cls := hown
  have hbA : ¬ A b := fun h => absurd (hAf b h) (Nat.not_le.mpr hbl)
  have hts : ∀ w ∈ bw, w.before #[Value.ref b] s = true := fun w h => hts0 w (bw_in w h)
  have hP : va_P D cls [(qx, .inr (0, [.ref (qa 0), .ref (qa 1), .ref (qa 2), .int 0])), ((qa 0), .inr (1, [.ref (qa 3), .ref (qa 4), .int 0, .int 0, .int 0, .int 0, .int 0, .int (-1), .long 0, .int 0, .int 0, .int 0, .int 0, .int (-1), .int (-1)])), ((qa 1), .inr (2, [.ref (qa 27), .int 0, .int 0, .int 0, .int 0, .int (-1), .int (-1)])), (qm, .inr (7, [.int 0, .int 0, .int 0, .int 0, .int 0, .int 0, .int (-1), .int (-1), .int 0, .int 0, .int 0, .int 0, .int 0, .int 0, .int 0, .int 0, .ref (qb 0), .ref (qb 1), .ref (qb 2), .ref (qb 3), .int 0, .ref (qb 4), .ref (qb 5), .ref (qb 6), .ref (qb 7), .ref (qb 8), .ref (qb 9), .ref (qb 10), .ref (qb 11), .ref (qb 12), .ref (qb 13), .ref (qb 14), .ref (qb 15), .ref (qb 16), .ref (qb 17), .ref (qb 18), .ref (qb 19), .ref (qb 20), .int 0, .int 0, .int 0, .int 0, .long 0, .long 0, .long 0, .long 0, .long 0, .ref (qb 21), .int 0, .int 0, .int 0, .int 0])), (qo, .inl (cj, 1, .inr (.inl (fun _ => 0))))] H := hP.sub [0, 1, 4, 10, 15] rfl
  have hD : va_D A [(qx, .inr (0, [.ref (qa 0), .ref (qa 1), .ref (qa 2), .int 0])), ((qa 0), .inr (1, [.ref (qa 3), .ref (qa 4), .int 0, .int 0, .int 0, .int 0, .int 0, .int (-1), .long 0, .int 0, .int 0, .int 0, .int 0, .int (-1), .int (-1)])), ((qa 1), .inr (2, [.ref (qa 27), .int 0, .int 0, .int 0, .int 0, .int (-1), .int (-1)])), (qm, .inr (7, [.int 0, .int 0, .int 0, .int 0, .int 0, .int 0, .int (-1), .int (-1), .int 0, .int 0, .int 0, .int 0, .int 0, .int 0, .int 0, .int 0, .ref (qb 0), .ref (qb 1), .ref (qb 2), .ref (qb 3), .int 0, .ref (qb 4), .ref (qb 5), .ref (qb 6), .ref (qb 7), .ref (qb 8), .ref (qb 9), .ref (qb 10), .ref (qb 11), .ref (qb 12), .ref (qb 13), .ref (qb 14), .ref (qb 15), .ref (qb 16), .ref (qb 17), .ref (qb 18), .ref (qb 19), .ref (qb 20), .int 0, .int 0, .int 0, .int 0, .long 0, .long 0, .long 0, .long 0, .long 0, .ref (qb 21), .int 0, .int 0, .int 0, .int 0])), (qo, .inl (cj, 1, .inr (.inl (fun _ => 0))))] := hD.sub [0, 1, 4, 10, 15] (by decide) rfl
  have hK : va_K D cls [(cj, .long)] s := hK.sub [7] rfl
  refine lv_aload_n hx hb d_law_300 rfl (lv_at hl 3 rfl) ?_
  refine lv_aload_n hx hb d_law_301 rfl (lv_at hl 4 rfl) ?_
  refine lv_iload hx hb d_law_302 (lv_at hl 0 rfl) ?_
  refine lv_iconst (v := 1) hx hb d_law_304 (by decide) ?_
  refine lv_iadd hx hb d_law_305 ?_
  refine lv_topi (fun z1 ez1 => ?_)
  obtain rfl : z1 = 1 := ez1.trans (by decide)
  refine va_sld hx hb hX hbl hbA hS (by unfold vp_in; decide) d_law_306 ?_
  refine W.eq (g2 := F0 m 307 ls [.int (xs 1), .ref qx]) rfl ?_
  refine lv_topi (fun z2 ez2 => ?_)
  obtain rfl : z2 = 4 := ez2.trans h0
  refine lv_aload_n hx hb d_law_307 rfl (lv_at hl 1 rfl) ?_
  refine xc_SW (As := [.ref qx, .int 4, .ref qo]) (rest := []) (n := 3) (wc := [(qx, .inr (0, [.ref (qa 0), .ref (qa 1), .ref (qa 2), .int 0])), ((qa 0), .inr (1, [.ref (qa 3), .ref (qa 4), .int 0, .int 0, .int 0, .int 0, .int 0, .int (-1), .long 0, .int 0, .int 0, .int 0, .int 0, .int (-1), .int (-1)])), ((qa 1), .inr (2, [.ref (qa 27), .int 0, .int 0, .int 0, .int 0, .int (-1), .int (-1)])), (qo, .inl (cj, 1, .inr (.inl (fun _ => 0))))]) (wr := [(qm, .inr (7, [.int 0, .int 0, .int 0, .int 0, .int 0, .int 0, .int (-1), .int (-1), .int 0, .int 0, .int 0, .int 0, .int 0, .int 0, .int 0, .int 0, .ref (qb 0), .ref (qb 1), .ref (qb 2), .ref (qb 3), .int 0, .ref (qb 4), .ref (qb 5), .ref (qb 6), .ref (qb 7), .ref (qb 8), .ref (qb 9), .ref (qb 10), .ref (qb 11), .ref (qb 12), .ref (qb 13), .ref (qb 14), .ref (qb 15), .ref (qb 16), .ref (qb 17), .ref (qb 18), .ref (qb 19), .ref (qb 20), .int 0, .int 0, .int 0, .int 0, .long 0, .long 0, .long 0, .long 0, .long 0, .ref (qb 21), .int 0, .int 0, .int 0, .int 0]))]) (tc := [(cj, .long)]) (tr := []) ⟨hx, hb, hml, hown, hts⟩ (c_La_fault_4 l htr D qx qo cj qa qk H.size) rfl rfl w_297 w_295 w_296 w_0 (by decide +kernel) ⟨Nat.le_of_ble_eq_true rfl, Nat.le_of_ble_eq_true rfl⟩ hP hD hK hS hA hN hZ [0, 1, 2, 4] [3] rfl rfl (by decide) (by decide) (by decide) [0] [] rfl rfl rfl hl.1 rfl (Nat.le_of_ble_eq_true rfl) d_law_308 ⟨Nat.le_of_ble_eq_true rfl, Nat.le_of_ble_eq_true rfl⟩ (fun u3 H locs hP hD hK hS => ?_)
  have hP : va_P D cls [(qm, .inr (7, [.int 0, .int 0, .int 0, .int 0, .int 0, .int 0, .int (-1), .int (-1), .int 0, .int 0, .int 0, .int 0, .int 0, .int 0, .int 0, .int 0, .ref (qb 0), .ref (qb 1), .ref (qb 2), .ref (qb 3), .int 0, .ref (qb 4), .ref (qb 5), .ref (qb 6), .ref (qb 7), .ref (qb 8), .ref (qb 9), .ref (qb 10), .ref (qb 11), .ref (qb 12), .ref (qb 13), .ref (qb 14), .ref (qb 15), .ref (qb 16), .ref (qb 17), .ref (qb 18), .ref (qb 19), .ref (qb 20), .int 0, .int 0, .int 0, .int 0, .long 0, .long 0, .long 0, .long 0, .long 0, .ref (qb 21), .int 0, .int 0, .int 0, .int 0])), (qo, .inl (cj, 1, .inr (.inl (vp_updL (fun _ => 0) (0 : Int32).toNatClampNeg (-1)))))] H := hP
  have hD : va_D A [(qm, .inr (7, [.int 0, .int 0, .int 0, .int 0, .int 0, .int 0, .int (-1), .int (-1), .int 0, .int 0, .int 0, .int 0, .int 0, .int 0, .int 0, .int 0, .ref (qb 0), .ref (qb 1), .ref (qb 2), .ref (qb 3), .int 0, .ref (qb 4), .ref (qb 5), .ref (qb 6), .ref (qb 7), .ref (qb 8), .ref (qb 9), .ref (qb 10), .ref (qb 11), .ref (qb 12), .ref (qb 13), .ref (qb 14), .ref (qb 15), .ref (qb 16), .ref (qb 17), .ref (qb 18), .ref (qb 19), .ref (qb 20), .int 0, .int 0, .int 0, .int 0, .long 0, .long 0, .long 0, .long 0, .long 0, .ref (qb 21), .int 0, .int 0, .int 0, .int 0])), (qo, .inl (cj, 1, .inr (.inl (vp_updL (fun _ => 0) (0 : Int32).toNatClampNeg (-1)))))] := hD
  have hK : va_K D cls [(cj, .long)] s := hK
  refine W.eq (g2 := F0 m 311 ls [.int 0]) rfl ?_
  refine lv_istore (lv' := [(5, .int 0), (4, .int 0), (3, .ref qo), (2, .ref qm), (1, .ref qx), (0, .ref b)]) hx hb d_law_311 hl (by decide) rfl (fun ls hl => ?_)
  refine lv_aload_n hx hb d_law_313 rfl (lv_at hl 3 rfl) ?_
  refine lv_aload_n hx hb d_law_314 rfl (lv_at hl 5 rfl) ?_
  refine lv_iload hx hb d_law_315 (lv_at hl 1 rfl) ?_
  refine lv_iconst (v := 1) hx hb d_law_317 (by decide) ?_
  refine lv_iadd hx hb d_law_318 ?_
  refine lv_topi (fun z4 ez4 => ?_)
  obtain rfl : z4 = 1 := ez4.trans (by decide)
  refine va_sld hx hb hX hbl hbA hS (by unfold vp_in; decide) d_law_319 ?_
  refine W.eq (g2 := F0 m 320 ls [.int (xs 1), .ref qm]) rfl ?_
  refine lv_topi (fun z5 ez5 => ?_)
  obtain rfl : z5 = 4 := ez5.trans h0
  refine xc_V (As := [.int 4]) (rest := []) (n := 1) (wc := [(qm, .inr (7, [.int 0, .int 0, .int 0, .int 0, .int 0, .int 0, .int (-1), .int (-1), .int 0, .int 0, .int 0, .int 0, .int 0, .int 0, .int 0, .int 0, .ref (qb 0), .ref (qb 1), .ref (qb 2), .ref (qb 3), .int 0, .ref (qb 4), .ref (qb 5), .ref (qb 6), .ref (qb 7), .ref (qb 8), .ref (qb 9), .ref (qb 10), .ref (qb 11), .ref (qb 12), .ref (qb 13), .ref (qb 14), .ref (qb 15), .ref (qb 16), .ref (qb 17), .ref (qb 18), .ref (qb 19), .ref (qb 20), .int 0, .int 0, .int 0, .int 0, .long 0, .long 0, .long 0, .long 0, .long 0, .ref (qb 21), .int 0, .int 0, .int 0, .int 0]))]) (wr := [(qo, .inl (cj, 1, .inr (.inl (vp_updL (fun _ => 0) (0 : Int32).toNatClampNeg (-1)))))]) (tc := []) (tr := [(cj, .long)]) ⟨hx, hb, hml, hown, hts⟩ (c_Mo_fault_4 l D qm qb H.size) rfl rfl w_503 w_500 w_501 w_502 w_8 (by decide +kernel) ⟨Nat.le_of_ble_eq_true rfl, Nat.le_of_ble_eq_true rfl⟩ hP hD hK hS hA hN hZ [0] [1] rfl rfl (by decide) (by decide) (by decide) [] [0] rfl rfl (ci := 7) (q0 := 0) (q := (R_Mo, F_Mo, 52)) rfl rfl rfl rfl hl.1 rfl (Nat.le_of_ble_eq_true rfl) d_law_320 ⟨Nat.le_of_ble_eq_true rfl, Nat.le_of_ble_eq_true rfl⟩ (fun u6 H locs hP hD hK hS => ?_)
  have hP : va_P D cls [(qo, .inl (cj, 1, .inr (.inl (vp_updL (fun _ => 0) (0 : Int32).toNatClampNeg (-1))))), (qm, .inr (7, [.int 0, .int 0, .int 0, .int 0, .int 0, .int 0, .int (-1), .int (-1), .int 0, .int 0, .int 0, .int 0, .int 0, .int 0, .int 0, .int 0, .ref (qb 0), .ref (qb 1), .ref (qb 2), .ref (qb 3), .int 0, .ref (qb 4), .ref (qb 5), .ref (qb 6), .ref (qb 7), .ref (qb 8), .ref (qb 9), .ref (qb 10), .ref (qb 11), .ref (qb 12), .ref (qb 13), .ref (qb 14), .ref (qb 15), .ref (qb 16), .ref (qb 17), .ref (qb 18), .ref (qb 19), .ref (qb 20), .int 0, .int 0, .int 0, .int 0, .long 0, .long 0, .long 0, .long 0, .long 0, .ref (qb 21), .int 0, .int 0, .int 0, .int 0]))] H := hP
  have hD : va_D A [(qo, .inl (cj, 1, .inr (.inl (vp_updL (fun _ => 0) (0 : Int32).toNatClampNeg (-1))))), (qm, .inr (7, [.int 0, .int 0, .int 0, .int 0, .int 0, .int 0, .int (-1), .int (-1), .int 0, .int 0, .int 0, .int 0, .int 0, .int 0, .int 0, .int 0, .ref (qb 0), .ref (qb 1), .ref (qb 2), .ref (qb 3), .int 0, .ref (qb 4), .ref (qb 5), .ref (qb 6), .ref (qb 7), .ref (qb 8), .ref (qb 9), .ref (qb 10), .ref (qb 11), .ref (qb 12), .ref (qb 13), .ref (qb 14), .ref (qb 15), .ref (qb 16), .ref (qb 17), .ref (qb 18), .ref (qb 19), .ref (qb 20), .int 0, .int 0, .int 0, .int 0, .long 0, .long 0, .long 0, .long 0, .long 0, .ref (qb 21), .int 0, .int 0, .int 0, .int 0]))] := hD
  have hK : va_K D cls [(cj, .long)] s := hK
  refine W.eq (g2 := F0 m 323 ls [.int (-1)]) rfl ?_
  refine lv_istore (lv' := [(6, .int (-1)), (5, .int 0), (4, .int 0), (3, .ref qo), (2, .ref qm), (1, .ref qx), (0, .ref b)]) hx hb d_law_323 hl (by decide) rfl (fun ls hl => ?_)
  refine lv_aload_n hx hb d_law_325 rfl (lv_at hl 4 rfl) ?_
  refine xc_V (As := []) (rest := []) (n := 0) (wc := [(qm, .inr (7, [.int 0, .int 0, .int 0, .int 0, .int 0, .int 0, .int (-1), .int (-1), .int 0, .int 0, .int 0, .int 0, .int 0, .int 0, .int 0, .int 0, .ref (qb 0), .ref (qb 1), .ref (qb 2), .ref (qb 3), .int 0, .ref (qb 4), .ref (qb 5), .ref (qb 6), .ref (qb 7), .ref (qb 8), .ref (qb 9), .ref (qb 10), .ref (qb 11), .ref (qb 12), .ref (qb 13), .ref (qb 14), .ref (qb 15), .ref (qb 16), .ref (qb 17), .ref (qb 18), .ref (qb 19), .ref (qb 20), .int 0, .int 0, .int 0, .int 0, .long 0, .long 0, .long 0, .long 0, .long 0, .ref (qb 21), .int 0, .int 0, .int 0, .int 0]))]) (wr := [(qo, .inl (cj, 1, .inr (.inl (vp_updL (fun _ => 0) (0 : Int32).toNatClampNeg (-1)))))]) (tc := []) (tr := [(cj, .long)]) ⟨hx, hb, hml, hown, hts⟩ (c_Mo_thrown_0 l D qm qb H.size) rfl rfl w_445 w_442 w_443 w_444 w_8 (by decide +kernel) ⟨Nat.le_of_ble_eq_true rfl, Nat.le_of_ble_eq_true rfl⟩ hP hD hK hS hA hN hZ [1] [0] rfl rfl (by decide) (by decide) (by decide) [] [0] rfl rfl (ci := 7) (q0 := 0) (q := (R_Mo, F_Mo, 52)) rfl rfl rfl rfl hl.1 rfl (Nat.le_of_ble_eq_true rfl) d_law_326 ⟨Nat.le_of_ble_eq_true rfl, Nat.le_of_ble_eq_true rfl⟩ (fun u7 H locs hP hD hK hS => ?_)
  have hP : va_P D cls [(qo, .inl (cj, 1, .inr (.inl (vp_updL (fun _ => 0) (0 : Int32).toNatClampNeg (-1))))), (qm, .inr (7, [.int 0, .int 0, .int 0, .int 0, .int 0, .int 0, .int (-1), .int (-1), .int 0, .int 0, .int 0, .int 0, .int 0, .int 0, .int 0, .int 0, .ref (qb 0), .ref (qb 1), .ref (qb 2), .ref (qb 3), .int 0, .ref (qb 4), .ref (qb 5), .ref (qb 6), .ref (qb 7), .ref (qb 8), .ref (qb 9), .ref (qb 10), .ref (qb 11), .ref (qb 12), .ref (qb 13), .ref (qb 14), .ref (qb 15), .ref (qb 16), .ref (qb 17), .ref (qb 18), .ref (qb 19), .ref (qb 20), .int 0, .int 0, .int 0, .int 0, .long 0, .long 0, .long 0, .long 0, .long 0, .ref (qb 21), .int 0, .int 0, .int 0, .int 0]))] H := hP
  have hD : va_D A [(qo, .inl (cj, 1, .inr (.inl (vp_updL (fun _ => 0) (0 : Int32).toNatClampNeg (-1))))), (qm, .inr (7, [.int 0, .int 0, .int 0, .int 0, .int 0, .int 0, .int (-1), .int (-1), .int 0, .int 0, .int 0, .int 0, .int 0, .int 0, .int 0, .int 0, .ref (qb 0), .ref (qb 1), .ref (qb 2), .ref (qb 3), .int 0, .ref (qb 4), .ref (qb 5), .ref (qb 6), .ref (qb 7), .ref (qb 8), .ref (qb 9), .ref (qb 10), .ref (qb 11), .ref (qb 12), .ref (qb 13), .ref (qb 14), .ref (qb 15), .ref (qb 16), .ref (qb 17), .ref (qb 18), .ref (qb 19), .ref (qb 20), .int 0, .int 0, .int 0, .int 0, .long 0, .long 0, .long 0, .long 0, .long 0, .ref (qb 21), .int 0, .int 0, .int 0, .int 0]))] := hD
  have hK : va_K D cls [(cj, .long)] s := hK
  refine W.eq (g2 := F0 m 329 ls [.int 0]) rfl ?_
  refine lv_iload hx hb d_law_329 (lv_at hl 1 rfl) ?_
  refine lv_icmp_eq (tgt := 336) hx hb d_law_331 (by decide) (fun _ => ?_) (fun q9 => absurd (by decide : ((0 : Int32) = 0)) q9)
  refine lv_iload hx hb d_law_336 (lv_at hl 1 rfl) ?_
  refine lv_if_ne (tgt := 353) hx hb d_law_338 (by decide) (fun q9 => absurd (by decide : ((0 : Int32) = 0)) q9) (fun _ => ?_)
  refine lv_aload_n hx hb d_law_341 rfl (lv_at hl 3 rfl) ?_
  refine lv_iconst (v := 0) hx hb d_law_342 (by decide) ?_
  refine va_lald hx hb hK hP 0 0 rfl rfl (by unfold vp_in; decide) d_law_343 ?_
  refine lv_topl (fun z8 ez8 => ?_)
  obtain rfl : z8 = (-1) := ez8.trans (by decide)
  refine lv_iload hx hb d_law_344 (lv_at hl 0 rfl) ?_
  refine lv_i2l (v := (-1)) hx hb d_law_346 (by first | rfl | decide) ?_
  refine W.lcmp hx hb d_law_347 ?_
  refine lv_topi (fun z9 ez9 => ?_)
  obtain rfl : z9 = 0 := ez9.trans (by decide)
  refine lv_if_eq (tgt := 353) hx hb d_law_348 (by decide) (fun _ => ?_) (fun q9 => absurd (by decide : ((0 : Int32) = 0)) q9)
  refine lv_goto (tgt := 1005) hx hb d_law_353 (by decide) ?_
  exact law_tail C0 hA hAf hS (Nat.le_of_ble_eq_true rfl) (Nat.le_of_ble_eq_true rfl) (lv_sub hl [6, 2] rfl)

set_option maxHeartbeats 4000000 in
set_option maxRecDepth 100000 in
theorem l_fault_n {p : Program} {l : Launch} {e : Env} {s : State} {m : MethodId} {below : List Frame} {meth : Method} {c : Code} {b : Nat} {xs : Nat → Int32} (htr : l.stackTraces = false) (C0 : lw_At p s m meth c b 5 xs) {A : Nat → Prop} (hA : ∀ q, s.heap.size ≤ q → A q) (hAf : ∀ q, A q → s.heap.size ≤ q) (hN : xN s) (hZ : xZ A s s.heap) {D : va_G} {qx qm qo : Nat} {cj : ClassId} {qa qb : Nat → Nat} {qk ql : Nat → ClassId} {uf : Nat → Option Nat} {H : Heap} {locs : List Loc} (h1 : xs 1 < 0) (hP : va_P D cls (lawW qx qm qo cj qa qb qk ql uf) H) (hD : va_D A (lawW qx qm qo cj qa qb qk ql uf)) (hK : va_K D cls (lawT cj qk ql) s) (hS : va_S A s.heap H locs) {ls : Array Slot} (hl : lv_has ls 7 [(4, .int 0), (3, .ref qo), (2, .ref qm), (1, .ref qx), (0, .ref b)]) : W p l e room_1 s m #[Value.ref b] below meth c H locs 223 300058 (lw_Z below #[Value.ref b] s) (F0 m 300 ls []) := by
  obtain ⟨hx, hb, hr, hml, hown, hts0, hX, hbl, hlocks, hgv⟩ := id C0
  have hown : s.vm.findClass "ObjectForgeLaw" = some m.cls := hown
  have hbA : ¬ A b := fun h => absurd (hAf b h) (Nat.not_le.mpr hbl)
  have hts : ∀ w ∈ bw, w.before #[Value.ref b] s = true := fun w h => hts0 w (bw_in w h)
  have hP : va_P D cls [(qx, .inr (0, [.ref (qa 0), .ref (qa 1), .ref (qa 2), .int 0])), (qm, .inr (7, [.int 0, .int 0, .int 0, .int 0, .int 0, .int 0, .int (-1), .int (-1), .int 0, .int 0, .int 0, .int 0, .int 0, .int 0, .int 0, .int 0, .ref (qb 0), .ref (qb 1), .ref (qb 2), .ref (qb 3), .int 0, .ref (qb 4), .ref (qb 5), .ref (qb 6), .ref (qb 7), .ref (qb 8), .ref (qb 9), .ref (qb 10), .ref (qb 11), .ref (qb 12), .ref (qb 13), .ref (qb 14), .ref (qb 15), .ref (qb 16), .ref (qb 17), .ref (qb 18), .ref (qb 19), .ref (qb 20), .int 0, .int 0, .int 0, .int 0, .long 0, .long 0, .long 0, .long 0, .long 0, .ref (qb 21), .int 0, .int 0, .int 0, .int 0])), (qo, .inl (cj, 1, .inr (.inl (fun _ => 0))))] H := hP.sub [0, 10, 15] rfl
  have hD : va_D A [(qx, .inr (0, [.ref (qa 0), .ref (qa 1), .ref (qa 2), .int 0])), (qm, .inr (7, [.int 0, .int 0, .int 0, .int 0, .int 0, .int 0, .int (-1), .int (-1), .int 0, .int 0, .int 0, .int 0, .int 0, .int 0, .int 0, .int 0, .ref (qb 0), .ref (qb 1), .ref (qb 2), .ref (qb 3), .int 0, .ref (qb 4), .ref (qb 5), .ref (qb 6), .ref (qb 7), .ref (qb 8), .ref (qb 9), .ref (qb 10), .ref (qb 11), .ref (qb 12), .ref (qb 13), .ref (qb 14), .ref (qb 15), .ref (qb 16), .ref (qb 17), .ref (qb 18), .ref (qb 19), .ref (qb 20), .int 0, .int 0, .int 0, .int 0, .long 0, .long 0, .long 0, .long 0, .long 0, .ref (qb 21), .int 0, .int 0, .int 0, .int 0])), (qo, .inl (cj, 1, .inr (.inl (fun _ => 0))))] := hD.sub [0, 10, 15] (by decide) rfl
  have hK : va_K D cls [(cj, .long)] s := hK.sub [7] rfl
  refine lv_aload_n hx hb d_law_300 rfl (lv_at hl 3 rfl) ?_
  refine lv_aload_n hx hb d_law_301 rfl (lv_at hl 4 rfl) ?_
  refine lv_iload hx hb d_law_302 (lv_at hl 0 rfl) ?_
  refine lv_iconst (v := 1) hx hb d_law_304 (by decide) ?_
  refine lv_iadd hx hb d_law_305 ?_
  refine lv_topi (fun z1 ez1 => ?_)
  obtain rfl : z1 = 1 := ez1.trans (by decide)
  refine va_sld hx hb hX hbl hbA hS (by unfold vp_in; decide) d_law_306 ?_
  refine W.eq (g2 := F0 m 307 ls [.int (xs 1), .ref qx]) rfl ?_
  refine lv_aload_n hx hb d_law_307 rfl (lv_at hl 1 rfl) ?_
  refine xc_SW (As := [.ref qx, .int (xs 1), .ref qo]) (rest := []) (n := 3) (wc := [(qx, .inr (0, [.ref (qa 0), .ref (qa 1), .ref (qa 2), .int 0])), (qo, .inl (cj, 1, .inr (.inl (fun _ => 0))))]) (wr := [(qm, .inr (7, [.int 0, .int 0, .int 0, .int 0, .int 0, .int 0, .int (-1), .int (-1), .int 0, .int 0, .int 0, .int 0, .int 0, .int 0, .int 0, .int 0, .ref (qb 0), .ref (qb 1), .ref (qb 2), .ref (qb 3), .int 0, .ref (qb 4), .ref (qb 5), .ref (qb 6), .ref (qb 7), .ref (qb 8), .ref (qb 9), .ref (qb 10), .ref (qb 11), .ref (qb 12), .ref (qb 13), .ref (qb 14), .ref (qb 15), .ref (qb 16), .ref (qb 17), .ref (qb 18), .ref (qb 19), .ref (qb 20), .int 0, .int 0, .int 0, .int 0, .long 0, .long 0, .long 0, .long 0, .long 0, .ref (qb 21), .int 0, .int 0, .int 0, .int 0]))]) (tc := [(cj, .long)]) (tr := []) ⟨hx, hb, hml, hown, hts⟩ (c_La_fault_x l htr D qx qo cj qa qk (xs 1) (Or.inl (x_neg h1)) H.size) rfl rfl w_297 w_295 w_296 w_0 (by decide +kernel) ⟨Nat.le_of_ble_eq_true rfl, Nat.le_of_ble_eq_true rfl⟩ hP hD hK hS hA hN hZ [0, 2] [1] rfl rfl (by decide) (by decide) (by decide) [0] [] rfl rfl rfl hl.1 rfl (Nat.le_of_ble_eq_true rfl) d_law_308 ⟨Nat.le_of_ble_eq_true rfl, Nat.le_of_ble_eq_true rfl⟩ (fun u2 H locs hP hD hK hS => ?_)
  have hP : va_P D cls [(qm, .inr (7, [.int 0, .int 0, .int 0, .int 0, .int 0, .int 0, .int (-1), .int (-1), .int 0, .int 0, .int 0, .int 0, .int 0, .int 0, .int 0, .int 0, .ref (qb 0), .ref (qb 1), .ref (qb 2), .ref (qb 3), .int 0, .ref (qb 4), .ref (qb 5), .ref (qb 6), .ref (qb 7), .ref (qb 8), .ref (qb 9), .ref (qb 10), .ref (qb 11), .ref (qb 12), .ref (qb 13), .ref (qb 14), .ref (qb 15), .ref (qb 16), .ref (qb 17), .ref (qb 18), .ref (qb 19), .ref (qb 20), .int 0, .int 0, .int 0, .int 0, .long 0, .long 0, .long 0, .long 0, .long 0, .ref (qb 21), .int 0, .int 0, .int 0, .int 0])), (qo, .inl (cj, 1, .inr (.inl (fun _ => 0))))] H := hP
  have hD : va_D A [(qm, .inr (7, [.int 0, .int 0, .int 0, .int 0, .int 0, .int 0, .int (-1), .int (-1), .int 0, .int 0, .int 0, .int 0, .int 0, .int 0, .int 0, .int 0, .ref (qb 0), .ref (qb 1), .ref (qb 2), .ref (qb 3), .int 0, .ref (qb 4), .ref (qb 5), .ref (qb 6), .ref (qb 7), .ref (qb 8), .ref (qb 9), .ref (qb 10), .ref (qb 11), .ref (qb 12), .ref (qb 13), .ref (qb 14), .ref (qb 15), .ref (qb 16), .ref (qb 17), .ref (qb 18), .ref (qb 19), .ref (qb 20), .int 0, .int 0, .int 0, .int 0, .long 0, .long 0, .long 0, .long 0, .long 0, .ref (qb 21), .int 0, .int 0, .int 0, .int 0])), (qo, .inl (cj, 1, .inr (.inl (fun _ => 0))))] := hD
  have hK : va_K D cls [(cj, .long)] s := hK
  refine W.widen (k := 224) (n := 300064) (by omega) (by omega) ?_
  refine W.eq (g2 := F0 m 311 ls [.int 1]) rfl ?_
  refine lv_istore (lv' := [(5, .int 1), (4, .int 0), (3, .ref qo), (2, .ref qm), (1, .ref qx), (0, .ref b)]) hx hb d_law_311 hl (by decide) rfl (fun ls hl => ?_)
  refine lv_aload_n hx hb d_law_313 rfl (lv_at hl 3 rfl) ?_
  refine lv_aload_n hx hb d_law_314 rfl (lv_at hl 5 rfl) ?_
  refine lv_iload hx hb d_law_315 (lv_at hl 1 rfl) ?_
  refine lv_iconst (v := 1) hx hb d_law_317 (by decide) ?_
  refine lv_iadd hx hb d_law_318 ?_
  refine lv_topi (fun z3 ez3 => ?_)
  obtain rfl : z3 = 1 := ez3.trans (by decide)
  refine va_sld hx hb hX hbl hbA hS (by unfold vp_in; decide) d_law_319 ?_
  refine W.eq (g2 := F0 m 320 ls [.int (xs 1), .ref qm]) rfl ?_
  refine xc_V (As := [.int (xs 1)]) (rest := []) (n := 1) (wc := [(qm, .inr (7, [.int 0, .int 0, .int 0, .int 0, .int 0, .int 0, .int (-1), .int (-1), .int 0, .int 0, .int 0, .int 0, .int 0, .int 0, .int 0, .int 0, .ref (qb 0), .ref (qb 1), .ref (qb 2), .ref (qb 3), .int 0, .ref (qb 4), .ref (qb 5), .ref (qb 6), .ref (qb 7), .ref (qb 8), .ref (qb 9), .ref (qb 10), .ref (qb 11), .ref (qb 12), .ref (qb 13), .ref (qb 14), .ref (qb 15), .ref (qb 16), .ref (qb 17), .ref (qb 18), .ref (qb 19), .ref (qb 20), .int 0, .int 0, .int 0, .int 0, .long 0, .long 0, .long 0, .long 0, .long 0, .ref (qb 21), .int 0, .int 0, .int 0, .int 0]))]) (wr := [(qo, .inl (cj, 1, .inr (.inl (fun _ => 0))))]) (tc := []) (tr := [(cj, .long)]) ⟨hx, hb, hml, hown, hts⟩ (c_Mo_fault_n l D qm qb (xs 1) h1 H.size) rfl rfl w_503 w_500 w_501 w_502 w_8 (by decide +kernel) ⟨Nat.le_of_ble_eq_true rfl, Nat.le_of_ble_eq_true rfl⟩ hP hD hK hS hA hN hZ [0] [1] rfl rfl (by decide) (by decide) (by decide) [] [0] rfl rfl (ci := 7) (q0 := 0) (q := (R_Mo, F_Mo, 52)) rfl rfl rfl rfl hl.1 rfl (Nat.le_of_ble_eq_true rfl) d_law_320 ⟨Nat.le_of_ble_eq_true rfl, Nat.le_of_ble_eq_true rfl⟩ (fun u4 H locs hP hD hK hS => ?_)
  have hP : va_P D cls [(qo, .inl (cj, 1, .inr (.inl (fun _ => 0)))), (qm, .inr (7, [.int 1, .int 0, .int 0, .int 0, .int 0, .int 0, .int (-1), .int (-1), .int 0, .int 0, .int 0, .int 0, .int 0, .int 0, .int 0, .int 0, .ref (qb 0), .ref (qb 1), .ref (qb 2), .ref (qb 3), .int 0, .ref (qb 4), .ref (qb 5), .ref (qb 6), .ref (qb 7), .ref (qb 8), .ref (qb 9), .ref (qb 10), .ref (qb 11), .ref (qb 12), .ref (qb 13), .ref (qb 14), .ref (qb 15), .ref (qb 16), .ref (qb 17), .ref (qb 18), .ref (qb 19), .ref (qb 20), .int 0, .int 0, .int 0, .int 0, .long 0, .long 0, .long 0, .long 0, .long 0, .ref (qb 21), .int 0, .int 0, .int 0, .int 0]))] H := hP
  have hD : va_D A [(qo, .inl (cj, 1, .inr (.inl (fun _ => 0)))), (qm, .inr (7, [.int 1, .int 0, .int 0, .int 0, .int 0, .int 0, .int (-1), .int (-1), .int 0, .int 0, .int 0, .int 0, .int 0, .int 0, .int 0, .int 0, .ref (qb 0), .ref (qb 1), .ref (qb 2), .ref (qb 3), .int 0, .ref (qb 4), .ref (qb 5), .ref (qb 6), .ref (qb 7), .ref (qb 8), .ref (qb 9), .ref (qb 10), .ref (qb 11), .ref (qb 12), .ref (qb 13), .ref (qb 14), .ref (qb 15), .ref (qb 16), .ref (qb 17), .ref (qb 18), .ref (qb 19), .ref (qb 20), .int 0, .int 0, .int 0, .int 0, .long 0, .long 0, .long 0, .long 0, .long 0, .ref (qb 21), .int 0, .int 0, .int 0, .int 0]))] := hD
  have hK : va_K D cls [(cj, .long)] s := hK
  refine W.eq (g2 := F0 m 323 ls [.int 0]) rfl ?_
  refine lv_istore (lv' := [(6, .int 0), (5, .int 1), (4, .int 0), (3, .ref qo), (2, .ref qm), (1, .ref qx), (0, .ref b)]) hx hb d_law_323 hl (by decide) rfl (fun ls hl => ?_)
  refine lv_aload_n hx hb d_law_325 rfl (lv_at hl 4 rfl) ?_
  refine xc_V (As := []) (rest := []) (n := 0) (wc := [(qm, .inr (7, [.int 1, .int 0, .int 0, .int 0, .int 0, .int 0, .int (-1), .int (-1), .int 0, .int 0, .int 0, .int 0, .int 0, .int 0, .int 0, .int 0, .ref (qb 0), .ref (qb 1), .ref (qb 2), .ref (qb 3), .int 0, .ref (qb 4), .ref (qb 5), .ref (qb 6), .ref (qb 7), .ref (qb 8), .ref (qb 9), .ref (qb 10), .ref (qb 11), .ref (qb 12), .ref (qb 13), .ref (qb 14), .ref (qb 15), .ref (qb 16), .ref (qb 17), .ref (qb 18), .ref (qb 19), .ref (qb 20), .int 0, .int 0, .int 0, .int 0, .long 0, .long 0, .long 0, .long 0, .long 0, .ref (qb 21), .int 0, .int 0, .int 0, .int 0]))]) (wr := [(qo, .inl (cj, 1, .inr (.inl (fun _ => 0))))]) (tc := []) (tr := [(cj, .long)]) ⟨hx, hb, hml, hown, hts⟩ (c_Mo_thrown_1 l D qm qb H.size) rfl rfl w_445 w_442 w_443 w_444 w_8 (by decide +kernel) ⟨Nat.le_of_ble_eq_true rfl, Nat.le_of_ble_eq_true rfl⟩ hP hD hK hS hA hN hZ [1] [0] rfl rfl (by decide) (by decide) (by decide) [] [0] rfl rfl (ci := 7) (q0 := 0) (q := (R_Mo, F_Mo, 52)) rfl rfl rfl rfl hl.1 rfl (Nat.le_of_ble_eq_true rfl) d_law_326 ⟨Nat.le_of_ble_eq_true rfl, Nat.le_of_ble_eq_true rfl⟩ (fun u5 H locs hP hD hK hS => ?_)
  have hP : va_P D cls [(qo, .inl (cj, 1, .inr (.inl (fun _ => 0)))), (qm, .inr (7, [.int 1, .int 0, .int 0, .int 0, .int 0, .int 0, .int (-1), .int (-1), .int 0, .int 0, .int 0, .int 0, .int 0, .int 0, .int 0, .int 0, .ref (qb 0), .ref (qb 1), .ref (qb 2), .ref (qb 3), .int 0, .ref (qb 4), .ref (qb 5), .ref (qb 6), .ref (qb 7), .ref (qb 8), .ref (qb 9), .ref (qb 10), .ref (qb 11), .ref (qb 12), .ref (qb 13), .ref (qb 14), .ref (qb 15), .ref (qb 16), .ref (qb 17), .ref (qb 18), .ref (qb 19), .ref (qb 20), .int 0, .int 0, .int 0, .int 0, .long 0, .long 0, .long 0, .long 0, .long 0, .ref (qb 21), .int 0, .int 0, .int 0, .int 0]))] H := hP
  have hD : va_D A [(qo, .inl (cj, 1, .inr (.inl (fun _ => 0)))), (qm, .inr (7, [.int 1, .int 0, .int 0, .int 0, .int 0, .int 0, .int (-1), .int (-1), .int 0, .int 0, .int 0, .int 0, .int 0, .int 0, .int 0, .int 0, .ref (qb 0), .ref (qb 1), .ref (qb 2), .ref (qb 3), .int 0, .ref (qb 4), .ref (qb 5), .ref (qb 6), .ref (qb 7), .ref (qb 8), .ref (qb 9), .ref (qb 10), .ref (qb 11), .ref (qb 12), .ref (qb 13), .ref (qb 14), .ref (qb 15), .ref (qb 16), .ref (qb 17), .ref (qb 18), .ref (qb 19), .ref (qb 20), .int 0, .int 0, .int 0, .int 0, .long 0, .long 0, .long 0, .long 0, .long 0, .ref (qb 21), .int 0, .int 0, .int 0, .int 0]))] := hD
  have hK : va_K D cls [(cj, .long)] s := hK
  refine W.eq (g2 := F0 m 329 ls [.int 1]) rfl ?_
  refine lv_iload hx hb d_law_329 (lv_at hl 1 rfl) ?_
  refine lv_icmp_eq (tgt := 336) hx hb d_law_331 (by decide) (fun _ => ?_) (fun q9 => absurd (by decide : ((1 : Int32) = 1)) q9)
  refine lv_iload hx hb d_law_336 (lv_at hl 1 rfl) ?_
  refine lv_if_ne (tgt := 353) hx hb d_law_338 (by decide) (fun _ => ?_) (fun q9 => absurd q9 (by decide : ¬ ((1 : Int32) = 0)))
  refine lv_goto (tgt := 1005) hx hb d_law_353 (by decide) ?_
  exact law_tail C0 hA hAf hS (Nat.le_of_ble_eq_true rfl) (Nat.le_of_ble_eq_true rfl) (lv_sub hl [6, 2] rfl)

set_option maxHeartbeats 4000000 in
set_option maxRecDepth 100000 in
theorem l_fault_b {p : Program} {l : Launch} {e : Env} {s : State} {m : MethodId} {below : List Frame} {meth : Method} {c : Code} {b : Nat} {xs : Nat → Int32} (htr : l.stackTraces = false) (C0 : lw_At p s m meth c b 5 xs) {A : Nat → Prop} (hA : ∀ q, s.heap.size ≤ q → A q) (hAf : ∀ q, A q → s.heap.size ≤ q) (hN : xN s) (hZ : xZ A s s.heap) {D : va_G} {qx qm qo : Nat} {cj : ClassId} {qa qb : Nat → Nat} {qk ql : Nat → ClassId} {uf : Nat → Option Nat} {H : Heap} {locs : List Loc} (h1 : ¬ xs 1 < 0) (h2 : ¬ xs 1 ≤ 4) (hP : va_P D cls (lawW qx qm qo cj qa qb qk ql uf) H) (hD : va_D A (lawW qx qm qo cj qa qb qk ql uf)) (hK : va_K D cls (lawT cj qk ql) s) (hS : va_S A s.heap H locs) {ls : Array Slot} (hl : lv_has ls 7 [(4, .int 0), (3, .ref qo), (2, .ref qm), (1, .ref qx), (0, .ref b)]) : W p l e room_1 s m #[Value.ref b] below meth c H locs 223 300058 (lw_Z below #[Value.ref b] s) (F0 m 300 ls []) := by
  obtain ⟨hx, hb, hr, hml, hown, hts0, hX, hbl, hlocks, hgv⟩ := id C0
  have hown : s.vm.findClass "ObjectForgeLaw" = some m.cls := hown
  have hbA : ¬ A b := fun h => absurd (hAf b h) (Nat.not_le.mpr hbl)
  have hts : ∀ w ∈ bw, w.before #[Value.ref b] s = true := fun w h => hts0 w (bw_in w h)
  have hP : va_P D cls [(qx, .inr (0, [.ref (qa 0), .ref (qa 1), .ref (qa 2), .int 0])), (qm, .inr (7, [.int 0, .int 0, .int 0, .int 0, .int 0, .int 0, .int (-1), .int (-1), .int 0, .int 0, .int 0, .int 0, .int 0, .int 0, .int 0, .int 0, .ref (qb 0), .ref (qb 1), .ref (qb 2), .ref (qb 3), .int 0, .ref (qb 4), .ref (qb 5), .ref (qb 6), .ref (qb 7), .ref (qb 8), .ref (qb 9), .ref (qb 10), .ref (qb 11), .ref (qb 12), .ref (qb 13), .ref (qb 14), .ref (qb 15), .ref (qb 16), .ref (qb 17), .ref (qb 18), .ref (qb 19), .ref (qb 20), .int 0, .int 0, .int 0, .int 0, .long 0, .long 0, .long 0, .long 0, .long 0, .ref (qb 21), .int 0, .int 0, .int 0, .int 0])), (qo, .inl (cj, 1, .inr (.inl (fun _ => 0))))] H := hP.sub [0, 10, 15] rfl
  have hD : va_D A [(qx, .inr (0, [.ref (qa 0), .ref (qa 1), .ref (qa 2), .int 0])), (qm, .inr (7, [.int 0, .int 0, .int 0, .int 0, .int 0, .int 0, .int (-1), .int (-1), .int 0, .int 0, .int 0, .int 0, .int 0, .int 0, .int 0, .int 0, .ref (qb 0), .ref (qb 1), .ref (qb 2), .ref (qb 3), .int 0, .ref (qb 4), .ref (qb 5), .ref (qb 6), .ref (qb 7), .ref (qb 8), .ref (qb 9), .ref (qb 10), .ref (qb 11), .ref (qb 12), .ref (qb 13), .ref (qb 14), .ref (qb 15), .ref (qb 16), .ref (qb 17), .ref (qb 18), .ref (qb 19), .ref (qb 20), .int 0, .int 0, .int 0, .int 0, .long 0, .long 0, .long 0, .long 0, .long 0, .ref (qb 21), .int 0, .int 0, .int 0, .int 0])), (qo, .inl (cj, 1, .inr (.inl (fun _ => 0))))] := hD.sub [0, 10, 15] (by decide) rfl
  have hK : va_K D cls [(cj, .long)] s := hK.sub [7] rfl
  refine lv_aload_n hx hb d_law_300 rfl (lv_at hl 3 rfl) ?_
  refine lv_aload_n hx hb d_law_301 rfl (lv_at hl 4 rfl) ?_
  refine lv_iload hx hb d_law_302 (lv_at hl 0 rfl) ?_
  refine lv_iconst (v := 1) hx hb d_law_304 (by decide) ?_
  refine lv_iadd hx hb d_law_305 ?_
  refine lv_topi (fun z1 ez1 => ?_)
  obtain rfl : z1 = 1 := ez1.trans (by decide)
  refine va_sld hx hb hX hbl hbA hS (by unfold vp_in; decide) d_law_306 ?_
  refine W.eq (g2 := F0 m 307 ls [.int (xs 1), .ref qx]) rfl ?_
  refine lv_aload_n hx hb d_law_307 rfl (lv_at hl 1 rfl) ?_
  refine xc_SW (As := [.ref qx, .int (xs 1), .ref qo]) (rest := []) (n := 3) (wc := [(qx, .inr (0, [.ref (qa 0), .ref (qa 1), .ref (qa 2), .int 0])), (qo, .inl (cj, 1, .inr (.inl (fun _ => 0))))]) (wr := [(qm, .inr (7, [.int 0, .int 0, .int 0, .int 0, .int 0, .int 0, .int (-1), .int (-1), .int 0, .int 0, .int 0, .int 0, .int 0, .int 0, .int 0, .int 0, .ref (qb 0), .ref (qb 1), .ref (qb 2), .ref (qb 3), .int 0, .ref (qb 4), .ref (qb 5), .ref (qb 6), .ref (qb 7), .ref (qb 8), .ref (qb 9), .ref (qb 10), .ref (qb 11), .ref (qb 12), .ref (qb 13), .ref (qb 14), .ref (qb 15), .ref (qb 16), .ref (qb 17), .ref (qb 18), .ref (qb 19), .ref (qb 20), .int 0, .int 0, .int 0, .int 0, .long 0, .long 0, .long 0, .long 0, .long 0, .ref (qb 21), .int 0, .int 0, .int 0, .int 0]))]) (tc := [(cj, .long)]) (tr := []) ⟨hx, hb, hml, hown, hts⟩ (c_La_fault_x l htr D qx qo cj qa qk (xs 1) (Or.inr (x_gt h2)) H.size) rfl rfl w_297 w_295 w_296 w_0 (by decide +kernel) ⟨Nat.le_of_ble_eq_true rfl, Nat.le_of_ble_eq_true rfl⟩ hP hD hK hS hA hN hZ [0, 2] [1] rfl rfl (by decide) (by decide) (by decide) [0] [] rfl rfl rfl hl.1 rfl (Nat.le_of_ble_eq_true rfl) d_law_308 ⟨Nat.le_of_ble_eq_true rfl, Nat.le_of_ble_eq_true rfl⟩ (fun u2 H locs hP hD hK hS => ?_)
  have hP : va_P D cls [(qm, .inr (7, [.int 0, .int 0, .int 0, .int 0, .int 0, .int 0, .int (-1), .int (-1), .int 0, .int 0, .int 0, .int 0, .int 0, .int 0, .int 0, .int 0, .ref (qb 0), .ref (qb 1), .ref (qb 2), .ref (qb 3), .int 0, .ref (qb 4), .ref (qb 5), .ref (qb 6), .ref (qb 7), .ref (qb 8), .ref (qb 9), .ref (qb 10), .ref (qb 11), .ref (qb 12), .ref (qb 13), .ref (qb 14), .ref (qb 15), .ref (qb 16), .ref (qb 17), .ref (qb 18), .ref (qb 19), .ref (qb 20), .int 0, .int 0, .int 0, .int 0, .long 0, .long 0, .long 0, .long 0, .long 0, .ref (qb 21), .int 0, .int 0, .int 0, .int 0])), (qo, .inl (cj, 1, .inr (.inl (fun _ => 0))))] H := hP
  have hD : va_D A [(qm, .inr (7, [.int 0, .int 0, .int 0, .int 0, .int 0, .int 0, .int (-1), .int (-1), .int 0, .int 0, .int 0, .int 0, .int 0, .int 0, .int 0, .int 0, .ref (qb 0), .ref (qb 1), .ref (qb 2), .ref (qb 3), .int 0, .ref (qb 4), .ref (qb 5), .ref (qb 6), .ref (qb 7), .ref (qb 8), .ref (qb 9), .ref (qb 10), .ref (qb 11), .ref (qb 12), .ref (qb 13), .ref (qb 14), .ref (qb 15), .ref (qb 16), .ref (qb 17), .ref (qb 18), .ref (qb 19), .ref (qb 20), .int 0, .int 0, .int 0, .int 0, .long 0, .long 0, .long 0, .long 0, .long 0, .ref (qb 21), .int 0, .int 0, .int 0, .int 0])), (qo, .inl (cj, 1, .inr (.inl (fun _ => 0))))] := hD
  have hK : va_K D cls [(cj, .long)] s := hK
  refine W.widen (k := 224) (n := 300064) (by omega) (by omega) ?_
  refine W.eq (g2 := F0 m 311 ls [.int 1]) rfl ?_
  refine lv_istore (lv' := [(5, .int 1), (4, .int 0), (3, .ref qo), (2, .ref qm), (1, .ref qx), (0, .ref b)]) hx hb d_law_311 hl (by decide) rfl (fun ls hl => ?_)
  refine lv_aload_n hx hb d_law_313 rfl (lv_at hl 3 rfl) ?_
  refine lv_aload_n hx hb d_law_314 rfl (lv_at hl 5 rfl) ?_
  refine lv_iload hx hb d_law_315 (lv_at hl 1 rfl) ?_
  refine lv_iconst (v := 1) hx hb d_law_317 (by decide) ?_
  refine lv_iadd hx hb d_law_318 ?_
  refine lv_topi (fun z3 ez3 => ?_)
  obtain rfl : z3 = 1 := ez3.trans (by decide)
  refine va_sld hx hb hX hbl hbA hS (by unfold vp_in; decide) d_law_319 ?_
  refine W.eq (g2 := F0 m 320 ls [.int (xs 1), .ref qm]) rfl ?_
  refine xc_V (As := [.int (xs 1)]) (rest := []) (n := 1) (wc := [(qm, .inr (7, [.int 0, .int 0, .int 0, .int 0, .int 0, .int 0, .int (-1), .int (-1), .int 0, .int 0, .int 0, .int 0, .int 0, .int 0, .int 0, .int 0, .ref (qb 0), .ref (qb 1), .ref (qb 2), .ref (qb 3), .int 0, .ref (qb 4), .ref (qb 5), .ref (qb 6), .ref (qb 7), .ref (qb 8), .ref (qb 9), .ref (qb 10), .ref (qb 11), .ref (qb 12), .ref (qb 13), .ref (qb 14), .ref (qb 15), .ref (qb 16), .ref (qb 17), .ref (qb 18), .ref (qb 19), .ref (qb 20), .int 0, .int 0, .int 0, .int 0, .long 0, .long 0, .long 0, .long 0, .long 0, .ref (qb 21), .int 0, .int 0, .int 0, .int 0]))]) (wr := [(qo, .inl (cj, 1, .inr (.inl (fun _ => 0))))]) (tc := []) (tr := [(cj, .long)]) ⟨hx, hb, hml, hown, hts⟩ (c_Mo_fault_b l D qm qb (xs 1) h1 h2 H.size) rfl rfl w_503 w_500 w_501 w_502 w_8 (by decide +kernel) ⟨Nat.le_of_ble_eq_true rfl, Nat.le_of_ble_eq_true rfl⟩ hP hD hK hS hA hN hZ [0] [1] rfl rfl (by decide) (by decide) (by decide) [] [0] rfl rfl (ci := 7) (q0 := 0) (q := (R_Mo, F_Mo, 52)) rfl rfl rfl rfl hl.1 rfl (Nat.le_of_ble_eq_true rfl) d_law_320 ⟨Nat.le_of_ble_eq_true rfl, Nat.le_of_ble_eq_true rfl⟩ (fun u4 H locs hP hD hK hS => ?_)
  have hP : va_P D cls [(qo, .inl (cj, 1, .inr (.inl (fun _ => 0)))), (qm, .inr (7, [.int 1, .int 0, .int 0, .int 0, .int 0, .int 0, .int (-1), .int (-1), .int 0, .int 0, .int 0, .int 0, .int 0, .int 0, .int 0, .int 0, .ref (qb 0), .ref (qb 1), .ref (qb 2), .ref (qb 3), .int 0, .ref (qb 4), .ref (qb 5), .ref (qb 6), .ref (qb 7), .ref (qb 8), .ref (qb 9), .ref (qb 10), .ref (qb 11), .ref (qb 12), .ref (qb 13), .ref (qb 14), .ref (qb 15), .ref (qb 16), .ref (qb 17), .ref (qb 18), .ref (qb 19), .ref (qb 20), .int 0, .int 0, .int 0, .int 0, .long 0, .long 0, .long 0, .long 0, .long 0, .ref (qb 21), .int 0, .int 0, .int 0, .int 0]))] H := hP
  have hD : va_D A [(qo, .inl (cj, 1, .inr (.inl (fun _ => 0)))), (qm, .inr (7, [.int 1, .int 0, .int 0, .int 0, .int 0, .int 0, .int (-1), .int (-1), .int 0, .int 0, .int 0, .int 0, .int 0, .int 0, .int 0, .int 0, .ref (qb 0), .ref (qb 1), .ref (qb 2), .ref (qb 3), .int 0, .ref (qb 4), .ref (qb 5), .ref (qb 6), .ref (qb 7), .ref (qb 8), .ref (qb 9), .ref (qb 10), .ref (qb 11), .ref (qb 12), .ref (qb 13), .ref (qb 14), .ref (qb 15), .ref (qb 16), .ref (qb 17), .ref (qb 18), .ref (qb 19), .ref (qb 20), .int 0, .int 0, .int 0, .int 0, .long 0, .long 0, .long 0, .long 0, .long 0, .ref (qb 21), .int 0, .int 0, .int 0, .int 0]))] := hD
  have hK : va_K D cls [(cj, .long)] s := hK
  refine W.eq (g2 := F0 m 323 ls [.int 0]) rfl ?_
  refine lv_istore (lv' := [(6, .int 0), (5, .int 1), (4, .int 0), (3, .ref qo), (2, .ref qm), (1, .ref qx), (0, .ref b)]) hx hb d_law_323 hl (by decide) rfl (fun ls hl => ?_)
  refine lv_aload_n hx hb d_law_325 rfl (lv_at hl 4 rfl) ?_
  refine xc_V (As := []) (rest := []) (n := 0) (wc := [(qm, .inr (7, [.int 1, .int 0, .int 0, .int 0, .int 0, .int 0, .int (-1), .int (-1), .int 0, .int 0, .int 0, .int 0, .int 0, .int 0, .int 0, .int 0, .ref (qb 0), .ref (qb 1), .ref (qb 2), .ref (qb 3), .int 0, .ref (qb 4), .ref (qb 5), .ref (qb 6), .ref (qb 7), .ref (qb 8), .ref (qb 9), .ref (qb 10), .ref (qb 11), .ref (qb 12), .ref (qb 13), .ref (qb 14), .ref (qb 15), .ref (qb 16), .ref (qb 17), .ref (qb 18), .ref (qb 19), .ref (qb 20), .int 0, .int 0, .int 0, .int 0, .long 0, .long 0, .long 0, .long 0, .long 0, .ref (qb 21), .int 0, .int 0, .int 0, .int 0]))]) (wr := [(qo, .inl (cj, 1, .inr (.inl (fun _ => 0))))]) (tc := []) (tr := [(cj, .long)]) ⟨hx, hb, hml, hown, hts⟩ (c_Mo_thrown_1 l D qm qb H.size) rfl rfl w_445 w_442 w_443 w_444 w_8 (by decide +kernel) ⟨Nat.le_of_ble_eq_true rfl, Nat.le_of_ble_eq_true rfl⟩ hP hD hK hS hA hN hZ [1] [0] rfl rfl (by decide) (by decide) (by decide) [] [0] rfl rfl (ci := 7) (q0 := 0) (q := (R_Mo, F_Mo, 52)) rfl rfl rfl rfl hl.1 rfl (Nat.le_of_ble_eq_true rfl) d_law_326 ⟨Nat.le_of_ble_eq_true rfl, Nat.le_of_ble_eq_true rfl⟩ (fun u5 H locs hP hD hK hS => ?_)
  have hP : va_P D cls [(qo, .inl (cj, 1, .inr (.inl (fun _ => 0)))), (qm, .inr (7, [.int 1, .int 0, .int 0, .int 0, .int 0, .int 0, .int (-1), .int (-1), .int 0, .int 0, .int 0, .int 0, .int 0, .int 0, .int 0, .int 0, .ref (qb 0), .ref (qb 1), .ref (qb 2), .ref (qb 3), .int 0, .ref (qb 4), .ref (qb 5), .ref (qb 6), .ref (qb 7), .ref (qb 8), .ref (qb 9), .ref (qb 10), .ref (qb 11), .ref (qb 12), .ref (qb 13), .ref (qb 14), .ref (qb 15), .ref (qb 16), .ref (qb 17), .ref (qb 18), .ref (qb 19), .ref (qb 20), .int 0, .int 0, .int 0, .int 0, .long 0, .long 0, .long 0, .long 0, .long 0, .ref (qb 21), .int 0, .int 0, .int 0, .int 0]))] H := hP
  have hD : va_D A [(qo, .inl (cj, 1, .inr (.inl (fun _ => 0)))), (qm, .inr (7, [.int 1, .int 0, .int 0, .int 0, .int 0, .int 0, .int (-1), .int (-1), .int 0, .int 0, .int 0, .int 0, .int 0, .int 0, .int 0, .int 0, .ref (qb 0), .ref (qb 1), .ref (qb 2), .ref (qb 3), .int 0, .ref (qb 4), .ref (qb 5), .ref (qb 6), .ref (qb 7), .ref (qb 8), .ref (qb 9), .ref (qb 10), .ref (qb 11), .ref (qb 12), .ref (qb 13), .ref (qb 14), .ref (qb 15), .ref (qb 16), .ref (qb 17), .ref (qb 18), .ref (qb 19), .ref (qb 20), .int 0, .int 0, .int 0, .int 0, .long 0, .long 0, .long 0, .long 0, .long 0, .ref (qb 21), .int 0, .int 0, .int 0, .int 0]))] := hD
  have hK : va_K D cls [(cj, .long)] s := hK
  refine W.eq (g2 := F0 m 329 ls [.int 1]) rfl ?_
  refine lv_iload hx hb d_law_329 (lv_at hl 1 rfl) ?_
  refine lv_icmp_eq (tgt := 336) hx hb d_law_331 (by decide) (fun _ => ?_) (fun q9 => absurd (by decide : ((1 : Int32) = 1)) q9)
  refine lv_iload hx hb d_law_336 (lv_at hl 1 rfl) ?_
  refine lv_if_ne (tgt := 353) hx hb d_law_338 (by decide) (fun _ => ?_) (fun q9 => absurd q9 (by decide : ¬ ((1 : Int32) = 0)))
  refine lv_goto (tgt := 1005) hx hb d_law_353 (by decide) ?_
  exact law_tail C0 hA hAf hS (Nat.le_of_ble_eq_true rfl) (Nat.le_of_ble_eq_true rfl) (lv_sub hl [6, 2] rfl)

theorem d_law_356 : decode code 356 = .ok (.aload_n 1, 1) := by decide +kernel
theorem d_law_357 : decode code 357 = .ok (.aload_n 0, 1) := by decide +kernel
theorem d_law_358 : decode code 358 = .ok (.iload 4, 2) := by decide +kernel
theorem d_law_360 : decode code 360 = .ok (.iconst 1, 1) := by decide +kernel
theorem d_law_361 : decode code 361 = .ok (.iadd, 1) := by decide +kernel
theorem d_law_362 : decode code 362 = .ok (.iaload, 1) := by decide +kernel
theorem d_law_363 : decode code 363 = .ok (.aload_n 0, 1) := by decide +kernel
theorem d_law_364 : decode code 364 = .ok (.iload 4, 2) := by decide +kernel
theorem d_law_366 : decode code 366 = .ok (.iconst 2, 1) := by decide +kernel
theorem d_law_367 : decode code 367 = .ok (.iadd, 1) := by decide +kernel
theorem d_law_368 : decode code 368 = .ok (.iaload, 1) := by decide +kernel
theorem d_law_369 : decode code 369 = .ok (.aload_n 3, 1) := by decide +kernel
theorem d_law_370 : decode code 370 = .ok (.invokestatic 83, 3) := by decide +kernel
theorem d_law_373 : decode code 373 = .ok (.istore 5, 2) := by decide +kernel
theorem d_law_375 : decode code 375 = .ok (.aload_n 2, 1) := by decide +kernel
theorem d_law_376 : decode code 376 = .ok (.aload_n 0, 1) := by decide +kernel
theorem d_law_377 : decode code 377 = .ok (.iload 4, 2) := by decide +kernel
theorem d_law_379 : decode code 379 = .ok (.iconst 1, 1) := by decide +kernel
theorem d_law_380 : decode code 380 = .ok (.iadd, 1) := by decide +kernel
theorem d_law_381 : decode code 381 = .ok (.iaload, 1) := by decide +kernel
theorem d_law_382 : decode code 382 = .ok (.aload_n 0, 1) := by decide +kernel
theorem d_law_383 : decode code 383 = .ok (.iload 4, 2) := by decide +kernel
theorem d_law_385 : decode code 385 = .ok (.iconst 2, 1) := by decide +kernel
theorem d_law_386 : decode code 386 = .ok (.iadd, 1) := by decide +kernel
theorem d_law_387 : decode code 387 = .ok (.iaload, 1) := by decide +kernel
theorem d_law_388 : decode code 388 = .ok (.invokevirtual 86, 3) := by decide +kernel
theorem d_law_391 : decode code 391 = .ok (.istore 6, 2) := by decide +kernel
theorem d_law_393 : decode code 393 = .ok (.aload_n 2, 1) := by decide +kernel
theorem d_law_394 : decode code 394 = .ok (.invokevirtual 69, 3) := by decide +kernel
theorem d_law_397 : decode code 397 = .ok (.iload 5, 2) := by decide +kernel
theorem d_law_399 : decode code 399 = .ok (.if_icmp .eq 5, 3) := by decide +kernel
theorem d_law_404 : decode code 404 = .ok (.iload 5, 2) := by decide +kernel
theorem d_law_406 : decode code 406 = .ok (.ifCond .ne 15, 3) := by decide +kernel
theorem d_law_421 : decode code 421 = .ok (.goto 584, 3) := by decide +kernel
set_option maxHeartbeats 4000000 in
set_option maxRecDepth 100000 in
theorem l_size_n {p : Program} {l : Launch} {e : Env} {s : State} {m : MethodId} {below : List Frame} {meth : Method} {c : Code} {b : Nat} {xs : Nat → Int32} (htr : l.stackTraces = false) (C0 : lw_At p s m meth c b 5 xs) {A : Nat → Prop} (hA : ∀ q, s.heap.size ≤ q → A q) (hAf : ∀ q, A q → s.heap.size ≤ q) (hN : xN s) (hZ : xZ A s s.heap) {D : va_G} {qx qm qo : Nat} {cj : ClassId} {qa qb : Nat → Nat} {qk ql : Nat → ClassId} {uf : Nat → Option Nat} {H : Heap} {locs : List Loc} (hk : xs 1 < 0) (hP : va_P D cls (lawW qx qm qo cj qa qb qk ql uf) H) (hD : va_D A (lawW qx qm qo cj qa qb qk ql uf)) (hK : va_K D cls (lawT cj qk ql) s) (hS : va_S A s.heap H locs) {ls : Array Slot} (hl : lv_has ls 7 [(4, .int 0), (3, .ref qo), (2, .ref qm), (1, .ref qx), (0, .ref b)]) : W p l e room_1 s m #[Value.ref b] below meth c H locs 223 300058 (lw_Z below #[Value.ref b] s) (F0 m 356 ls []) := by
  obtain ⟨hx, hb, hr, hml, hown, hts0, hX, hbl, hlocks, hgv⟩ := id C0
  have hown : s.vm.findClass "ObjectForgeLaw" = some m.cls := hown
  have hbA : ¬ A b := fun h => absurd (hAf b h) (Nat.not_le.mpr hbl)
  have hts : ∀ w ∈ bw, w.before #[Value.ref b] s = true := fun w h => hts0 w (bw_in w h)
  have hP : va_P D cls [(qx, .inr (0, [.ref (qa 0), .ref (qa 1), .ref (qa 2), .int 0])), (qm, .inr (7, [.int 0, .int 0, .int 0, .int 0, .int 0, .int 0, .int (-1), .int (-1), .int 0, .int 0, .int 0, .int 0, .int 0, .int 0, .int 0, .int 0, .ref (qb 0), .ref (qb 1), .ref (qb 2), .ref (qb 3), .int 0, .ref (qb 4), .ref (qb 5), .ref (qb 6), .ref (qb 7), .ref (qb 8), .ref (qb 9), .ref (qb 10), .ref (qb 11), .ref (qb 12), .ref (qb 13), .ref (qb 14), .ref (qb 15), .ref (qb 16), .ref (qb 17), .ref (qb 18), .ref (qb 19), .ref (qb 20), .int 0, .int 0, .int 0, .int 0, .long 0, .long 0, .long 0, .long 0, .long 0, .ref (qb 21), .int 0, .int 0, .int 0, .int 0])), (qo, .inl (cj, 1, .inr (.inl (fun _ => 0))))] H := hP.sub [0, 10, 15] rfl
  have hD : va_D A [(qx, .inr (0, [.ref (qa 0), .ref (qa 1), .ref (qa 2), .int 0])), (qm, .inr (7, [.int 0, .int 0, .int 0, .int 0, .int 0, .int 0, .int (-1), .int (-1), .int 0, .int 0, .int 0, .int 0, .int 0, .int 0, .int 0, .int 0, .ref (qb 0), .ref (qb 1), .ref (qb 2), .ref (qb 3), .int 0, .ref (qb 4), .ref (qb 5), .ref (qb 6), .ref (qb 7), .ref (qb 8), .ref (qb 9), .ref (qb 10), .ref (qb 11), .ref (qb 12), .ref (qb 13), .ref (qb 14), .ref (qb 15), .ref (qb 16), .ref (qb 17), .ref (qb 18), .ref (qb 19), .ref (qb 20), .int 0, .int 0, .int 0, .int 0, .long 0, .long 0, .long 0, .long 0, .long 0, .ref (qb 21), .int 0, .int 0, .int 0, .int 0])), (qo, .inl (cj, 1, .inr (.inl (fun _ => 0))))] := hD.sub [0, 10, 15] (by decide) rfl
  have hK : va_K D cls [(cj, .long)] s := hK.sub [7] rfl
  refine lv_aload_n hx hb d_law_356 rfl (lv_at hl 3 rfl) ?_
  refine lv_aload_n hx hb d_law_357 rfl (lv_at hl 4 rfl) ?_
  refine lv_iload hx hb d_law_358 (lv_at hl 0 rfl) ?_
  refine lv_iconst (v := 1) hx hb d_law_360 (by decide) ?_
  refine lv_iadd hx hb d_law_361 ?_
  refine lv_topi (fun z1 ez1 => ?_)
  obtain rfl : z1 = 1 := ez1.trans (by decide)
  refine va_sld hx hb hX hbl hbA hS (by unfold vp_in; decide) d_law_362 ?_
  refine W.eq (g2 := F0 m 363 ls [.int (xs 1), .ref qx]) rfl ?_
  refine lv_aload_n hx hb d_law_363 rfl (lv_at hl 4 rfl) ?_
  refine lv_iload hx hb d_law_364 (lv_at hl 0 rfl) ?_
  refine lv_iconst (v := 2) hx hb d_law_366 (by decide) ?_
  refine lv_iadd hx hb d_law_367 ?_
  refine lv_topi (fun z2 ez2 => ?_)
  obtain rfl : z2 = 2 := ez2.trans (by decide)
  refine va_sld hx hb hX hbl hbA hS (by unfold vp_in; decide) d_law_368 ?_
  refine W.eq (g2 := F0 m 369 ls [.int (xs 2), .int (xs 1), .ref qx]) rfl ?_
  refine lv_aload_n hx hb d_law_369 rfl (lv_at hl 1 rfl) ?_
  refine xc_SW (As := [.ref qx, .int (xs 1), .int (xs 2), .ref qo]) (rest := []) (n := 4) (wc := [(qx, .inr (0, [.ref (qa 0), .ref (qa 1), .ref (qa 2), .int 0])), (qo, .inl (cj, 1, .inr (.inl (fun _ => 0))))]) (wr := [(qm, .inr (7, [.int 0, .int 0, .int 0, .int 0, .int 0, .int 0, .int (-1), .int (-1), .int 0, .int 0, .int 0, .int 0, .int 0, .int 0, .int 0, .int 0, .ref (qb 0), .ref (qb 1), .ref (qb 2), .ref (qb 3), .int 0, .ref (qb 4), .ref (qb 5), .ref (qb 6), .ref (qb 7), .ref (qb 8), .ref (qb 9), .ref (qb 10), .ref (qb 11), .ref (qb 12), .ref (qb 13), .ref (qb 14), .ref (qb 15), .ref (qb 16), .ref (qb 17), .ref (qb 18), .ref (qb 19), .ref (qb 20), .int 0, .int 0, .int 0, .int 0, .long 0, .long 0, .long 0, .long 0, .long 0, .ref (qb 21), .int 0, .int 0, .int 0, .int 0]))]) (tc := [(cj, .long)]) (tr := []) ⟨hx, hb, hml, hown, hts⟩ (c_La_size_n l htr D qx qo cj qa qk (xs 1) (xs 2) hk H.size) rfl rfl w_316 w_314 w_315 w_0 (by decide +kernel) ⟨Nat.le_of_ble_eq_true rfl, Nat.le_of_ble_eq_true rfl⟩ hP hD hK hS hA hN hZ [0, 2] [1] rfl rfl (by decide) (by decide) (by decide) [0] [] rfl rfl rfl hl.1 rfl (Nat.le_of_ble_eq_true rfl) d_law_370 ⟨Nat.le_of_ble_eq_true rfl, Nat.le_of_ble_eq_true rfl⟩ (fun u3 H locs hP hD hK hS => ?_)
  have hP : va_P D cls [(qm, .inr (7, [.int 0, .int 0, .int 0, .int 0, .int 0, .int 0, .int (-1), .int (-1), .int 0, .int 0, .int 0, .int 0, .int 0, .int 0, .int 0, .int 0, .ref (qb 0), .ref (qb 1), .ref (qb 2), .ref (qb 3), .int 0, .ref (qb 4), .ref (qb 5), .ref (qb 6), .ref (qb 7), .ref (qb 8), .ref (qb 9), .ref (qb 10), .ref (qb 11), .ref (qb 12), .ref (qb 13), .ref (qb 14), .ref (qb 15), .ref (qb 16), .ref (qb 17), .ref (qb 18), .ref (qb 19), .ref (qb 20), .int 0, .int 0, .int 0, .int 0, .long 0, .long 0, .long 0, .long 0, .long 0, .ref (qb 21), .int 0, .int 0, .int 0, .int 0])), (qo, .inl (cj, 1, .inr (.inl (fun _ => 0))))] H := hP
  have hD : va_D A [(qm, .inr (7, [.int 0, .int 0, .int 0, .int 0, .int 0, .int 0, .int (-1), .int (-1), .int 0, .int 0, .int 0, .int 0, .int 0, .int 0, .int 0, .int 0, .ref (qb 0), .ref (qb 1), .ref (qb 2), .ref (qb 3), .int 0, .ref (qb 4), .ref (qb 5), .ref (qb 6), .ref (qb 7), .ref (qb 8), .ref (qb 9), .ref (qb 10), .ref (qb 11), .ref (qb 12), .ref (qb 13), .ref (qb 14), .ref (qb 15), .ref (qb 16), .ref (qb 17), .ref (qb 18), .ref (qb 19), .ref (qb 20), .int 0, .int 0, .int 0, .int 0, .long 0, .long 0, .long 0, .long 0, .long 0, .ref (qb 21), .int 0, .int 0, .int 0, .int 0])), (qo, .inl (cj, 1, .inr (.inl (fun _ => 0))))] := hD
  have hK : va_K D cls [(cj, .long)] s := hK
  refine W.widen (k := 224) (n := 300064) (by omega) (by omega) ?_
  refine W.eq (g2 := F0 m 373 ls [.int 1]) rfl ?_
  refine lv_istore (lv' := [(5, .int 1), (4, .int 0), (3, .ref qo), (2, .ref qm), (1, .ref qx), (0, .ref b)]) hx hb d_law_373 hl (by decide) rfl (fun ls hl => ?_)
  refine lv_aload_n hx hb d_law_375 rfl (lv_at hl 3 rfl) ?_
  refine lv_aload_n hx hb d_law_376 rfl (lv_at hl 5 rfl) ?_
  refine lv_iload hx hb d_law_377 (lv_at hl 1 rfl) ?_
  refine lv_iconst (v := 1) hx hb d_law_379 (by decide) ?_
  refine lv_iadd hx hb d_law_380 ?_
  refine lv_topi (fun z4 ez4 => ?_)
  obtain rfl : z4 = 1 := ez4.trans (by decide)
  refine va_sld hx hb hX hbl hbA hS (by unfold vp_in; decide) d_law_381 ?_
  refine W.eq (g2 := F0 m 382 ls [.int (xs 1), .ref qm]) rfl ?_
  refine lv_aload_n hx hb d_law_382 rfl (lv_at hl 5 rfl) ?_
  refine lv_iload hx hb d_law_383 (lv_at hl 1 rfl) ?_
  refine lv_iconst (v := 2) hx hb d_law_385 (by decide) ?_
  refine lv_iadd hx hb d_law_386 ?_
  refine lv_topi (fun z5 ez5 => ?_)
  obtain rfl : z5 = 2 := ez5.trans (by decide)
  refine va_sld hx hb hX hbl hbA hS (by unfold vp_in; decide) d_law_387 ?_
  refine W.eq (g2 := F0 m 388 ls [.int (xs 2), .int (xs 1), .ref qm]) rfl ?_
  refine xc_V (As := [.int (xs 1), .int (xs 2)]) (rest := []) (n := 2) (wc := [(qm, .inr (7, [.int 0, .int 0, .int 0, .int 0, .int 0, .int 0, .int (-1), .int (-1), .int 0, .int 0, .int 0, .int 0, .int 0, .int 0, .int 0, .int 0, .ref (qb 0), .ref (qb 1), .ref (qb 2), .ref (qb 3), .int 0, .ref (qb 4), .ref (qb 5), .ref (qb 6), .ref (qb 7), .ref (qb 8), .ref (qb 9), .ref (qb 10), .ref (qb 11), .ref (qb 12), .ref (qb 13), .ref (qb 14), .ref (qb 15), .ref (qb 16), .ref (qb 17), .ref (qb 18), .ref (qb 19), .ref (qb 20), .int 0, .int 0, .int 0, .int 0, .long 0, .long 0, .long 0, .long 0, .long 0, .ref (qb 21), .int 0, .int 0, .int 0, .int 0]))]) (wr := [(qo, .inl (cj, 1, .inr (.inl (fun _ => 0))))]) (tc := []) (tr := [(cj, .long)]) ⟨hx, hb, hml, hown, hts⟩ (c_Mo_size_n l D qm qb (xs 1) (xs 2) hk H.size) rfl rfl w_507 w_504 w_505 w_506 w_8 (by decide +kernel) ⟨Nat.le_of_ble_eq_true rfl, Nat.le_of_ble_eq_true rfl⟩ hP hD hK hS hA hN hZ [0] [1] rfl rfl (by decide) (by decide) (by decide) [] [0] rfl rfl (ci := 7) (q0 := 0) (q := (R_Mo, F_Mo, 52)) rfl rfl rfl rfl hl.1 rfl (Nat.le_of_ble_eq_true rfl) d_law_388 ⟨Nat.le_of_ble_eq_true rfl, Nat.le_of_ble_eq_true rfl⟩ (fun u6 H locs hP hD hK hS => ?_)
  have hP : va_P D cls [(qo, .inl (cj, 1, .inr (.inl (fun _ => 0)))), (qm, .inr (7, [.int 1, .int 0, .int 0, .int 0, .int 0, .int 0, .int (-1), .int (-1), .int 0, .int 0, .int 0, .int 0, .int 0, .int 0, .int 0, .int 0, .ref (qb 0), .ref (qb 1), .ref (qb 2), .ref (qb 3), .int 0, .ref (qb 4), .ref (qb 5), .ref (qb 6), .ref (qb 7), .ref (qb 8), .ref (qb 9), .ref (qb 10), .ref (qb 11), .ref (qb 12), .ref (qb 13), .ref (qb 14), .ref (qb 15), .ref (qb 16), .ref (qb 17), .ref (qb 18), .ref (qb 19), .ref (qb 20), .int 0, .int 0, .int 0, .int 0, .long 0, .long 0, .long 0, .long 0, .long 0, .ref (qb 21), .int 0, .int 0, .int 0, .int 0]))] H := hP
  have hD : va_D A [(qo, .inl (cj, 1, .inr (.inl (fun _ => 0)))), (qm, .inr (7, [.int 1, .int 0, .int 0, .int 0, .int 0, .int 0, .int (-1), .int (-1), .int 0, .int 0, .int 0, .int 0, .int 0, .int 0, .int 0, .int 0, .ref (qb 0), .ref (qb 1), .ref (qb 2), .ref (qb 3), .int 0, .ref (qb 4), .ref (qb 5), .ref (qb 6), .ref (qb 7), .ref (qb 8), .ref (qb 9), .ref (qb 10), .ref (qb 11), .ref (qb 12), .ref (qb 13), .ref (qb 14), .ref (qb 15), .ref (qb 16), .ref (qb 17), .ref (qb 18), .ref (qb 19), .ref (qb 20), .int 0, .int 0, .int 0, .int 0, .long 0, .long 0, .long 0, .long 0, .long 0, .ref (qb 21), .int 0, .int 0, .int 0, .int 0]))] := hD
  have hK : va_K D cls [(cj, .long)] s := hK
  refine W.eq (g2 := F0 m 391 ls [.int 0]) rfl ?_
  refine lv_istore (lv' := [(6, .int 0), (5, .int 1), (4, .int 0), (3, .ref qo), (2, .ref qm), (1, .ref qx), (0, .ref b)]) hx hb d_law_391 hl (by decide) rfl (fun ls hl => ?_)
  refine lv_aload_n hx hb d_law_393 rfl (lv_at hl 4 rfl) ?_
  refine xc_V (As := []) (rest := []) (n := 0) (wc := [(qm, .inr (7, [.int 1, .int 0, .int 0, .int 0, .int 0, .int 0, .int (-1), .int (-1), .int 0, .int 0, .int 0, .int 0, .int 0, .int 0, .int 0, .int 0, .ref (qb 0), .ref (qb 1), .ref (qb 2), .ref (qb 3), .int 0, .ref (qb 4), .ref (qb 5), .ref (qb 6), .ref (qb 7), .ref (qb 8), .ref (qb 9), .ref (qb 10), .ref (qb 11), .ref (qb 12), .ref (qb 13), .ref (qb 14), .ref (qb 15), .ref (qb 16), .ref (qb 17), .ref (qb 18), .ref (qb 19), .ref (qb 20), .int 0, .int 0, .int 0, .int 0, .long 0, .long 0, .long 0, .long 0, .long 0, .ref (qb 21), .int 0, .int 0, .int 0, .int 0]))]) (wr := [(qo, .inl (cj, 1, .inr (.inl (fun _ => 0))))]) (tc := []) (tr := [(cj, .long)]) ⟨hx, hb, hml, hown, hts⟩ (c_Mo_thrown_1 l D qm qb H.size) rfl rfl w_445 w_442 w_443 w_444 w_8 (by decide +kernel) ⟨Nat.le_of_ble_eq_true rfl, Nat.le_of_ble_eq_true rfl⟩ hP hD hK hS hA hN hZ [1] [0] rfl rfl (by decide) (by decide) (by decide) [] [0] rfl rfl (ci := 7) (q0 := 0) (q := (R_Mo, F_Mo, 52)) rfl rfl rfl rfl hl.1 rfl (Nat.le_of_ble_eq_true rfl) d_law_394 ⟨Nat.le_of_ble_eq_true rfl, Nat.le_of_ble_eq_true rfl⟩ (fun u7 H locs hP hD hK hS => ?_)
  have hP : va_P D cls [(qo, .inl (cj, 1, .inr (.inl (fun _ => 0)))), (qm, .inr (7, [.int 1, .int 0, .int 0, .int 0, .int 0, .int 0, .int (-1), .int (-1), .int 0, .int 0, .int 0, .int 0, .int 0, .int 0, .int 0, .int 0, .ref (qb 0), .ref (qb 1), .ref (qb 2), .ref (qb 3), .int 0, .ref (qb 4), .ref (qb 5), .ref (qb 6), .ref (qb 7), .ref (qb 8), .ref (qb 9), .ref (qb 10), .ref (qb 11), .ref (qb 12), .ref (qb 13), .ref (qb 14), .ref (qb 15), .ref (qb 16), .ref (qb 17), .ref (qb 18), .ref (qb 19), .ref (qb 20), .int 0, .int 0, .int 0, .int 0, .long 0, .long 0, .long 0, .long 0, .long 0, .ref (qb 21), .int 0, .int 0, .int 0, .int 0]))] H := hP
  have hD : va_D A [(qo, .inl (cj, 1, .inr (.inl (fun _ => 0)))), (qm, .inr (7, [.int 1, .int 0, .int 0, .int 0, .int 0, .int 0, .int (-1), .int (-1), .int 0, .int 0, .int 0, .int 0, .int 0, .int 0, .int 0, .int 0, .ref (qb 0), .ref (qb 1), .ref (qb 2), .ref (qb 3), .int 0, .ref (qb 4), .ref (qb 5), .ref (qb 6), .ref (qb 7), .ref (qb 8), .ref (qb 9), .ref (qb 10), .ref (qb 11), .ref (qb 12), .ref (qb 13), .ref (qb 14), .ref (qb 15), .ref (qb 16), .ref (qb 17), .ref (qb 18), .ref (qb 19), .ref (qb 20), .int 0, .int 0, .int 0, .int 0, .long 0, .long 0, .long 0, .long 0, .long 0, .ref (qb 21), .int 0, .int 0, .int 0, .int 0]))] := hD
  have hK : va_K D cls [(cj, .long)] s := hK
  refine W.eq (g2 := F0 m 397 ls [.int 1]) rfl ?_
  refine lv_iload hx hb d_law_397 (lv_at hl 1 rfl) ?_
  refine lv_icmp_eq (tgt := 404) hx hb d_law_399 (by decide) (fun _ => ?_) (fun q9 => absurd (by decide : ((1 : Int32) = 1)) q9)
  refine lv_iload hx hb d_law_404 (lv_at hl 1 rfl) ?_
  refine lv_if_ne (tgt := 421) hx hb d_law_406 (by decide) (fun _ => ?_) (fun q9 => absurd q9 (by decide : ¬ ((1 : Int32) = 0)))
  refine lv_goto (tgt := 1005) hx hb d_law_421 (by decide) ?_
  exact law_tail C0 hA hAf hS (Nat.le_of_ble_eq_true rfl) (Nat.le_of_ble_eq_true rfl) (lv_sub hl [6, 2] rfl)

set_option maxHeartbeats 4000000 in
set_option maxRecDepth 100000 in
theorem l_size_g {p : Program} {l : Launch} {e : Env} {s : State} {m : MethodId} {below : List Frame} {meth : Method} {c : Code} {b : Nat} {xs : Nat → Int32} (htr : l.stackTraces = false) (C0 : lw_At p s m meth c b 5 xs) {A : Nat → Prop} (hA : ∀ q, s.heap.size ≤ q → A q) (hAf : ∀ q, A q → s.heap.size ≤ q) (hN : xN s) (hZ : xZ A s s.heap) {D : va_G} {qx qm qo : Nat} {cj : ClassId} {qa qb : Nat → Nat} {qk ql : Nat → ClassId} {uf : Nat → Option Nat} {H : Heap} {locs : List Loc} (hk : ¬ xs 1 < 0) (hP : va_P D cls (lawW qx qm qo cj qa qb qk ql uf) H) (hD : va_D A (lawW qx qm qo cj qa qb qk ql uf)) (hK : va_K D cls (lawT cj qk ql) s) (hS : va_S A s.heap H locs) {ls : Array Slot} (hl : lv_has ls 7 [(4, .int 0), (3, .ref qo), (2, .ref qm), (1, .ref qx), (0, .ref b)]) : W p l e room_1 s m #[Value.ref b] below meth c H locs 223 300058 (lw_Z below #[Value.ref b] s) (F0 m 356 ls []) := by
  obtain ⟨hx, hb, hr, hml, hown, hts0, hX, hbl, hlocks, hgv⟩ := id C0
  have hown : s.vm.findClass "ObjectForgeLaw" = some m.cls := hown
  have hbA : ¬ A b := fun h => absurd (hAf b h) (Nat.not_le.mpr hbl)
  have hts : ∀ w ∈ bw, w.before #[Value.ref b] s = true := fun w h => hts0 w (bw_in w h)
  have hP : va_P D cls [(qx, .inr (0, [.ref (qa 0), .ref (qa 1), .ref (qa 2), .int 0])), (qm, .inr (7, [.int 0, .int 0, .int 0, .int 0, .int 0, .int 0, .int (-1), .int (-1), .int 0, .int 0, .int 0, .int 0, .int 0, .int 0, .int 0, .int 0, .ref (qb 0), .ref (qb 1), .ref (qb 2), .ref (qb 3), .int 0, .ref (qb 4), .ref (qb 5), .ref (qb 6), .ref (qb 7), .ref (qb 8), .ref (qb 9), .ref (qb 10), .ref (qb 11), .ref (qb 12), .ref (qb 13), .ref (qb 14), .ref (qb 15), .ref (qb 16), .ref (qb 17), .ref (qb 18), .ref (qb 19), .ref (qb 20), .int 0, .int 0, .int 0, .int 0, .long 0, .long 0, .long 0, .long 0, .long 0, .ref (qb 21), .int 0, .int 0, .int 0, .int 0])), (qo, .inl (cj, 1, .inr (.inl (fun _ => 0))))] H := hP.sub [0, 10, 15] rfl
  have hD : va_D A [(qx, .inr (0, [.ref (qa 0), .ref (qa 1), .ref (qa 2), .int 0])), (qm, .inr (7, [.int 0, .int 0, .int 0, .int 0, .int 0, .int 0, .int (-1), .int (-1), .int 0, .int 0, .int 0, .int 0, .int 0, .int 0, .int 0, .int 0, .ref (qb 0), .ref (qb 1), .ref (qb 2), .ref (qb 3), .int 0, .ref (qb 4), .ref (qb 5), .ref (qb 6), .ref (qb 7), .ref (qb 8), .ref (qb 9), .ref (qb 10), .ref (qb 11), .ref (qb 12), .ref (qb 13), .ref (qb 14), .ref (qb 15), .ref (qb 16), .ref (qb 17), .ref (qb 18), .ref (qb 19), .ref (qb 20), .int 0, .int 0, .int 0, .int 0, .long 0, .long 0, .long 0, .long 0, .long 0, .ref (qb 21), .int 0, .int 0, .int 0, .int 0])), (qo, .inl (cj, 1, .inr (.inl (fun _ => 0))))] := hD.sub [0, 10, 15] (by decide) rfl
  have hK : va_K D cls [(cj, .long)] s := hK.sub [7] rfl
  refine lv_aload_n hx hb d_law_356 rfl (lv_at hl 3 rfl) ?_
  refine lv_aload_n hx hb d_law_357 rfl (lv_at hl 4 rfl) ?_
  refine lv_iload hx hb d_law_358 (lv_at hl 0 rfl) ?_
  refine lv_iconst (v := 1) hx hb d_law_360 (by decide) ?_
  refine lv_iadd hx hb d_law_361 ?_
  refine lv_topi (fun z1 ez1 => ?_)
  obtain rfl : z1 = 1 := ez1.trans (by decide)
  refine va_sld hx hb hX hbl hbA hS (by unfold vp_in; decide) d_law_362 ?_
  refine W.eq (g2 := F0 m 363 ls [.int (xs 1), .ref qx]) rfl ?_
  refine lv_aload_n hx hb d_law_363 rfl (lv_at hl 4 rfl) ?_
  refine lv_iload hx hb d_law_364 (lv_at hl 0 rfl) ?_
  refine lv_iconst (v := 2) hx hb d_law_366 (by decide) ?_
  refine lv_iadd hx hb d_law_367 ?_
  refine lv_topi (fun z2 ez2 => ?_)
  obtain rfl : z2 = 2 := ez2.trans (by decide)
  refine va_sld hx hb hX hbl hbA hS (by unfold vp_in; decide) d_law_368 ?_
  refine W.eq (g2 := F0 m 369 ls [.int (xs 2), .int (xs 1), .ref qx]) rfl ?_
  refine lv_aload_n hx hb d_law_369 rfl (lv_at hl 1 rfl) ?_
  refine xc_SW (As := [.ref qx, .int (xs 1), .int (xs 2), .ref qo]) (rest := []) (n := 4) (wc := [(qx, .inr (0, [.ref (qa 0), .ref (qa 1), .ref (qa 2), .int 0])), (qo, .inl (cj, 1, .inr (.inl (fun _ => 0))))]) (wr := [(qm, .inr (7, [.int 0, .int 0, .int 0, .int 0, .int 0, .int 0, .int (-1), .int (-1), .int 0, .int 0, .int 0, .int 0, .int 0, .int 0, .int 0, .int 0, .ref (qb 0), .ref (qb 1), .ref (qb 2), .ref (qb 3), .int 0, .ref (qb 4), .ref (qb 5), .ref (qb 6), .ref (qb 7), .ref (qb 8), .ref (qb 9), .ref (qb 10), .ref (qb 11), .ref (qb 12), .ref (qb 13), .ref (qb 14), .ref (qb 15), .ref (qb 16), .ref (qb 17), .ref (qb 18), .ref (qb 19), .ref (qb 20), .int 0, .int 0, .int 0, .int 0, .long 0, .long 0, .long 0, .long 0, .long 0, .ref (qb 21), .int 0, .int 0, .int 0, .int 0]))]) (tc := [(cj, .long)]) (tr := []) ⟨hx, hb, hml, hown, hts⟩ (c_La_size_g l htr D qx qo cj qa qk (xs 1) (xs 2) hk hk H.size) rfl rfl w_316 w_314 w_315 w_0 (by decide +kernel) ⟨Nat.le_of_ble_eq_true rfl, Nat.le_of_ble_eq_true rfl⟩ hP hD hK hS hA hN hZ [0, 2] [1] rfl rfl (by decide) (by decide) (by decide) [0] [] rfl rfl rfl hl.1 rfl (Nat.le_of_ble_eq_true rfl) d_law_370 ⟨Nat.le_of_ble_eq_true rfl, Nat.le_of_ble_eq_true rfl⟩ (fun u3 H locs hP hD hK hS => ?_)
  have hP : va_P D cls [(qm, .inr (7, [.int 0, .int 0, .int 0, .int 0, .int 0, .int 0, .int (-1), .int (-1), .int 0, .int 0, .int 0, .int 0, .int 0, .int 0, .int 0, .int 0, .ref (qb 0), .ref (qb 1), .ref (qb 2), .ref (qb 3), .int 0, .ref (qb 4), .ref (qb 5), .ref (qb 6), .ref (qb 7), .ref (qb 8), .ref (qb 9), .ref (qb 10), .ref (qb 11), .ref (qb 12), .ref (qb 13), .ref (qb 14), .ref (qb 15), .ref (qb 16), .ref (qb 17), .ref (qb 18), .ref (qb 19), .ref (qb 20), .int 0, .int 0, .int 0, .int 0, .long 0, .long 0, .long 0, .long 0, .long 0, .ref (qb 21), .int 0, .int 0, .int 0, .int 0])), (qo, .inl (cj, 1, .inr (.inl (fun _ => 0))))] H := hP
  have hD : va_D A [(qm, .inr (7, [.int 0, .int 0, .int 0, .int 0, .int 0, .int 0, .int (-1), .int (-1), .int 0, .int 0, .int 0, .int 0, .int 0, .int 0, .int 0, .int 0, .ref (qb 0), .ref (qb 1), .ref (qb 2), .ref (qb 3), .int 0, .ref (qb 4), .ref (qb 5), .ref (qb 6), .ref (qb 7), .ref (qb 8), .ref (qb 9), .ref (qb 10), .ref (qb 11), .ref (qb 12), .ref (qb 13), .ref (qb 14), .ref (qb 15), .ref (qb 16), .ref (qb 17), .ref (qb 18), .ref (qb 19), .ref (qb 20), .int 0, .int 0, .int 0, .int 0, .long 0, .long 0, .long 0, .long 0, .long 0, .ref (qb 21), .int 0, .int 0, .int 0, .int 0])), (qo, .inl (cj, 1, .inr (.inl (fun _ => 0))))] := hD
  have hK : va_K D cls [(cj, .long)] s := hK
  refine W.widen (k := 224) (n := 300064) (by omega) (by omega) ?_
  refine W.eq (g2 := F0 m 373 ls [.int 1]) rfl ?_
  refine lv_istore (lv' := [(5, .int 1), (4, .int 0), (3, .ref qo), (2, .ref qm), (1, .ref qx), (0, .ref b)]) hx hb d_law_373 hl (by decide) rfl (fun ls hl => ?_)
  refine lv_aload_n hx hb d_law_375 rfl (lv_at hl 3 rfl) ?_
  refine lv_aload_n hx hb d_law_376 rfl (lv_at hl 5 rfl) ?_
  refine lv_iload hx hb d_law_377 (lv_at hl 1 rfl) ?_
  refine lv_iconst (v := 1) hx hb d_law_379 (by decide) ?_
  refine lv_iadd hx hb d_law_380 ?_
  refine lv_topi (fun z4 ez4 => ?_)
  obtain rfl : z4 = 1 := ez4.trans (by decide)
  refine va_sld hx hb hX hbl hbA hS (by unfold vp_in; decide) d_law_381 ?_
  refine W.eq (g2 := F0 m 382 ls [.int (xs 1), .ref qm]) rfl ?_
  refine lv_aload_n hx hb d_law_382 rfl (lv_at hl 5 rfl) ?_
  refine lv_iload hx hb d_law_383 (lv_at hl 1 rfl) ?_
  refine lv_iconst (v := 2) hx hb d_law_385 (by decide) ?_
  refine lv_iadd hx hb d_law_386 ?_
  refine lv_topi (fun z5 ez5 => ?_)
  obtain rfl : z5 = 2 := ez5.trans (by decide)
  refine va_sld hx hb hX hbl hbA hS (by unfold vp_in; decide) d_law_387 ?_
  refine W.eq (g2 := F0 m 388 ls [.int (xs 2), .int (xs 1), .ref qm]) rfl ?_
  refine xc_V (As := [.int (xs 1), .int (xs 2)]) (rest := []) (n := 2) (wc := [(qm, .inr (7, [.int 0, .int 0, .int 0, .int 0, .int 0, .int 0, .int (-1), .int (-1), .int 0, .int 0, .int 0, .int 0, .int 0, .int 0, .int 0, .int 0, .ref (qb 0), .ref (qb 1), .ref (qb 2), .ref (qb 3), .int 0, .ref (qb 4), .ref (qb 5), .ref (qb 6), .ref (qb 7), .ref (qb 8), .ref (qb 9), .ref (qb 10), .ref (qb 11), .ref (qb 12), .ref (qb 13), .ref (qb 14), .ref (qb 15), .ref (qb 16), .ref (qb 17), .ref (qb 18), .ref (qb 19), .ref (qb 20), .int 0, .int 0, .int 0, .int 0, .long 0, .long 0, .long 0, .long 0, .long 0, .ref (qb 21), .int 0, .int 0, .int 0, .int 0]))]) (wr := [(qo, .inl (cj, 1, .inr (.inl (fun _ => 0))))]) (tc := []) (tr := [(cj, .long)]) ⟨hx, hb, hml, hown, hts⟩ (c_Mo_size_g l D qm qb (xs 1) (xs 2) hk (x_ge hk) H.size) rfl rfl w_507 w_504 w_505 w_506 w_8 (by decide +kernel) ⟨Nat.le_of_ble_eq_true rfl, Nat.le_of_ble_eq_true rfl⟩ hP hD hK hS hA hN hZ [0] [1] rfl rfl (by decide) (by decide) (by decide) [] [0] rfl rfl (ci := 7) (q0 := 0) (q := (R_Mo, F_Mo, 52)) rfl rfl rfl rfl hl.1 rfl (Nat.le_of_ble_eq_true rfl) d_law_388 ⟨Nat.le_of_ble_eq_true rfl, Nat.le_of_ble_eq_true rfl⟩ (fun u6 H locs hP hD hK hS => ?_)
  have hP : va_P D cls [(qo, .inl (cj, 1, .inr (.inl (fun _ => 0)))), (qm, .inr (7, [.int 1, .int 0, .int 0, .int 0, .int 0, .int 0, .int (-1), .int (-1), .int 0, .int 0, .int 0, .int 0, .int 0, .int 0, .int 0, .int 0, .ref (qb 0), .ref (qb 1), .ref (qb 2), .ref (qb 3), .int 0, .ref (qb 4), .ref (qb 5), .ref (qb 6), .ref (qb 7), .ref (qb 8), .ref (qb 9), .ref (qb 10), .ref (qb 11), .ref (qb 12), .ref (qb 13), .ref (qb 14), .ref (qb 15), .ref (qb 16), .ref (qb 17), .ref (qb 18), .ref (qb 19), .ref (qb 20), .int 0, .int 0, .int 0, .int 0, .long 0, .long 0, .long 0, .long 0, .long 0, .ref (qb 21), .int 0, .int 0, .int 0, .int 0]))] H := hP
  have hD : va_D A [(qo, .inl (cj, 1, .inr (.inl (fun _ => 0)))), (qm, .inr (7, [.int 1, .int 0, .int 0, .int 0, .int 0, .int 0, .int (-1), .int (-1), .int 0, .int 0, .int 0, .int 0, .int 0, .int 0, .int 0, .int 0, .ref (qb 0), .ref (qb 1), .ref (qb 2), .ref (qb 3), .int 0, .ref (qb 4), .ref (qb 5), .ref (qb 6), .ref (qb 7), .ref (qb 8), .ref (qb 9), .ref (qb 10), .ref (qb 11), .ref (qb 12), .ref (qb 13), .ref (qb 14), .ref (qb 15), .ref (qb 16), .ref (qb 17), .ref (qb 18), .ref (qb 19), .ref (qb 20), .int 0, .int 0, .int 0, .int 0, .long 0, .long 0, .long 0, .long 0, .long 0, .ref (qb 21), .int 0, .int 0, .int 0, .int 0]))] := hD
  have hK : va_K D cls [(cj, .long)] s := hK
  refine W.eq (g2 := F0 m 391 ls [.int 0]) rfl ?_
  refine lv_istore (lv' := [(6, .int 0), (5, .int 1), (4, .int 0), (3, .ref qo), (2, .ref qm), (1, .ref qx), (0, .ref b)]) hx hb d_law_391 hl (by decide) rfl (fun ls hl => ?_)
  refine lv_aload_n hx hb d_law_393 rfl (lv_at hl 4 rfl) ?_
  refine xc_V (As := []) (rest := []) (n := 0) (wc := [(qm, .inr (7, [.int 1, .int 0, .int 0, .int 0, .int 0, .int 0, .int (-1), .int (-1), .int 0, .int 0, .int 0, .int 0, .int 0, .int 0, .int 0, .int 0, .ref (qb 0), .ref (qb 1), .ref (qb 2), .ref (qb 3), .int 0, .ref (qb 4), .ref (qb 5), .ref (qb 6), .ref (qb 7), .ref (qb 8), .ref (qb 9), .ref (qb 10), .ref (qb 11), .ref (qb 12), .ref (qb 13), .ref (qb 14), .ref (qb 15), .ref (qb 16), .ref (qb 17), .ref (qb 18), .ref (qb 19), .ref (qb 20), .int 0, .int 0, .int 0, .int 0, .long 0, .long 0, .long 0, .long 0, .long 0, .ref (qb 21), .int 0, .int 0, .int 0, .int 0]))]) (wr := [(qo, .inl (cj, 1, .inr (.inl (fun _ => 0))))]) (tc := []) (tr := [(cj, .long)]) ⟨hx, hb, hml, hown, hts⟩ (c_Mo_thrown_1 l D qm qb H.size) rfl rfl w_445 w_442 w_443 w_444 w_8 (by decide +kernel) ⟨Nat.le_of_ble_eq_true rfl, Nat.le_of_ble_eq_true rfl⟩ hP hD hK hS hA hN hZ [1] [0] rfl rfl (by decide) (by decide) (by decide) [] [0] rfl rfl (ci := 7) (q0 := 0) (q := (R_Mo, F_Mo, 52)) rfl rfl rfl rfl hl.1 rfl (Nat.le_of_ble_eq_true rfl) d_law_394 ⟨Nat.le_of_ble_eq_true rfl, Nat.le_of_ble_eq_true rfl⟩ (fun u7 H locs hP hD hK hS => ?_)
  have hP : va_P D cls [(qo, .inl (cj, 1, .inr (.inl (fun _ => 0)))), (qm, .inr (7, [.int 1, .int 0, .int 0, .int 0, .int 0, .int 0, .int (-1), .int (-1), .int 0, .int 0, .int 0, .int 0, .int 0, .int 0, .int 0, .int 0, .ref (qb 0), .ref (qb 1), .ref (qb 2), .ref (qb 3), .int 0, .ref (qb 4), .ref (qb 5), .ref (qb 6), .ref (qb 7), .ref (qb 8), .ref (qb 9), .ref (qb 10), .ref (qb 11), .ref (qb 12), .ref (qb 13), .ref (qb 14), .ref (qb 15), .ref (qb 16), .ref (qb 17), .ref (qb 18), .ref (qb 19), .ref (qb 20), .int 0, .int 0, .int 0, .int 0, .long 0, .long 0, .long 0, .long 0, .long 0, .ref (qb 21), .int 0, .int 0, .int 0, .int 0]))] H := hP
  have hD : va_D A [(qo, .inl (cj, 1, .inr (.inl (fun _ => 0)))), (qm, .inr (7, [.int 1, .int 0, .int 0, .int 0, .int 0, .int 0, .int (-1), .int (-1), .int 0, .int 0, .int 0, .int 0, .int 0, .int 0, .int 0, .int 0, .ref (qb 0), .ref (qb 1), .ref (qb 2), .ref (qb 3), .int 0, .ref (qb 4), .ref (qb 5), .ref (qb 6), .ref (qb 7), .ref (qb 8), .ref (qb 9), .ref (qb 10), .ref (qb 11), .ref (qb 12), .ref (qb 13), .ref (qb 14), .ref (qb 15), .ref (qb 16), .ref (qb 17), .ref (qb 18), .ref (qb 19), .ref (qb 20), .int 0, .int 0, .int 0, .int 0, .long 0, .long 0, .long 0, .long 0, .long 0, .ref (qb 21), .int 0, .int 0, .int 0, .int 0]))] := hD
  have hK : va_K D cls [(cj, .long)] s := hK
  refine W.eq (g2 := F0 m 397 ls [.int 1]) rfl ?_
  refine lv_iload hx hb d_law_397 (lv_at hl 1 rfl) ?_
  refine lv_icmp_eq (tgt := 404) hx hb d_law_399 (by decide) (fun _ => ?_) (fun q9 => absurd (by decide : ((1 : Int32) = 1)) q9)
  refine lv_iload hx hb d_law_404 (lv_at hl 1 rfl) ?_
  refine lv_if_ne (tgt := 421) hx hb d_law_406 (by decide) (fun _ => ?_) (fun q9 => absurd q9 (by decide : ¬ ((1 : Int32) = 0)))
  refine lv_goto (tgt := 1005) hx hb d_law_421 (by decide) ?_
  exact law_tail C0 hA hAf hS (Nat.le_of_ble_eq_true rfl) (Nat.le_of_ble_eq_true rfl) (lv_sub hl [6, 2] rfl)

theorem d_law_424 : decode code 424 = .ok (.aload_n 1, 1) := by decide +kernel
theorem d_law_425 : decode code 425 = .ok (.aload_n 0, 1) := by decide +kernel
theorem d_law_426 : decode code 426 = .ok (.iload 4, 2) := by decide +kernel
theorem d_law_428 : decode code 428 = .ok (.iconst 1, 1) := by decide +kernel
theorem d_law_429 : decode code 429 = .ok (.iadd, 1) := by decide +kernel
theorem d_law_430 : decode code 430 = .ok (.iaload, 1) := by decide +kernel
theorem d_law_431 : decode code 431 = .ok (.aload_n 0, 1) := by decide +kernel
theorem d_law_432 : decode code 432 = .ok (.iload 4, 2) := by decide +kernel
theorem d_law_434 : decode code 434 = .ok (.iconst 2, 1) := by decide +kernel
theorem d_law_435 : decode code 435 = .ok (.iadd, 1) := by decide +kernel
theorem d_law_436 : decode code 436 = .ok (.iaload, 1) := by decide +kernel
theorem d_law_437 : decode code 437 = .ok (.aload_n 0, 1) := by decide +kernel
theorem d_law_438 : decode code 438 = .ok (.iload 4, 2) := by decide +kernel
theorem d_law_440 : decode code 440 = .ok (.iconst 3, 1) := by decide +kernel
theorem d_law_441 : decode code 441 = .ok (.iadd, 1) := by decide +kernel
theorem d_law_442 : decode code 442 = .ok (.iaload, 1) := by decide +kernel
theorem d_law_443 : decode code 443 = .ok (.aload_n 3, 1) := by decide +kernel
theorem d_law_444 : decode code 444 = .ok (.invokestatic 87, 3) := by decide +kernel
theorem d_law_447 : decode code 447 = .ok (.istore 5, 2) := by decide +kernel
theorem d_law_449 : decode code 449 = .ok (.aload_n 2, 1) := by decide +kernel
theorem d_law_450 : decode code 450 = .ok (.aload_n 0, 1) := by decide +kernel
theorem d_law_451 : decode code 451 = .ok (.iload 4, 2) := by decide +kernel
theorem d_law_453 : decode code 453 = .ok (.iconst 1, 1) := by decide +kernel
theorem d_law_454 : decode code 454 = .ok (.iadd, 1) := by decide +kernel
theorem d_law_455 : decode code 455 = .ok (.iaload, 1) := by decide +kernel
theorem d_law_456 : decode code 456 = .ok (.aload_n 0, 1) := by decide +kernel
theorem d_law_457 : decode code 457 = .ok (.iload 4, 2) := by decide +kernel
theorem d_law_459 : decode code 459 = .ok (.iconst 2, 1) := by decide +kernel
theorem d_law_460 : decode code 460 = .ok (.iadd, 1) := by decide +kernel
theorem d_law_461 : decode code 461 = .ok (.iaload, 1) := by decide +kernel
theorem d_law_462 : decode code 462 = .ok (.aload_n 0, 1) := by decide +kernel
theorem d_law_463 : decode code 463 = .ok (.iload 4, 2) := by decide +kernel
theorem d_law_465 : decode code 465 = .ok (.iconst 3, 1) := by decide +kernel
theorem d_law_466 : decode code 466 = .ok (.iadd, 1) := by decide +kernel
theorem d_law_467 : decode code 467 = .ok (.iaload, 1) := by decide +kernel
theorem d_law_468 : decode code 468 = .ok (.invokevirtual 90, 3) := by decide +kernel
theorem d_law_471 : decode code 471 = .ok (.istore 6, 2) := by decide +kernel
theorem d_law_473 : decode code 473 = .ok (.aload_n 2, 1) := by decide +kernel
theorem d_law_474 : decode code 474 = .ok (.invokevirtual 69, 3) := by decide +kernel
theorem d_law_477 : decode code 477 = .ok (.iload 5, 2) := by decide +kernel
theorem d_law_479 : decode code 479 = .ok (.if_icmp .eq 5, 3) := by decide +kernel
theorem d_law_484 : decode code 484 = .ok (.iload 5, 2) := by decide +kernel
theorem d_law_486 : decode code 486 = .ok (.ifCond .ne 15, 3) := by decide +kernel
theorem d_law_501 : decode code 501 = .ok (.goto 504, 3) := by decide +kernel
set_option maxHeartbeats 4000000 in
set_option maxRecDepth 100000 in
theorem l_byteAt_n {p : Program} {l : Launch} {e : Env} {s : State} {m : MethodId} {below : List Frame} {meth : Method} {c : Code} {b : Nat} {xs : Nat → Int32} (htr : l.stackTraces = false) (C0 : lw_At p s m meth c b 5 xs) {A : Nat → Prop} (hA : ∀ q, s.heap.size ≤ q → A q) (hAf : ∀ q, A q → s.heap.size ≤ q) (hN : xN s) (hZ : xZ A s s.heap) {D : va_G} {qx qm qo : Nat} {cj : ClassId} {qa qb : Nat → Nat} {qk ql : Nat → ClassId} {uf : Nat → Option Nat} {H : Heap} {locs : List Loc} (hk : xs 1 < 0) (hP : va_P D cls (lawW qx qm qo cj qa qb qk ql uf) H) (hD : va_D A (lawW qx qm qo cj qa qb qk ql uf)) (hK : va_K D cls (lawT cj qk ql) s) (hS : va_S A s.heap H locs) {ls : Array Slot} (hl : lv_has ls 7 [(4, .int 0), (3, .ref qo), (2, .ref qm), (1, .ref qx), (0, .ref b)]) : W p l e room_1 s m #[Value.ref b] below meth c H locs 223 300058 (lw_Z below #[Value.ref b] s) (F0 m 424 ls []) := by
  obtain ⟨hx, hb, hr, hml, hown, hts0, hX, hbl, hlocks, hgv⟩ := id C0
  have hown : s.vm.findClass "ObjectForgeLaw" = some m.cls := hown
  have hbA : ¬ A b := fun h => absurd (hAf b h) (Nat.not_le.mpr hbl)
  have hts : ∀ w ∈ bw, w.before #[Value.ref b] s = true := fun w h => hts0 w (bw_in w h)
  have hP : va_P D cls [(qx, .inr (0, [.ref (qa 0), .ref (qa 1), .ref (qa 2), .int 0])), (qm, .inr (7, [.int 0, .int 0, .int 0, .int 0, .int 0, .int 0, .int (-1), .int (-1), .int 0, .int 0, .int 0, .int 0, .int 0, .int 0, .int 0, .int 0, .ref (qb 0), .ref (qb 1), .ref (qb 2), .ref (qb 3), .int 0, .ref (qb 4), .ref (qb 5), .ref (qb 6), .ref (qb 7), .ref (qb 8), .ref (qb 9), .ref (qb 10), .ref (qb 11), .ref (qb 12), .ref (qb 13), .ref (qb 14), .ref (qb 15), .ref (qb 16), .ref (qb 17), .ref (qb 18), .ref (qb 19), .ref (qb 20), .int 0, .int 0, .int 0, .int 0, .long 0, .long 0, .long 0, .long 0, .long 0, .ref (qb 21), .int 0, .int 0, .int 0, .int 0])), (qo, .inl (cj, 1, .inr (.inl (fun _ => 0))))] H := hP.sub [0, 10, 15] rfl
  have hD : va_D A [(qx, .inr (0, [.ref (qa 0), .ref (qa 1), .ref (qa 2), .int 0])), (qm, .inr (7, [.int 0, .int 0, .int 0, .int 0, .int 0, .int 0, .int (-1), .int (-1), .int 0, .int 0, .int 0, .int 0, .int 0, .int 0, .int 0, .int 0, .ref (qb 0), .ref (qb 1), .ref (qb 2), .ref (qb 3), .int 0, .ref (qb 4), .ref (qb 5), .ref (qb 6), .ref (qb 7), .ref (qb 8), .ref (qb 9), .ref (qb 10), .ref (qb 11), .ref (qb 12), .ref (qb 13), .ref (qb 14), .ref (qb 15), .ref (qb 16), .ref (qb 17), .ref (qb 18), .ref (qb 19), .ref (qb 20), .int 0, .int 0, .int 0, .int 0, .long 0, .long 0, .long 0, .long 0, .long 0, .ref (qb 21), .int 0, .int 0, .int 0, .int 0])), (qo, .inl (cj, 1, .inr (.inl (fun _ => 0))))] := hD.sub [0, 10, 15] (by decide) rfl
  have hK : va_K D cls [(cj, .long)] s := hK.sub [7] rfl
  refine lv_aload_n hx hb d_law_424 rfl (lv_at hl 3 rfl) ?_
  refine lv_aload_n hx hb d_law_425 rfl (lv_at hl 4 rfl) ?_
  refine lv_iload hx hb d_law_426 (lv_at hl 0 rfl) ?_
  refine lv_iconst (v := 1) hx hb d_law_428 (by decide) ?_
  refine lv_iadd hx hb d_law_429 ?_
  refine lv_topi (fun z1 ez1 => ?_)
  obtain rfl : z1 = 1 := ez1.trans (by decide)
  refine va_sld hx hb hX hbl hbA hS (by unfold vp_in; decide) d_law_430 ?_
  refine W.eq (g2 := F0 m 431 ls [.int (xs 1), .ref qx]) rfl ?_
  refine lv_aload_n hx hb d_law_431 rfl (lv_at hl 4 rfl) ?_
  refine lv_iload hx hb d_law_432 (lv_at hl 0 rfl) ?_
  refine lv_iconst (v := 2) hx hb d_law_434 (by decide) ?_
  refine lv_iadd hx hb d_law_435 ?_
  refine lv_topi (fun z2 ez2 => ?_)
  obtain rfl : z2 = 2 := ez2.trans (by decide)
  refine va_sld hx hb hX hbl hbA hS (by unfold vp_in; decide) d_law_436 ?_
  refine W.eq (g2 := F0 m 437 ls [.int (xs 2), .int (xs 1), .ref qx]) rfl ?_
  refine lv_aload_n hx hb d_law_437 rfl (lv_at hl 4 rfl) ?_
  refine lv_iload hx hb d_law_438 (lv_at hl 0 rfl) ?_
  refine lv_iconst (v := 3) hx hb d_law_440 (by decide) ?_
  refine lv_iadd hx hb d_law_441 ?_
  refine lv_topi (fun z3 ez3 => ?_)
  obtain rfl : z3 = 3 := ez3.trans (by decide)
  refine va_sld hx hb hX hbl hbA hS (by unfold vp_in; decide) d_law_442 ?_
  refine W.eq (g2 := F0 m 443 ls [.int (xs 3), .int (xs 2), .int (xs 1), .ref qx]) rfl ?_
  refine lv_aload_n hx hb d_law_443 rfl (lv_at hl 1 rfl) ?_
  refine xc_SW (As := [.ref qx, .int (xs 1), .int (xs 2), .int (xs 3), .ref qo]) (rest := []) (n := 5) (wc := [(qx, .inr (0, [.ref (qa 0), .ref (qa 1), .ref (qa 2), .int 0])), (qo, .inl (cj, 1, .inr (.inl (fun _ => 0))))]) (wr := [(qm, .inr (7, [.int 0, .int 0, .int 0, .int 0, .int 0, .int 0, .int (-1), .int (-1), .int 0, .int 0, .int 0, .int 0, .int 0, .int 0, .int 0, .int 0, .ref (qb 0), .ref (qb 1), .ref (qb 2), .ref (qb 3), .int 0, .ref (qb 4), .ref (qb 5), .ref (qb 6), .ref (qb 7), .ref (qb 8), .ref (qb 9), .ref (qb 10), .ref (qb 11), .ref (qb 12), .ref (qb 13), .ref (qb 14), .ref (qb 15), .ref (qb 16), .ref (qb 17), .ref (qb 18), .ref (qb 19), .ref (qb 20), .int 0, .int 0, .int 0, .int 0, .long 0, .long 0, .long 0, .long 0, .long 0, .ref (qb 21), .int 0, .int 0, .int 0, .int 0]))]) (tc := [(cj, .long)]) (tr := []) ⟨hx, hb, hml, hown, hts⟩ (c_La_byteAt_n l htr D qx qo cj qa qk (xs 1) (xs 2) (xs 3) hk H.size) rfl rfl w_329 w_327 w_328 w_0 (by decide +kernel) ⟨Nat.le_of_ble_eq_true rfl, Nat.le_of_ble_eq_true rfl⟩ hP hD hK hS hA hN hZ [0, 2] [1] rfl rfl (by decide) (by decide) (by decide) [0] [] rfl rfl rfl hl.1 rfl (Nat.le_of_ble_eq_true rfl) d_law_444 ⟨Nat.le_of_ble_eq_true rfl, Nat.le_of_ble_eq_true rfl⟩ (fun u4 H locs hP hD hK hS => ?_)
  have hP : va_P D cls [(qm, .inr (7, [.int 0, .int 0, .int 0, .int 0, .int 0, .int 0, .int (-1), .int (-1), .int 0, .int 0, .int 0, .int 0, .int 0, .int 0, .int 0, .int 0, .ref (qb 0), .ref (qb 1), .ref (qb 2), .ref (qb 3), .int 0, .ref (qb 4), .ref (qb 5), .ref (qb 6), .ref (qb 7), .ref (qb 8), .ref (qb 9), .ref (qb 10), .ref (qb 11), .ref (qb 12), .ref (qb 13), .ref (qb 14), .ref (qb 15), .ref (qb 16), .ref (qb 17), .ref (qb 18), .ref (qb 19), .ref (qb 20), .int 0, .int 0, .int 0, .int 0, .long 0, .long 0, .long 0, .long 0, .long 0, .ref (qb 21), .int 0, .int 0, .int 0, .int 0])), (qo, .inl (cj, 1, .inr (.inl (fun _ => 0))))] H := hP
  have hD : va_D A [(qm, .inr (7, [.int 0, .int 0, .int 0, .int 0, .int 0, .int 0, .int (-1), .int (-1), .int 0, .int 0, .int 0, .int 0, .int 0, .int 0, .int 0, .int 0, .ref (qb 0), .ref (qb 1), .ref (qb 2), .ref (qb 3), .int 0, .ref (qb 4), .ref (qb 5), .ref (qb 6), .ref (qb 7), .ref (qb 8), .ref (qb 9), .ref (qb 10), .ref (qb 11), .ref (qb 12), .ref (qb 13), .ref (qb 14), .ref (qb 15), .ref (qb 16), .ref (qb 17), .ref (qb 18), .ref (qb 19), .ref (qb 20), .int 0, .int 0, .int 0, .int 0, .long 0, .long 0, .long 0, .long 0, .long 0, .ref (qb 21), .int 0, .int 0, .int 0, .int 0])), (qo, .inl (cj, 1, .inr (.inl (fun _ => 0))))] := hD
  have hK : va_K D cls [(cj, .long)] s := hK
  refine W.widen (k := 224) (n := 300064) (by omega) (by omega) ?_
  refine W.eq (g2 := F0 m 447 ls [.int 1]) rfl ?_
  refine lv_istore (lv' := [(5, .int 1), (4, .int 0), (3, .ref qo), (2, .ref qm), (1, .ref qx), (0, .ref b)]) hx hb d_law_447 hl (by decide) rfl (fun ls hl => ?_)
  refine lv_aload_n hx hb d_law_449 rfl (lv_at hl 3 rfl) ?_
  refine lv_aload_n hx hb d_law_450 rfl (lv_at hl 5 rfl) ?_
  refine lv_iload hx hb d_law_451 (lv_at hl 1 rfl) ?_
  refine lv_iconst (v := 1) hx hb d_law_453 (by decide) ?_
  refine lv_iadd hx hb d_law_454 ?_
  refine lv_topi (fun z5 ez5 => ?_)
  obtain rfl : z5 = 1 := ez5.trans (by decide)
  refine va_sld hx hb hX hbl hbA hS (by unfold vp_in; decide) d_law_455 ?_
  refine W.eq (g2 := F0 m 456 ls [.int (xs 1), .ref qm]) rfl ?_
  refine lv_aload_n hx hb d_law_456 rfl (lv_at hl 5 rfl) ?_
  refine lv_iload hx hb d_law_457 (lv_at hl 1 rfl) ?_
  refine lv_iconst (v := 2) hx hb d_law_459 (by decide) ?_
  refine lv_iadd hx hb d_law_460 ?_
  refine lv_topi (fun z6 ez6 => ?_)
  obtain rfl : z6 = 2 := ez6.trans (by decide)
  refine va_sld hx hb hX hbl hbA hS (by unfold vp_in; decide) d_law_461 ?_
  refine W.eq (g2 := F0 m 462 ls [.int (xs 2), .int (xs 1), .ref qm]) rfl ?_
  refine lv_aload_n hx hb d_law_462 rfl (lv_at hl 5 rfl) ?_
  refine lv_iload hx hb d_law_463 (lv_at hl 1 rfl) ?_
  refine lv_iconst (v := 3) hx hb d_law_465 (by decide) ?_
  refine lv_iadd hx hb d_law_466 ?_
  refine lv_topi (fun z7 ez7 => ?_)
  obtain rfl : z7 = 3 := ez7.trans (by decide)
  refine va_sld hx hb hX hbl hbA hS (by unfold vp_in; decide) d_law_467 ?_
  refine W.eq (g2 := F0 m 468 ls [.int (xs 3), .int (xs 2), .int (xs 1), .ref qm]) rfl ?_
  refine xc_V (As := [.int (xs 1), .int (xs 2), .int (xs 3)]) (rest := []) (n := 3) (wc := [(qm, .inr (7, [.int 0, .int 0, .int 0, .int 0, .int 0, .int 0, .int (-1), .int (-1), .int 0, .int 0, .int 0, .int 0, .int 0, .int 0, .int 0, .int 0, .ref (qb 0), .ref (qb 1), .ref (qb 2), .ref (qb 3), .int 0, .ref (qb 4), .ref (qb 5), .ref (qb 6), .ref (qb 7), .ref (qb 8), .ref (qb 9), .ref (qb 10), .ref (qb 11), .ref (qb 12), .ref (qb 13), .ref (qb 14), .ref (qb 15), .ref (qb 16), .ref (qb 17), .ref (qb 18), .ref (qb 19), .ref (qb 20), .int 0, .int 0, .int 0, .int 0, .long 0, .long 0, .long 0, .long 0, .long 0, .ref (qb 21), .int 0, .int 0, .int 0, .int 0]))]) (wr := [(qo, .inl (cj, 1, .inr (.inl (fun _ => 0))))]) (tc := []) (tr := [(cj, .long)]) ⟨hx, hb, hml, hown, hts⟩ (c_Mo_byteAt_n l D qm qb (xs 1) (xs 2) (xs 3) hk H.size) rfl rfl w_514 w_511 w_512 w_513 w_8 (by decide +kernel) ⟨Nat.le_of_ble_eq_true rfl, Nat.le_of_ble_eq_true rfl⟩ hP hD hK hS hA hN hZ [0] [1] rfl rfl (by decide) (by decide) (by decide) [] [0] rfl rfl (ci := 7) (q0 := 0) (q := (R_Mo, F_Mo, 52)) rfl rfl rfl rfl hl.1 rfl (Nat.le_of_ble_eq_true rfl) d_law_468 ⟨Nat.le_of_ble_eq_true rfl, Nat.le_of_ble_eq_true rfl⟩ (fun u8 H locs hP hD hK hS => ?_)
  have hP : va_P D cls [(qo, .inl (cj, 1, .inr (.inl (fun _ => 0)))), (qm, .inr (7, [.int 1, .int 0, .int 0, .int 0, .int 0, .int 0, .int (-1), .int (-1), .int 0, .int 0, .int 0, .int 0, .int 0, .int 0, .int 0, .int 0, .ref (qb 0), .ref (qb 1), .ref (qb 2), .ref (qb 3), .int 0, .ref (qb 4), .ref (qb 5), .ref (qb 6), .ref (qb 7), .ref (qb 8), .ref (qb 9), .ref (qb 10), .ref (qb 11), .ref (qb 12), .ref (qb 13), .ref (qb 14), .ref (qb 15), .ref (qb 16), .ref (qb 17), .ref (qb 18), .ref (qb 19), .ref (qb 20), .int 0, .int 0, .int 0, .int 0, .long 0, .long 0, .long 0, .long 0, .long 0, .ref (qb 21), .int 0, .int 0, .int 0, .int 0]))] H := hP
  have hD : va_D A [(qo, .inl (cj, 1, .inr (.inl (fun _ => 0)))), (qm, .inr (7, [.int 1, .int 0, .int 0, .int 0, .int 0, .int 0, .int (-1), .int (-1), .int 0, .int 0, .int 0, .int 0, .int 0, .int 0, .int 0, .int 0, .ref (qb 0), .ref (qb 1), .ref (qb 2), .ref (qb 3), .int 0, .ref (qb 4), .ref (qb 5), .ref (qb 6), .ref (qb 7), .ref (qb 8), .ref (qb 9), .ref (qb 10), .ref (qb 11), .ref (qb 12), .ref (qb 13), .ref (qb 14), .ref (qb 15), .ref (qb 16), .ref (qb 17), .ref (qb 18), .ref (qb 19), .ref (qb 20), .int 0, .int 0, .int 0, .int 0, .long 0, .long 0, .long 0, .long 0, .long 0, .ref (qb 21), .int 0, .int 0, .int 0, .int 0]))] := hD
  have hK : va_K D cls [(cj, .long)] s := hK
  refine W.eq (g2 := F0 m 471 ls [.int 0]) rfl ?_
  refine lv_istore (lv' := [(6, .int 0), (5, .int 1), (4, .int 0), (3, .ref qo), (2, .ref qm), (1, .ref qx), (0, .ref b)]) hx hb d_law_471 hl (by decide) rfl (fun ls hl => ?_)
  refine lv_aload_n hx hb d_law_473 rfl (lv_at hl 4 rfl) ?_
  refine xc_V (As := []) (rest := []) (n := 0) (wc := [(qm, .inr (7, [.int 1, .int 0, .int 0, .int 0, .int 0, .int 0, .int (-1), .int (-1), .int 0, .int 0, .int 0, .int 0, .int 0, .int 0, .int 0, .int 0, .ref (qb 0), .ref (qb 1), .ref (qb 2), .ref (qb 3), .int 0, .ref (qb 4), .ref (qb 5), .ref (qb 6), .ref (qb 7), .ref (qb 8), .ref (qb 9), .ref (qb 10), .ref (qb 11), .ref (qb 12), .ref (qb 13), .ref (qb 14), .ref (qb 15), .ref (qb 16), .ref (qb 17), .ref (qb 18), .ref (qb 19), .ref (qb 20), .int 0, .int 0, .int 0, .int 0, .long 0, .long 0, .long 0, .long 0, .long 0, .ref (qb 21), .int 0, .int 0, .int 0, .int 0]))]) (wr := [(qo, .inl (cj, 1, .inr (.inl (fun _ => 0))))]) (tc := []) (tr := [(cj, .long)]) ⟨hx, hb, hml, hown, hts⟩ (c_Mo_thrown_1 l D qm qb H.size) rfl rfl w_445 w_442 w_443 w_444 w_8 (by decide +kernel) ⟨Nat.le_of_ble_eq_true rfl, Nat.le_of_ble_eq_true rfl⟩ hP hD hK hS hA hN hZ [1] [0] rfl rfl (by decide) (by decide) (by decide) [] [0] rfl rfl (ci := 7) (q0 := 0) (q := (R_Mo, F_Mo, 52)) rfl rfl rfl rfl hl.1 rfl (Nat.le_of_ble_eq_true rfl) d_law_474 ⟨Nat.le_of_ble_eq_true rfl, Nat.le_of_ble_eq_true rfl⟩ (fun u9 H locs hP hD hK hS => ?_)
  have hP : va_P D cls [(qo, .inl (cj, 1, .inr (.inl (fun _ => 0)))), (qm, .inr (7, [.int 1, .int 0, .int 0, .int 0, .int 0, .int 0, .int (-1), .int (-1), .int 0, .int 0, .int 0, .int 0, .int 0, .int 0, .int 0, .int 0, .ref (qb 0), .ref (qb 1), .ref (qb 2), .ref (qb 3), .int 0, .ref (qb 4), .ref (qb 5), .ref (qb 6), .ref (qb 7), .ref (qb 8), .ref (qb 9), .ref (qb 10), .ref (qb 11), .ref (qb 12), .ref (qb 13), .ref (qb 14), .ref (qb 15), .ref (qb 16), .ref (qb 17), .ref (qb 18), .ref (qb 19), .ref (qb 20), .int 0, .int 0, .int 0, .int 0, .long 0, .long 0, .long 0, .long 0, .long 0, .ref (qb 21), .int 0, .int 0, .int 0, .int 0]))] H := hP
  have hD : va_D A [(qo, .inl (cj, 1, .inr (.inl (fun _ => 0)))), (qm, .inr (7, [.int 1, .int 0, .int 0, .int 0, .int 0, .int 0, .int (-1), .int (-1), .int 0, .int 0, .int 0, .int 0, .int 0, .int 0, .int 0, .int 0, .ref (qb 0), .ref (qb 1), .ref (qb 2), .ref (qb 3), .int 0, .ref (qb 4), .ref (qb 5), .ref (qb 6), .ref (qb 7), .ref (qb 8), .ref (qb 9), .ref (qb 10), .ref (qb 11), .ref (qb 12), .ref (qb 13), .ref (qb 14), .ref (qb 15), .ref (qb 16), .ref (qb 17), .ref (qb 18), .ref (qb 19), .ref (qb 20), .int 0, .int 0, .int 0, .int 0, .long 0, .long 0, .long 0, .long 0, .long 0, .ref (qb 21), .int 0, .int 0, .int 0, .int 0]))] := hD
  have hK : va_K D cls [(cj, .long)] s := hK
  refine W.eq (g2 := F0 m 477 ls [.int 1]) rfl ?_
  refine lv_iload hx hb d_law_477 (lv_at hl 1 rfl) ?_
  refine lv_icmp_eq (tgt := 484) hx hb d_law_479 (by decide) (fun _ => ?_) (fun q9 => absurd (by decide : ((1 : Int32) = 1)) q9)
  refine lv_iload hx hb d_law_484 (lv_at hl 1 rfl) ?_
  refine lv_if_ne (tgt := 501) hx hb d_law_486 (by decide) (fun _ => ?_) (fun q9 => absurd q9 (by decide : ¬ ((1 : Int32) = 0)))
  refine lv_goto (tgt := 1005) hx hb d_law_501 (by decide) ?_
  exact law_tail C0 hA hAf hS (Nat.le_of_ble_eq_true rfl) (Nat.le_of_ble_eq_true rfl) (lv_sub hl [6, 2] rfl)
