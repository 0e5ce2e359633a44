set_option maxHeartbeats 4000000 in
set_option maxRecDepth 100000 in
theorem l_address_g {p : Program} {l : Launch} {e : Env} {s : State} {m : MethodId} {below : List Frame} {meth : Method} {c : Code} {b : Nat} {xs : Nat → Int32} (htr : l.stackTraces = false) (C0 : lw_At p s m meth c b 5 xs) {A : Nat → Prop} (hA : ∀ q, s.heap.size ≤ q → A q) (hAf : ∀ q, A q → s.heap.size ≤ q) (hN : xN s) (hZ : xZ A s s.heap) {D : va_G} {qx qm qo : Nat} {cj : ClassId} {qa qb : Nat → Nat} {qk ql : Nat → ClassId} {uf : Nat → Option Nat} {H : Heap} {locs : List Loc} (hk : ¬ xs 1 < 0) (hP : va_P D cls (lawW qx qm qo cj qa qb qk ql uf) H) (hD : va_D A (lawW qx qm qo cj qa qb qk ql uf)) (hK : va_K D cls (lawT cj qk ql) s) (hS : va_S A s.heap H locs) {ls : Array Slot} (hl : lv_has ls 7 [(4, .int 0), (3, .ref qo), (2, .ref qm), (1, .ref qx), (0, .ref b)]) : W p l e room_1 s m #[Value.ref b] below meth c H locs 223 300058 (lw_Z below #[Value.ref b] s) (F0 m 856 ls []) := by
  obtain ⟨hx, hb, hr, hml, hown, hts0, hX, hbl, hlocks, hgv⟩ := id C0
  have hown : s.vm.findClass "ObjectForgeLaw" = some m.cls := hown
  have hbA : ¬ A b := fun h => absurd (hAf b h) (Nat.not_le.mpr hbl)
  have hts : ∀ w ∈ bw, w.before #[Value.ref b] s = true := fun w h => hts0 w (bw_in w h)
  have hP : va_P D cls [(qx, .inr (0, [.ref (qa 0), .ref (qa 1), .ref (qa 2), .int 0])), (qm, .inr (7, [.int 0, .int 0, .int 0, .int 0, .int 0, .int 0, .int (-1), .int (-1), .int 0, .int 0, .int 0, .int 0, .int 0, .int 0, .int 0, .int 0, .ref (qb 0), .ref (qb 1), .ref (qb 2), .ref (qb 3), .int 0, .ref (qb 4), .ref (qb 5), .ref (qb 6), .ref (qb 7), .ref (qb 8), .ref (qb 9), .ref (qb 10), .ref (qb 11), .ref (qb 12), .ref (qb 13), .ref (qb 14), .ref (qb 15), .ref (qb 16), .ref (qb 17), .ref (qb 18), .ref (qb 19), .ref (qb 20), .int 0, .int 0, .int 0, .int 0, .long 0, .long 0, .long 0, .long 0, .long 0, .ref (qb 21), .int 0, .int 0, .int 0, .int 0])), (qo, .inl (cj, 1, .inr (.inl (fun _ => 0))))] H := hP.sub [0, 10, 15] rfl
  have hD : va_D A [(qx, .inr (0, [.ref (qa 0), .ref (qa 1), .ref (qa 2), .int 0])), (qm, .inr (7, [.int 0, .int 0, .int 0, .int 0, .int 0, .int 0, .int (-1), .int (-1), .int 0, .int 0, .int 0, .int 0, .int 0, .int 0, .int 0, .int 0, .ref (qb 0), .ref (qb 1), .ref (qb 2), .ref (qb 3), .int 0, .ref (qb 4), .ref (qb 5), .ref (qb 6), .ref (qb 7), .ref (qb 8), .ref (qb 9), .ref (qb 10), .ref (qb 11), .ref (qb 12), .ref (qb 13), .ref (qb 14), .ref (qb 15), .ref (qb 16), .ref (qb 17), .ref (qb 18), .ref (qb 19), .ref (qb 20), .int 0, .int 0, .int 0, .int 0, .long 0, .long 0, .long 0, .long 0, .long 0, .ref (qb 21), .int 0, .int 0, .int 0, .int 0])), (qo, .inl (cj, 1, .inr (.inl (fun _ => 0))))] := hD.sub [0, 10, 15] (by decide) rfl
  have hK : va_K D cls [(cj, .long)] s := hK.sub [7] rfl
  refine lv_aload_n hx hb d_law_856 rfl (lv_at hl 3 rfl) ?_
  refine lv_aload_n hx hb d_law_857 rfl (lv_at hl 4 rfl) ?_
  refine lv_iload hx hb d_law_858 (lv_at hl 0 rfl) ?_
  refine lv_iconst (v := 1) hx hb d_law_860 (by decide) ?_
  refine lv_iadd hx hb d_law_861 ?_
  refine lv_topi (fun z1 ez1 => ?_)
  obtain rfl : z1 = 1 := ez1.trans (by decide)
  refine va_sld hx hb hX hbl hbA hS (by unfold vp_in; decide) d_law_862 ?_
  refine W.eq (g2 := F0 m 863 ls [.int (xs 1), .ref qx]) rfl ?_
  refine lv_aload_n hx hb d_law_863 rfl (lv_at hl 4 rfl) ?_
  refine lv_iload hx hb d_law_864 (lv_at hl 0 rfl) ?_
  refine lv_iconst (v := 2) hx hb d_law_866 (by decide) ?_
  refine lv_iadd hx hb d_law_867 ?_
  refine lv_topi (fun z2 ez2 => ?_)
  obtain rfl : z2 = 2 := ez2.trans (by decide)
  refine va_sld hx hb hX hbl hbA hS (by unfold vp_in; decide) d_law_868 ?_
  refine W.eq (g2 := F0 m 869 ls [.int (xs 2), .int (xs 1), .ref qx]) rfl ?_
  refine lv_aload_n hx hb d_law_869 rfl (lv_at hl 1 rfl) ?_
  refine xc_SW (As := [.ref qx, .int (xs 1), .int (xs 2), .ref qo]) (rest := []) (n := 4) (wc := [(qx, .inr (0, [.ref (qa 0), .ref (qa 1), .ref (qa 2), .int 0])), (qo, .inl (cj, 1, .inr (.inl (fun _ => 0))))]) (wr := [(qm, .inr (7, [.int 0, .int 0, .int 0, .int 0, .int 0, .int 0, .int (-1), .int (-1), .int 0, .int 0, .int 0, .int 0, .int 0, .int 0, .int 0, .int 0, .ref (qb 0), .ref (qb 1), .ref (qb 2), .ref (qb 3), .int 0, .ref (qb 4), .ref (qb 5), .ref (qb 6), .ref (qb 7), .ref (qb 8), .ref (qb 9), .ref (qb 10), .ref (qb 11), .ref (qb 12), .ref (qb 13), .ref (qb 14), .ref (qb 15), .ref (qb 16), .ref (qb 17), .ref (qb 18), .ref (qb 19), .ref (qb 20), .int 0, .int 0, .int 0, .int 0, .long 0, .long 0, .long 0, .long 0, .long 0, .ref (qb 21), .int 0, .int 0, .int 0, .int 0]))]) (tc := [(cj, .long)]) (tr := []) ⟨hx, hb, hml, hown, hts⟩ (c_La_address_g l htr D qx qo cj qa qk (xs 1) (xs 2) hk hk H.size) rfl rfl w_377 w_375 w_376 w_0 (by decide +kernel) ⟨Nat.le_of_ble_eq_true rfl, Nat.le_of_ble_eq_true rfl⟩ hP hD hK hS hA hN hZ [0, 2] [1] rfl rfl (by decide) (by decide) (by decide) [0] [] rfl rfl rfl hl.1 rfl (Nat.le_of_ble_eq_true rfl) d_law_870 ⟨Nat.le_of_ble_eq_true rfl, Nat.le_of_ble_eq_true rfl⟩ (fun u3 H locs hP hD hK hS => ?_)
  have hP : va_P D cls [(qm, .inr (7, [.int 0, .int 0, .int 0, .int 0, .int 0, .int 0, .int (-1), .int (-1), .int 0, .int 0, .int 0, .int 0, .int 0, .int 0, .int 0, .int 0, .ref (qb 0), .ref (qb 1), .ref (qb 2), .ref (qb 3), .int 0, .ref (qb 4), .ref (qb 5), .ref (qb 6), .ref (qb 7), .ref (qb 8), .ref (qb 9), .ref (qb 10), .ref (qb 11), .ref (qb 12), .ref (qb 13), .ref (qb 14), .ref (qb 15), .ref (qb 16), .ref (qb 17), .ref (qb 18), .ref (qb 19), .ref (qb 20), .int 0, .int 0, .int 0, .int 0, .long 0, .long 0, .long 0, .long 0, .long 0, .ref (qb 21), .int 0, .int 0, .int 0, .int 0])), (qo, .inl (cj, 1, .inr (.inl (fun _ => 0))))] H := hP
  have hD : va_D A [(qm, .inr (7, [.int 0, .int 0, .int 0, .int 0, .int 0, .int 0, .int (-1), .int (-1), .int 0, .int 0, .int 0, .int 0, .int 0, .int 0, .int 0, .int 0, .ref (qb 0), .ref (qb 1), .ref (qb 2), .ref (qb 3), .int 0, .ref (qb 4), .ref (qb 5), .ref (qb 6), .ref (qb 7), .ref (qb 8), .ref (qb 9), .ref (qb 10), .ref (qb 11), .ref (qb 12), .ref (qb 13), .ref (qb 14), .ref (qb 15), .ref (qb 16), .ref (qb 17), .ref (qb 18), .ref (qb 19), .ref (qb 20), .int 0, .int 0, .int 0, .int 0, .long 0, .long 0, .long 0, .long 0, .long 0, .ref (qb 21), .int 0, .int 0, .int 0, .int 0])), (qo, .inl (cj, 1, .inr (.inl (fun _ => 0))))] := hD
  have hK : va_K D cls [(cj, .long)] s := hK
  refine W.widen (k := 224) (n := 300064) (by omega) (by omega) ?_
  refine W.eq (g2 := F0 m 873 ls [.int 1]) rfl ?_
  refine lv_istore (lv' := [(5, .int 1), (4, .int 0), (3, .ref qo), (2, .ref qm), (1, .ref qx), (0, .ref b)]) hx hb d_law_873 hl (by decide) rfl (fun ls hl => ?_)
  refine lv_aload_n hx hb d_law_875 rfl (lv_at hl 3 rfl) ?_
  refine lv_aload_n hx hb d_law_876 rfl (lv_at hl 5 rfl) ?_
  refine lv_iload hx hb d_law_877 (lv_at hl 1 rfl) ?_
  refine lv_iconst (v := 1) hx hb d_law_879 (by decide) ?_
  refine lv_iadd hx hb d_law_880 ?_
  refine lv_topi (fun z4 ez4 => ?_)
  obtain rfl : z4 = 1 := ez4.trans (by decide)
  refine va_sld hx hb hX hbl hbA hS (by unfold vp_in; decide) d_law_881 ?_
  refine W.eq (g2 := F0 m 882 ls [.int (xs 1), .ref qm]) rfl ?_
  refine lv_aload_n hx hb d_law_882 rfl (lv_at hl 5 rfl) ?_
  refine lv_iload hx hb d_law_883 (lv_at hl 1 rfl) ?_
  refine lv_iconst (v := 2) hx hb d_law_885 (by decide) ?_
  refine lv_iadd hx hb d_law_886 ?_
  refine lv_topi (fun z5 ez5 => ?_)
  obtain rfl : z5 = 2 := ez5.trans (by decide)
  refine va_sld hx hb hX hbl hbA hS (by unfold vp_in; decide) d_law_887 ?_
  refine W.eq (g2 := F0 m 888 ls [.int (xs 2), .int (xs 1), .ref qm]) rfl ?_
  refine xc_V (As := [.int (xs 1), .int (xs 2)]) (rest := []) (n := 2) (wc := [(qm, .inr (7, [.int 0, .int 0, .int 0, .int 0, .int 0, .int 0, .int (-1), .int (-1), .int 0, .int 0, .int 0, .int 0, .int 0, .int 0, .int 0, .int 0, .ref (qb 0), .ref (qb 1), .ref (qb 2), .ref (qb 3), .int 0, .ref (qb 4), .ref (qb 5), .ref (qb 6), .ref (qb 7), .ref (qb 8), .ref (qb 9), .ref (qb 10), .ref (qb 11), .ref (qb 12), .ref (qb 13), .ref (qb 14), .ref (qb 15), .ref (qb 16), .ref (qb 17), .ref (qb 18), .ref (qb 19), .ref (qb 20), .int 0, .int 0, .int 0, .int 0, .long 0, .long 0, .long 0, .long 0, .long 0, .ref (qb 21), .int 0, .int 0, .int 0, .int 0]))]) (wr := [(qo, .inl (cj, 1, .inr (.inl (fun _ => 0))))]) (tc := []) (tr := [(cj, .long)]) ⟨hx, hb, hml, hown, hts⟩ (c_Mo_address_g l D qm qb (xs 1) (xs 2) hk (x_ge hk) H.size) rfl rfl w_544 w_541 w_542 w_543 w_8 (by decide +kernel) ⟨Nat.le_of_ble_eq_true rfl, Nat.le_of_ble_eq_true rfl⟩ hP hD hK hS hA hN hZ [0] [1] rfl rfl (by decide) (by decide) (by decide) [] [0] rfl rfl (ci := 7) (q0 := 0) (q := (R_Mo, F_Mo, 52)) rfl rfl rfl rfl hl.1 rfl (Nat.le_of_ble_eq_true rfl) d_law_888 ⟨Nat.le_of_ble_eq_true rfl, Nat.le_of_ble_eq_true rfl⟩ (fun u6 H locs hP hD hK hS => ?_)
  have hP : va_P D cls [(qo, .inl (cj, 1, .inr (.inl (fun _ => 0)))), (qm, .inr (7, [.int 1, .int 0, .int 0, .int 0, .int 0, .int 0, .int (-1), .int (-1), .int 0, .int 0, .int 0, .int 0, .int 0, .int 0, .int 0, .int 0, .ref (qb 0), .ref (qb 1), .ref (qb 2), .ref (qb 3), .int 0, .ref (qb 4), .ref (qb 5), .ref (qb 6), .ref (qb 7), .ref (qb 8), .ref (qb 9), .ref (qb 10), .ref (qb 11), .ref (qb 12), .ref (qb 13), .ref (qb 14), .ref (qb 15), .ref (qb 16), .ref (qb 17), .ref (qb 18), .ref (qb 19), .ref (qb 20), .int 0, .int 0, .int 0, .int 0, .long 0, .long 0, .long 0, .long 0, .long 0, .ref (qb 21), .int 0, .int 0, .int 0, .int 0]))] H := hP
  have hD : va_D A [(qo, .inl (cj, 1, .inr (.inl (fun _ => 0)))), (qm, .inr (7, [.int 1, .int 0, .int 0, .int 0, .int 0, .int 0, .int (-1), .int (-1), .int 0, .int 0, .int 0, .int 0, .int 0, .int 0, .int 0, .int 0, .ref (qb 0), .ref (qb 1), .ref (qb 2), .ref (qb 3), .int 0, .ref (qb 4), .ref (qb 5), .ref (qb 6), .ref (qb 7), .ref (qb 8), .ref (qb 9), .ref (qb 10), .ref (qb 11), .ref (qb 12), .ref (qb 13), .ref (qb 14), .ref (qb 15), .ref (qb 16), .ref (qb 17), .ref (qb 18), .ref (qb 19), .ref (qb 20), .int 0, .int 0, .int 0, .int 0, .long 0, .long 0, .long 0, .long 0, .long 0, .ref (qb 21), .int 0, .int 0, .int 0, .int 0]))] := hD
  have hK : va_K D cls [(cj, .long)] s := hK
  refine W.eq (g2 := F0 m 891 ls [.int 0]) rfl ?_
  refine lv_istore (lv' := [(6, .int 0), (5, .int 1), (4, .int 0), (3, .ref qo), (2, .ref qm), (1, .ref qx), (0, .ref b)]) hx hb d_law_891 hl (by decide) rfl (fun ls hl => ?_)
  refine lv_aload_n hx hb d_law_893 rfl (lv_at hl 4 rfl) ?_
  refine xc_V (As := []) (rest := []) (n := 0) (wc := [(qm, .inr (7, [.int 1, .int 0, .int 0, .int 0, .int 0, .int 0, .int (-1), .int (-1), .int 0, .int 0, .int 0, .int 0, .int 0, .int 0, .int 0, .int 0, .ref (qb 0), .ref (qb 1), .ref (qb 2), .ref (qb 3), .int 0, .ref (qb 4), .ref (qb 5), .ref (qb 6), .ref (qb 7), .ref (qb 8), .ref (qb 9), .ref (qb 10), .ref (qb 11), .ref (qb 12), .ref (qb 13), .ref (qb 14), .ref (qb 15), .ref (qb 16), .ref (qb 17), .ref (qb 18), .ref (qb 19), .ref (qb 20), .int 0, .int 0, .int 0, .int 0, .long 0, .long 0, .long 0, .long 0, .long 0, .ref (qb 21), .int 0, .int 0, .int 0, .int 0]))]) (wr := [(qo, .inl (cj, 1, .inr (.inl (fun _ => 0))))]) (tc := []) (tr := [(cj, .long)]) ⟨hx, hb, hml, hown, hts⟩ (c_Mo_thrown_1 l D qm qb H.size) rfl rfl w_445 w_442 w_443 w_444 w_8 (by decide +kernel) ⟨Nat.le_of_ble_eq_true rfl, Nat.le_of_ble_eq_true rfl⟩ hP hD hK hS hA hN hZ [1] [0] rfl rfl (by decide) (by decide) (by decide) [] [0] rfl rfl (ci := 7) (q0 := 0) (q := (R_Mo, F_Mo, 52)) rfl rfl rfl rfl hl.1 rfl (Nat.le_of_ble_eq_true rfl) d_law_894 ⟨Nat.le_of_ble_eq_true rfl, Nat.le_of_ble_eq_true rfl⟩ (fun u7 H locs hP hD hK hS => ?_)
  have hP : va_P D cls [(qo, .inl (cj, 1, .inr (.inl (fun _ => 0)))), (qm, .inr (7, [.int 1, .int 0, .int 0, .int 0, .int 0, .int 0, .int (-1), .int (-1), .int 0, .int 0, .int 0, .int 0, .int 0, .int 0, .int 0, .int 0, .ref (qb 0), .ref (qb 1), .ref (qb 2), .ref (qb 3), .int 0, .ref (qb 4), .ref (qb 5), .ref (qb 6), .ref (qb 7), .ref (qb 8), .ref (qb 9), .ref (qb 10), .ref (qb 11), .ref (qb 12), .ref (qb 13), .ref (qb 14), .ref (qb 15), .ref (qb 16), .ref (qb 17), .ref (qb 18), .ref (qb 19), .ref (qb 20), .int 0, .int 0, .int 0, .int 0, .long 0, .long 0, .long 0, .long 0, .long 0, .ref (qb 21), .int 0, .int 0, .int 0, .int 0]))] H := hP
  have hD : va_D A [(qo, .inl (cj, 1, .inr (.inl (fun _ => 0)))), (qm, .inr (7, [.int 1, .int 0, .int 0, .int 0, .int 0, .int 0, .int (-1), .int (-1), .int 0, .int 0, .int 0, .int 0, .int 0, .int 0, .int 0, .int 0, .ref (qb 0), .ref (qb 1), .ref (qb 2), .ref (qb 3), .int 0, .ref (qb 4), .ref (qb 5), .ref (qb 6), .ref (qb 7), .ref (qb 8), .ref (qb 9), .ref (qb 10), .ref (qb 11), .ref (qb 12), .ref (qb 13), .ref (qb 14), .ref (qb 15), .ref (qb 16), .ref (qb 17), .ref (qb 18), .ref (qb 19), .ref (qb 20), .int 0, .int 0, .int 0, .int 0, .long 0, .long 0, .long 0, .long 0, .long 0, .ref (qb 21), .int 0, .int 0, .int 0, .int 0]))] := hD
  have hK : va_K D cls [(cj, .long)] s := hK
  refine W.eq (g2 := F0 m 897 ls [.int 1]) rfl ?_
  refine lv_iload hx hb d_law_897 (lv_at hl 1 rfl) ?_
  refine lv_icmp_eq (tgt := 904) hx hb d_law_899 (by decide) (fun _ => ?_) (fun q9 => absurd (by decide : ((1 : Int32) = 1)) q9)
  refine lv_iload hx hb d_law_904 (lv_at hl 1 rfl) ?_
  refine lv_if_ne (tgt := 921) hx hb d_law_906 (by decide) (fun _ => ?_) (fun q9 => absurd q9 (by decide : ¬ ((1 : Int32) = 0)))
  refine lv_goto (tgt := 1005) hx hb d_law_921 (by decide) ?_
  exact law_tail C0 hA hAf hS (Nat.le_of_ble_eq_true rfl) (Nat.le_of_ble_eq_true rfl) (lv_sub hl [6, 2] rfl)

theorem d_law_744 : decode code 744 = .ok (.aload_n 1, 1) := by decide +kernel
theorem d_law_745 : decode code 745 = .ok (.aload_n 0, 1) := by decide +kernel
theorem d_law_746 : decode code 746 = .ok (.iload 4, 2) := by decide +kernel
theorem d_law_748 : decode code 748 = .ok (.iconst 1, 1) := by decide +kernel
theorem d_law_749 : decode code 749 = .ok (.iadd, 1) := by decide +kernel
theorem d_law_750 : decode code 750 = .ok (.iaload, 1) := by decide +kernel
theorem d_law_751 : decode code 751 = .ok (.aload_n 3, 1) := by decide +kernel
theorem d_law_752 : decode code 752 = .ok (.invokestatic 100, 3) := by decide +kernel
theorem d_law_755 : decode code 755 = .ok (.istore 5, 2) := by decide +kernel
theorem d_law_757 : decode code 757 = .ok (.aload_n 2, 1) := by decide +kernel
theorem d_law_758 : decode code 758 = .ok (.aload_n 0, 1) := by decide +kernel
theorem d_law_759 : decode code 759 = .ok (.iload 4, 2) := by decide +kernel
theorem d_law_761 : decode code 761 = .ok (.iconst 1, 1) := by decide +kernel
theorem d_law_762 : decode code 762 = .ok (.iadd, 1) := by decide +kernel
theorem d_law_763 : decode code 763 = .ok (.iaload, 1) := by decide +kernel
theorem d_law_764 : decode code 764 = .ok (.invokevirtual 102, 3) := by decide +kernel
theorem d_law_767 : decode code 767 = .ok (.istore 6, 2) := by decide +kernel
theorem d_law_769 : decode code 769 = .ok (.aload_n 2, 1) := by decide +kernel
theorem d_law_770 : decode code 770 = .ok (.invokevirtual 69, 3) := by decide +kernel
theorem d_law_773 : decode code 773 = .ok (.iload 5, 2) := by decide +kernel
theorem d_law_775 : decode code 775 = .ok (.if_icmp .eq 5, 3) := by decide +kernel
theorem d_law_780 : decode code 780 = .ok (.iload 5, 2) := by decide +kernel
theorem d_law_782 : decode code 782 = .ok (.ifCond .ne 15, 3) := by decide +kernel
theorem d_law_797 : decode code 797 = .ok (.goto 208, 3) := by decide +kernel
set_option maxHeartbeats 4000000 in
set_option maxRecDepth 100000 in
theorem l_link_1 {p : Program} {l : Launch} {e : Env} {s : State} {m : MethodId} {below : List Frame} {meth : Method} {c : Code} {b : Nat} {xs : Nat → Int32} (htr : l.stackTraces = false) (C0 : lw_At p s m meth c b 5 xs) {A : Nat → Prop} (hA : ∀ q, s.heap.size ≤ q → A q) (hAf : ∀ q, A q → s.heap.size ≤ q) (hN : xN s) (hZ : xZ A s s.heap) {D : va_G} {qx qm qo : Nat} {cj : ClassId} {qa qb : Nat → Nat} {qk ql : Nat → ClassId} {uf : Nat → Option Nat} {H : Heap} {locs : List Loc} (h1 : ¬ (xs 1 &&& 7) = 0) (hP : va_P D cls (lawW qx qm qo cj qa qb qk ql uf) H) (hD : va_D A (lawW qx qm qo cj qa qb qk ql uf)) (hK : va_K D cls (lawT cj qk ql) s) (hS : va_S A s.heap H locs) {ls : Array Slot} (hl : lv_has ls 7 [(4, .int 0), (3, .ref qo), (2, .ref qm), (1, .ref qx), (0, .ref b)]) : W p l e room_1 s m #[Value.ref b] below meth c H locs 223 300058 (lw_Z below #[Value.ref b] s) (F0 m 744 ls []) := by
  obtain ⟨hx, hb, hr, hml, hown, hts0, hX, hbl, hlocks, hgv⟩ := id C0
  have hown : s.vm.findClass "ObjectForgeLaw" = some m.cls := hown
  have hbA : ¬ A b := fun h => absurd (hAf b h) (Nat.not_le.mpr hbl)
  have hts : ∀ w ∈ bw, w.before #[Value.ref b] s = true := fun w h => hts0 w (bw_in w h)
  have hP : va_P D cls [(qx, .inr (0, [.ref (qa 0), .ref (qa 1), .ref (qa 2), .int 0])), (qm, .inr (7, [.int 0, .int 0, .int 0, .int 0, .int 0, .int 0, .int (-1), .int (-1), .int 0, .int 0, .int 0, .int 0, .int 0, .int 0, .int 0, .int 0, .ref (qb 0), .ref (qb 1), .ref (qb 2), .ref (qb 3), .int 0, .ref (qb 4), .ref (qb 5), .ref (qb 6), .ref (qb 7), .ref (qb 8), .ref (qb 9), .ref (qb 10), .ref (qb 11), .ref (qb 12), .ref (qb 13), .ref (qb 14), .ref (qb 15), .ref (qb 16), .ref (qb 17), .ref (qb 18), .ref (qb 19), .ref (qb 20), .int 0, .int 0, .int 0, .int 0, .long 0, .long 0, .long 0, .long 0, .long 0, .ref (qb 21), .int 0, .int 0, .int 0, .int 0])), (qo, .inl (cj, 1, .inr (.inl (fun _ => 0))))] H := hP.sub [0, 10, 15] rfl
  have hD : va_D A [(qx, .inr (0, [.ref (qa 0), .ref (qa 1), .ref (qa 2), .int 0])), (qm, .inr (7, [.int 0, .int 0, .int 0, .int 0, .int 0, .int 0, .int (-1), .int (-1), .int 0, .int 0, .int 0, .int 0, .int 0, .int 0, .int 0, .int 0, .ref (qb 0), .ref (qb 1), .ref (qb 2), .ref (qb 3), .int 0, .ref (qb 4), .ref (qb 5), .ref (qb 6), .ref (qb 7), .ref (qb 8), .ref (qb 9), .ref (qb 10), .ref (qb 11), .ref (qb 12), .ref (qb 13), .ref (qb 14), .ref (qb 15), .ref (qb 16), .ref (qb 17), .ref (qb 18), .ref (qb 19), .ref (qb 20), .int 0, .int 0, .int 0, .int 0, .long 0, .long 0, .long 0, .long 0, .long 0, .ref (qb 21), .int 0, .int 0, .int 0, .int 0])), (qo, .inl (cj, 1, .inr (.inl (fun _ => 0))))] := hD.sub [0, 10, 15] (by decide) rfl
  have hK : va_K D cls [(cj, .long)] s := hK.sub [7] rfl
  refine lv_aload_n hx hb d_law_744 rfl (lv_at hl 3 rfl) ?_
  refine lv_aload_n hx hb d_law_745 rfl (lv_at hl 4 rfl) ?_
  refine lv_iload hx hb d_law_746 (lv_at hl 0 rfl) ?_
  refine lv_iconst (v := 1) hx hb d_law_748 (by decide) ?_
  refine lv_iadd hx hb d_law_749 ?_
  refine lv_topi (fun z1 ez1 => ?_)
  obtain rfl : z1 = 1 := ez1.trans (by decide)
  refine va_sld hx hb hX hbl hbA hS (by unfold vp_in; decide) d_law_750 ?_
  refine W.eq (g2 := F0 m 751 ls [.int (xs 1), .ref qx]) rfl ?_
  refine lv_aload_n hx hb d_law_751 rfl (lv_at hl 1 rfl) ?_
  refine xc_SW (As := [.ref qx, .int (xs 1), .ref qo]) (rest := []) (n := 3) (wc := [(qx, .inr (0, [.ref (qa 0), .ref (qa 1), .ref (qa 2), .int 0])), (qo, .inl (cj, 1, .inr (.inl (fun _ => 0))))]) (wr := [(qm, .inr (7, [.int 0, .int 0, .int 0, .int 0, .int 0, .int 0, .int (-1), .int (-1), .int 0, .int 0, .int 0, .int 0, .int 0, .int 0, .int 0, .int 0, .ref (qb 0), .ref (qb 1), .ref (qb 2), .ref (qb 3), .int 0, .ref (qb 4), .ref (qb 5), .ref (qb 6), .ref (qb 7), .ref (qb 8), .ref (qb 9), .ref (qb 10), .ref (qb 11), .ref (qb 12), .ref (qb 13), .ref (qb 14), .ref (qb 15), .ref (qb 16), .ref (qb 17), .ref (qb 18), .ref (qb 19), .ref (qb 20), .int 0, .int 0, .int 0, .int 0, .long 0, .long 0, .long 0, .long 0, .long 0, .ref (qb 21), .int 0, .int 0, .int 0, .int 0]))]) (tc := [(cj, .long)]) (tr := []) ⟨hx, hb, hml, hown, hts⟩ (c_La_link_1 l htr D qx qo cj qa qk (xs 1) h1 H.size) rfl rfl w_357 w_355 w_356 w_0 (by decide +kernel) ⟨Nat.le_of_ble_eq_true rfl, Nat.le_of_ble_eq_true rfl⟩ hP hD hK hS hA hN hZ [0, 2] [1] rfl rfl (by decide) (by decide) (by decide) [0] [] rfl rfl rfl hl.1 rfl (Nat.le_of_ble_eq_true rfl) d_law_752 ⟨Nat.le_of_ble_eq_true rfl, Nat.le_of_ble_eq_true rfl⟩ (fun u2 H locs hP hD hK hS => ?_)
  have hP : va_P D cls [(qm, .inr (7, [.int 0, .int 0, .int 0, .int 0, .int 0, .int 0, .int (-1), .int (-1), .int 0, .int 0, .int 0, .int 0, .int 0, .int 0, .int 0, .int 0, .ref (qb 0), .ref (qb 1), .ref (qb 2), .ref (qb 3), .int 0, .ref (qb 4), .ref (qb 5), .ref (qb 6), .ref (qb 7), .ref (qb 8), .ref (qb 9), .ref (qb 10), .ref (qb 11), .ref (qb 12), .ref (qb 13), .ref (qb 14), .ref (qb 15), .ref (qb 16), .ref (qb 17), .ref (qb 18), .ref (qb 19), .ref (qb 20), .int 0, .int 0, .int 0, .int 0, .long 0, .long 0, .long 0, .long 0, .long 0, .ref (qb 21), .int 0, .int 0, .int 0, .int 0])), (qo, .inl (cj, 1, .inr (.inl (fun _ => 0))))] H := hP
  have hD : va_D A [(qm, .inr (7, [.int 0, .int 0, .int 0, .int 0, .int 0, .int 0, .int (-1), .int (-1), .int 0, .int 0, .int 0, .int 0, .int 0, .int 0, .int 0, .int 0, .ref (qb 0), .ref (qb 1), .ref (qb 2), .ref (qb 3), .int 0, .ref (qb 4), .ref (qb 5), .ref (qb 6), .ref (qb 7), .ref (qb 8), .ref (qb 9), .ref (qb 10), .ref (qb 11), .ref (qb 12), .ref (qb 13), .ref (qb 14), .ref (qb 15), .ref (qb 16), .ref (qb 17), .ref (qb 18), .ref (qb 19), .ref (qb 20), .int 0, .int 0, .int 0, .int 0, .long 0, .long 0, .long 0, .long 0, .long 0, .ref (qb 21), .int 0, .int 0, .int 0, .int 0])), (qo, .inl (cj, 1, .inr (.inl (fun _ => 0))))] := hD
  have hK : va_K D cls [(cj, .long)] s := hK
  refine W.widen (k := 224) (n := 300064) (by omega) (by omega) ?_
  refine W.eq (g2 := F0 m 755 ls [.int 1]) rfl ?_
  refine lv_istore (lv' := [(5, .int 1), (4, .int 0), (3, .ref qo), (2, .ref qm), (1, .ref qx), (0, .ref b)]) hx hb d_law_755 hl (by decide) rfl (fun ls hl => ?_)
  refine lv_aload_n hx hb d_law_757 rfl (lv_at hl 3 rfl) ?_
  refine lv_aload_n hx hb d_law_758 rfl (lv_at hl 5 rfl) ?_
  refine lv_iload hx hb d_law_759 (lv_at hl 1 rfl) ?_
  refine lv_iconst (v := 1) hx hb d_law_761 (by decide) ?_
  refine lv_iadd hx hb d_law_762 ?_
  refine lv_topi (fun z3 ez3 => ?_)
  obtain rfl : z3 = 1 := ez3.trans (by decide)
  refine va_sld hx hb hX hbl hbA hS (by unfold vp_in; decide) d_law_763 ?_
  refine W.eq (g2 := F0 m 764 ls [.int (xs 1), .ref qm]) rfl ?_
  refine xc_V (As := [.int (xs 1)]) (rest := []) (n := 1) (wc := [(qm, .inr (7, [.int 0, .int 0, .int 0, .int 0, .int 0, .int 0, .int (-1), .int (-1), .int 0, .int 0, .int 0, .int 0, .int 0, .int 0, .int 0, .int 0, .ref (qb 0), .ref (qb 1), .ref (qb 2), .ref (qb 3), .int 0, .ref (qb 4), .ref (qb 5), .ref (qb 6), .ref (qb 7), .ref (qb 8), .ref (qb 9), .ref (qb 10), .ref (qb 11), .ref (qb 12), .ref (qb 13), .ref (qb 14), .ref (qb 15), .ref (qb 16), .ref (qb 17), .ref (qb 18), .ref (qb 19), .ref (qb 20), .int 0, .int 0, .int 0, .int 0, .long 0, .long 0, .long 0, .long 0, .long 0, .ref (qb 21), .int 0, .int 0, .int 0, .int 0]))]) (wr := [(qo, .inl (cj, 1, .inr (.inl (fun _ => 0))))]) (tc := []) (tr := [(cj, .long)]) ⟨hx, hb, hml, hown, hts⟩ (c_Mo_link_1 l D qm qb (xs 1) h1 H.size) rfl rfl w_530 w_527 w_528 w_529 w_8 (by decide +kernel) ⟨Nat.le_of_ble_eq_true rfl, Nat.le_of_ble_eq_true rfl⟩ hP hD hK hS hA hN hZ [0] [1] rfl rfl (by decide) (by decide) (by decide) [] [0] rfl rfl (ci := 7) (q0 := 0) (q := (R_Mo, F_Mo, 52)) rfl rfl rfl rfl hl.1 rfl (Nat.le_of_ble_eq_true rfl) d_law_764 ⟨Nat.le_of_ble_eq_true rfl, Nat.le_of_ble_eq_true rfl⟩ (fun u4 H locs hP hD hK hS => ?_)
  have hP : va_P D cls [(qo, .inl (cj, 1, .inr (.inl (fun _ => 0)))), (qm, .inr (7, [.int 1, .int 0, .int 0, .int 0, .int 0, .int 0, .int (-1), .int (-1), .int 0, .int 0, .int 0, .int 0, .int 0, .int 0, .int 0, .int 0, .ref (qb 0), .ref (qb 1), .ref (qb 2), .ref (qb 3), .int 0, .ref (qb 4), .ref (qb 5), .ref (qb 6), .ref (qb 7), .ref (qb 8), .ref (qb 9), .ref (qb 10), .ref (qb 11), .ref (qb 12), .ref (qb 13), .ref (qb 14), .ref (qb 15), .ref (qb 16), .ref (qb 17), .ref (qb 18), .ref (qb 19), .ref (qb 20), .int 0, .int 0, .int 0, .int 0, .long 0, .long 0, .long 0, .long 0, .long 0, .ref (qb 21), .int 0, .int 0, .int 0, .int 0]))] H := hP
  have hD : va_D A [(qo, .inl (cj, 1, .inr (.inl (fun _ => 0)))), (qm, .inr (7, [.int 1, .int 0, .int 0, .int 0, .int 0, .int 0, .int (-1), .int (-1), .int 0, .int 0, .int 0, .int 0, .int 0, .int 0, .int 0, .int 0, .ref (qb 0), .ref (qb 1), .ref (qb 2), .ref (qb 3), .int 0, .ref (qb 4), .ref (qb 5), .ref (qb 6), .ref (qb 7), .ref (qb 8), .ref (qb 9), .ref (qb 10), .ref (qb 11), .ref (qb 12), .ref (qb 13), .ref (qb 14), .ref (qb 15), .ref (qb 16), .ref (qb 17), .ref (qb 18), .ref (qb 19), .ref (qb 20), .int 0, .int 0, .int 0, .int 0, .long 0, .long 0, .long 0, .long 0, .long 0, .ref (qb 21), .int 0, .int 0, .int 0, .int 0]))] := hD
  have hK : va_K D cls [(cj, .long)] s := hK
  refine W.eq (g2 := F0 m 767 ls [.int 0]) rfl ?_
  refine lv_istore (lv' := [(6, .int 0), (5, .int 1), (4, .int 0), (3, .ref qo), (2, .ref qm), (1, .ref qx), (0, .ref b)]) hx hb d_law_767 hl (by decide) rfl (fun ls hl => ?_)
  refine lv_aload_n hx hb d_law_769 rfl (lv_at hl 4 rfl) ?_
  refine xc_V (As := []) (rest := []) (n := 0) (wc := [(qm, .inr (7, [.int 1, .int 0, .int 0, .int 0, .int 0, .int 0, .int (-1), .int (-1), .int 0, .int 0, .int 0, .int 0, .int 0, .int 0, .int 0, .int 0, .ref (qb 0), .ref (qb 1), .ref (qb 2), .ref (qb 3), .int 0, .ref (qb 4), .ref (qb 5), .ref (qb 6), .ref (qb 7), .ref (qb 8), .ref (qb 9), .ref (qb 10), .ref (qb 11), .ref (qb 12), .ref (qb 13), .ref (qb 14), .ref (qb 15), .ref (qb 16), .ref (qb 17), .ref (qb 18), .ref (qb 19), .ref (qb 20), .int 0, .int 0, .int 0, .int 0, .long 0, .long 0, .long 0, .long 0, .long 0, .ref (qb 21), .int 0, .int 0, .int 0, .int 0]))]) (wr := [(qo, .inl (cj, 1, .inr (.inl (fun _ => 0))))]) (tc := []) (tr := [(cj, .long)]) ⟨hx, hb, hml, hown, hts⟩ (c_Mo_thrown_1 l D qm qb H.size) rfl rfl w_445 w_442 w_443 w_444 w_8 (by decide +kernel) ⟨Nat.le_of_ble_eq_true rfl, Nat.le_of_ble_eq_true rfl⟩ hP hD hK hS hA hN hZ [1] [0] rfl rfl (by decide) (by decide) (by decide) [] [0] rfl rfl (ci := 7) (q0 := 0) (q := (R_Mo, F_Mo, 52)) rfl rfl rfl rfl hl.1 rfl (Nat.le_of_ble_eq_true rfl) d_law_770 ⟨Nat.le_of_ble_eq_true rfl, Nat.le_of_ble_eq_true rfl⟩ (fun u5 H locs hP hD hK hS => ?_)
  have hP : va_P D cls [(qo, .inl (cj, 1, .inr (.inl (fun _ => 0)))), (qm, .inr (7, [.int 1, .int 0, .int 0, .int 0, .int 0, .int 0, .int (-1), .int (-1), .int 0, .int 0, .int 0, .int 0, .int 0, .int 0, .int 0, .int 0, .ref (qb 0), .ref (qb 1), .ref (qb 2), .ref (qb 3), .int 0, .ref (qb 4), .ref (qb 5), .ref (qb 6), .ref (qb 7), .ref (qb 8), .ref (qb 9), .ref (qb 10), .ref (qb 11), .ref (qb 12), .ref (qb 13), .ref (qb 14), .ref (qb 15), .ref (qb 16), .ref (qb 17), .ref (qb 18), .ref (qb 19), .ref (qb 20), .int 0, .int 0, .int 0, .int 0, .long 0, .long 0, .long 0, .long 0, .long 0, .ref (qb 21), .int 0, .int 0, .int 0, .int 0]))] H := hP
  have hD : va_D A [(qo, .inl (cj, 1, .inr (.inl (fun _ => 0)))), (qm, .inr (7, [.int 1, .int 0, .int 0, .int 0, .int 0, .int 0, .int (-1), .int (-1), .int 0, .int 0, .int 0, .int 0, .int 0, .int 0, .int 0, .int 0, .ref (qb 0), .ref (qb 1), .ref (qb 2), .ref (qb 3), .int 0, .ref (qb 4), .ref (qb 5), .ref (qb 6), .ref (qb 7), .ref (qb 8), .ref (qb 9), .ref (qb 10), .ref (qb 11), .ref (qb 12), .ref (qb 13), .ref (qb 14), .ref (qb 15), .ref (qb 16), .ref (qb 17), .ref (qb 18), .ref (qb 19), .ref (qb 20), .int 0, .int 0, .int 0, .int 0, .long 0, .long 0, .long 0, .long 0, .long 0, .ref (qb 21), .int 0, .int 0, .int 0, .int 0]))] := hD
  have hK : va_K D cls [(cj, .long)] s := hK
  refine W.eq (g2 := F0 m 773 ls [.int 1]) rfl ?_
  refine lv_iload hx hb d_law_773 (lv_at hl 1 rfl) ?_
  refine lv_icmp_eq (tgt := 780) hx hb d_law_775 (by decide) (fun _ => ?_) (fun q9 => absurd (by decide : ((1 : Int32) = 1)) q9)
  refine lv_iload hx hb d_law_780 (lv_at hl 1 rfl) ?_
  refine lv_if_ne (tgt := 797) hx hb d_law_782 (by decide) (fun _ => ?_) (fun q9 => absurd q9 (by decide : ¬ ((1 : Int32) = 0)))
  refine lv_goto (tgt := 1005) hx hb d_law_797 (by decide) ?_
  exact law_tail C0 hA hAf hS (Nat.le_of_ble_eq_true rfl) (Nat.le_of_ble_eq_true rfl) (lv_sub hl [6, 2] rfl)

set_option maxHeartbeats 4000000 in
set_option maxRecDepth 100000 in
theorem l_link_2 {p : Program} {l : Launch} {e : Env} {s : State} {m : MethodId} {below : List Frame} {meth : Method} {c : Code} {b : Nat} {xs : Nat → Int32} (htr : l.stackTraces = false) (C0 : lw_At p s m meth c b 5 xs) {A : Nat → Prop} (hA : ∀ q, s.heap.size ≤ q → A q) (hAf : ∀ q, A q → s.heap.size ≤ q) (hN : xN s) (hZ : xZ A s s.heap) {D : va_G} {qx qm qo : Nat} {cj : ClassId} {qa qb : Nat → Nat} {qk ql : Nat → ClassId} {uf : Nat → Option Nat} {H : Heap} {locs : List Loc} (h1 : (xs 1 &&& 7) = 0) (hP : va_P D cls (lawW qx qm qo cj qa qb qk ql uf) H) (hD : va_D A (lawW qx qm qo cj qa qb qk ql uf)) (hK : va_K D cls (lawT cj qk ql) s) (hS : va_S A s.heap H locs) {ls : Array Slot} (hl : lv_has ls 7 [(4, .int 0), (3, .ref qo), (2, .ref qm), (1, .ref qx), (0, .ref b)]) : W p l e room_1 s m #[Value.ref b] below meth c H locs 223 300058 (lw_Z below #[Value.ref b] s) (F0 m 744 ls []) := by
  obtain ⟨hx, hb, hr, hml, hown, hts0, hX, hbl, hlocks, hgv⟩ := id C0
  have hown : s.vm.findClass "ObjectForgeLaw" = some m.cls := hown
  have hbA : ¬ A b := fun h => absurd (hAf b h) (Nat.not_le.mpr hbl)
  have hts : ∀ w ∈ bw, w.before #[Value.ref b] s = true := fun w h => hts0 w (bw_in w h)
  have hP : va_P D cls [(qx, .inr (0, [.ref (qa 0), .ref (qa 1), .ref (qa 2), .int 0])), (qm, .inr (7, [.int 0, .int 0, .int 0, .int 0, .int 0, .int 0, .int (-1), .int (-1), .int 0, .int 0, .int 0, .int 0, .int 0, .int 0, .int 0, .int 0, .ref (qb 0), .ref (qb 1), .ref (qb 2), .ref (qb 3), .int 0, .ref (qb 4), .ref (qb 5), .ref (qb 6), .ref (qb 7), .ref (qb 8), .ref (qb 9), .ref (qb 10), .ref (qb 11), .ref (qb 12), .ref (qb 13), .ref (qb 14), .ref (qb 15), .ref (qb 16), .ref (qb 17), .ref (qb 18), .ref (qb 19), .ref (qb 20), .int 0, .int 0, .int 0, .int 0, .long 0, .long 0, .long 0, .long 0, .long 0, .ref (qb 21), .int 0, .int 0, .int 0, .int 0])), (qo, .inl (cj, 1, .inr (.inl (fun _ => 0))))] H := hP.sub [0, 10, 15] rfl
  have hD : va_D A [(qx, .inr (0, [.ref (qa 0), .ref (qa 1), .ref (qa 2), .int 0])), (qm, .inr (7, [.int 0, .int 0, .int 0, .int 0, .int 0, .int 0, .int (-1), .int (-1), .int 0, .int 0, .int 0, .int 0, .int 0, .int 0, .int 0, .int 0, .ref (qb 0), .ref (qb 1), .ref (qb 2), .ref (qb 3), .int 0, .ref (qb 4), .ref (qb 5), .ref (qb 6), .ref (qb 7), .ref (qb 8), .ref (qb 9), .ref (qb 10), .ref (qb 11), .ref (qb 12), .ref (qb 13), .ref (qb 14), .ref (qb 15), .ref (qb 16), .ref (qb 17), .ref (qb 18), .ref (qb 19), .ref (qb 20), .int 0, .int 0, .int 0, .int 0, .long 0, .long 0, .long 0, .long 0, .long 0, .ref (qb 21), .int 0, .int 0, .int 0, .int 0])), (qo, .inl (cj, 1, .inr (.inl (fun _ => 0))))] := hD.sub [0, 10, 15] (by decide) rfl
  have hK : va_K D cls [(cj, .long)] s := hK.sub [7] rfl
  refine lv_aload_n hx hb d_law_744 rfl (lv_at hl 3 rfl) ?_
  refine lv_aload_n hx hb d_law_745 rfl (lv_at hl 4 rfl) ?_
  refine lv_iload hx hb d_law_746 (lv_at hl 0 rfl) ?_
  refine lv_iconst (v := 1) hx hb d_law_748 (by decide) ?_
  refine lv_iadd hx hb d_law_749 ?_
  refine lv_topi (fun z1 ez1 => ?_)
  obtain rfl : z1 = 1 := ez1.trans (by decide)
  refine va_sld hx hb hX hbl hbA hS (by unfold vp_in; decide) d_law_750 ?_
  refine W.eq (g2 := F0 m 751 ls [.int (xs 1), .ref qx]) rfl ?_
  refine lv_aload_n hx hb d_law_751 rfl (lv_at hl 1 rfl) ?_
  refine xc_SW (As := [.ref qx, .int (xs 1), .ref qo]) (rest := []) (n := 3) (wc := [(qx, .inr (0, [.ref (qa 0), .ref (qa 1), .ref (qa 2), .int 0])), (qo, .inl (cj, 1, .inr (.inl (fun _ => 0))))]) (wr := [(qm, .inr (7, [.int 0, .int 0, .int 0, .int 0, .int 0, .int 0, .int (-1), .int (-1), .int 0, .int 0, .int 0, .int 0, .int 0, .int 0, .int 0, .int 0, .ref (qb 0), .ref (qb 1), .ref (qb 2), .ref (qb 3), .int 0, .ref (qb 4), .ref (qb 5), .ref (qb 6), .ref (qb 7), .ref (qb 8), .ref (qb 9), .ref (qb 10), .ref (qb 11), .ref (qb 12), .ref (qb 13), .ref (qb 14), .ref (qb 15), .ref (qb 16), .ref (qb 17), .ref (qb 18), .ref (qb 19), .ref (qb 20), .int 0, .int 0, .int 0, .int 0, .long 0, .long 0, .long 0, .long 0, .long 0, .ref (qb 21), .int 0, .int 0, .int 0, .int 0]))]) (tc := [(cj, .long)]) (tr := []) ⟨hx, hb, hml, hown, hts⟩ (c_La_link_2 l htr D qx qo cj qa qk (xs 1) h1 H.size) rfl rfl w_357 w_355 w_356 w_0 (by decide +kernel) ⟨Nat.le_of_ble_eq_true rfl, Nat.le_of_ble_eq_true rfl⟩ hP hD hK hS hA hN hZ [0, 2] [1] rfl rfl (by decide) (by decide) (by decide) [0] [] rfl rfl rfl hl.1 rfl (Nat.le_of_ble_eq_true rfl) d_law_752 ⟨Nat.le_of_ble_eq_true rfl, Nat.le_of_ble_eq_true rfl⟩ (fun u2 H locs hP hD hK hS => ?_)
  have hP : va_P D cls [(qm, .inr (7, [.int 0, .int 0, .int 0, .int 0, .int 0, .int 0, .int (-1), .int (-1), .int 0, .int 0, .int 0, .int 0, .int 0, .int 0, .int 0, .int 0, .ref (qb 0), .ref (qb 1), .ref (qb 2), .ref (qb 3), .int 0, .ref (qb 4), .ref (qb 5), .ref (qb 6), .ref (qb 7), .ref (qb 8), .ref (qb 9), .ref (qb 10), .ref (qb 11), .ref (qb 12), .ref (qb 13), .ref (qb 14), .ref (qb 15), .ref (qb 16), .ref (qb 17), .ref (qb 18), .ref (qb 19), .ref (qb 20), .int 0, .int 0, .int 0, .int 0, .long 0, .long 0, .long 0, .long 0, .long 0, .ref (qb 21), .int 0, .int 0, .int 0, .int 0])), (qo, .inl (cj, 1, .inr (.inl (fun _ => 0))))] H := hP
  have hD : va_D A [(qm, .inr (7, [.int 0, .int 0, .int 0, .int 0, .int 0, .int 0, .int (-1), .int (-1), .int 0, .int 0, .int 0, .int 0, .int 0, .int 0, .int 0, .int 0, .ref (qb 0), .ref (qb 1), .ref (qb 2), .ref (qb 3), .int 0, .ref (qb 4), .ref (qb 5), .ref (qb 6), .ref (qb 7), .ref (qb 8), .ref (qb 9), .ref (qb 10), .ref (qb 11), .ref (qb 12), .ref (qb 13), .ref (qb 14), .ref (qb 15), .ref (qb 16), .ref (qb 17), .ref (qb 18), .ref (qb 19), .ref (qb 20), .int 0, .int 0, .int 0, .int 0, .long 0, .long 0, .long 0, .long 0, .long 0, .ref (qb 21), .int 0, .int 0, .int 0, .int 0])), (qo, .inl (cj, 1, .inr (.inl (fun _ => 0))))] := hD
  have hK : va_K D cls [(cj, .long)] s := hK
  refine W.widen (k := 224) (n := 300064) (by omega) (by omega) ?_
  refine W.eq (g2 := F0 m 755 ls [.int 2]) rfl ?_
  refine lv_istore (lv' := [(5, .int 2), (4, .int 0), (3, .ref qo), (2, .ref qm), (1, .ref qx), (0, .ref b)]) hx hb d_law_755 hl (by decide) rfl (fun ls hl => ?_)
  refine lv_aload_n hx hb d_law_757 rfl (lv_at hl 3 rfl) ?_
  refine lv_aload_n hx hb d_law_758 rfl (lv_at hl 5 rfl) ?_
  refine lv_iload hx hb d_law_759 (lv_at hl 1 rfl) ?_
  refine lv_iconst (v := 1) hx hb d_law_761 (by decide) ?_
  refine lv_iadd hx hb d_law_762 ?_
  refine lv_topi (fun z3 ez3 => ?_)
  obtain rfl : z3 = 1 := ez3.trans (by decide)
  refine va_sld hx hb hX hbl hbA hS (by unfold vp_in; decide) d_law_763 ?_
  refine W.eq (g2 := F0 m 764 ls [.int (xs 1), .ref qm]) rfl ?_
  refine xc_V (As := [.int (xs 1)]) (rest := []) (n := 1) (wc := [(qm, .inr (7, [.int 0, .int 0, .int 0, .int 0, .int 0, .int 0, .int (-1), .int (-1), .int 0, .int 0, .int 0, .int 0, .int 0, .int 0, .int 0, .int 0, .ref (qb 0), .ref (qb 1), .ref (qb 2), .ref (qb 3), .int 0, .ref (qb 4), .ref (qb 5), .ref (qb 6), .ref (qb 7), .ref (qb 8), .ref (qb 9), .ref (qb 10), .ref (qb 11), .ref (qb 12), .ref (qb 13), .ref (qb 14), .ref (qb 15), .ref (qb 16), .ref (qb 17), .ref (qb 18), .ref (qb 19), .ref (qb 20), .int 0, .int 0, .int 0, .int 0, .long 0, .long 0, .long 0, .long 0, .long 0, .ref (qb 21), .int 0, .int 0, .int 0, .int 0]))]) (wr := [(qo, .inl (cj, 1, .inr (.inl (fun _ => 0))))]) (tc := []) (tr := [(cj, .long)]) ⟨hx, hb, hml, hown, hts⟩ (c_Mo_link_2 l D qm qb (xs 1) h1 H.size) rfl rfl w_530 w_527 w_528 w_529 w_8 (by decide +kernel) ⟨Nat.le_of_ble_eq_true rfl, Nat.le_of_ble_eq_true rfl⟩ hP hD hK hS hA hN hZ [0] [1] rfl rfl (by decide) (by decide) (by decide) [] [0] rfl rfl (ci := 7) (q0 := 0) (q := (R_Mo, F_Mo, 52)) rfl rfl rfl rfl hl.1 rfl (Nat.le_of_ble_eq_true rfl) d_law_764 ⟨Nat.le_of_ble_eq_true rfl, Nat.le_of_ble_eq_true rfl⟩ (fun u4 H locs hP hD hK hS => ?_)
  have hP : va_P D cls [(qo, .inl (cj, 1, .inr (.inl (fun _ => 0)))), (qm, .inr (7, [.int 2, .int 0, .int 0, .int 0, .int 0, .int 0, .int (-1), .int (-1), .int 0, .int 0, .int 0, .int 0, .int 0, .int 0, .int 0, .int 0, .ref (qb 0), .ref (qb 1), .ref (qb 2), .ref (qb 3), .int 0, .ref (qb 4), .ref (qb 5), .ref (qb 6), .ref (qb 7), .ref (qb 8), .ref (qb 9), .ref (qb 10), .ref (qb 11), .ref (qb 12), .ref (qb 13), .ref (qb 14), .ref (qb 15), .ref (qb 16), .ref (qb 17), .ref (qb 18), .ref (qb 19), .ref (qb 20), .int 0, .int 0, .int 0, .int 0, .long 0, .long 0, .long 0, .long 0, .long 0, .ref (qb 21), .int 0, .int 0, .int 0, .int 0]))] H := hP
  have hD : va_D A [(qo, .inl (cj, 1, .inr (.inl (fun _ => 0)))), (qm, .inr (7, [.int 2, .int 0, .int 0, .int 0, .int 0, .int 0, .int (-1), .int (-1), .int 0, .int 0, .int 0, .int 0, .int 0, .int 0, .int 0, .int 0, .ref (qb 0), .ref (qb 1), .ref (qb 2), .ref (qb 3), .int 0, .ref (qb 4), .ref (qb 5), .ref (qb 6), .ref (qb 7), .ref (qb 8), .ref (qb 9), .ref (qb 10), .ref (qb 11), .ref (qb 12), .ref (qb 13), .ref (qb 14), .ref (qb 15), .ref (qb 16), .ref (qb 17), .ref (qb 18), .ref (qb 19), .ref (qb 20), .int 0, .int 0, .int 0, .int 0, .long 0, .long 0, .long 0, .long 0, .long 0, .ref (qb 21), .int 0, .int 0, .int 0, .int 0]))] := hD
  have hK : va_K D cls [(cj, .long)] s := hK
  refine W.eq (g2 := F0 m 767 ls [.int 0]) rfl ?_
  refine lv_istore (lv' := [(6, .int 0), (5, .int 2), (4, .int 0), (3, .ref qo), (2, .ref qm), (1, .ref qx), (0, .ref b)]) hx hb d_law_767 hl (by decide) rfl (fun ls hl => ?_)
  refine lv_aload_n hx hb d_law_769 rfl (lv_at hl 4 rfl) ?_
  refine xc_V (As := []) (rest := []) (n := 0) (wc := [(qm, .inr (7, [.int 2, .int 0, .int 0, .int 0, .int 0, .int 0, .int (-1), .int (-1), .int 0, .int 0, .int 0, .int 0, .int 0, .int 0, .int 0, .int 0, .ref (qb 0), .ref (qb 1), .ref (qb 2), .ref (qb 3), .int 0, .ref (qb 4), .ref (qb 5), .ref (qb 6), .ref (qb 7), .ref (qb 8), .ref (qb 9), .ref (qb 10), .ref (qb 11), .ref (qb 12), .ref (qb 13), .ref (qb 14), .ref (qb 15), .ref (qb 16), .ref (qb 17), .ref (qb 18), .ref (qb 19), .ref (qb 20), .int 0, .int 0, .int 0, .int 0, .long 0, .long 0, .long 0, .long 0, .long 0, .ref (qb 21), .int 0, .int 0, .int 0, .int 0]))]) (wr := [(qo, .inl (cj, 1, .inr (.inl (fun _ => 0))))]) (tc := []) (tr := [(cj, .long)]) ⟨hx, hb, hml, hown, hts⟩ (c_Mo_thrown_2 l D qm qb H.size) rfl rfl w_445 w_442 w_443 w_444 w_8 (by decide +kernel) ⟨Nat.le_of_ble_eq_true rfl, Nat.le_of_ble_eq_true rfl⟩ hP hD hK hS hA hN hZ [1] [0] rfl rfl (by decide) (by decide) (by decide) [] [0] rfl rfl (ci := 7) (q0 := 0) (q := (R_Mo, F_Mo, 52)) rfl rfl rfl rfl hl.1 rfl (Nat.le_of_ble_eq_true rfl) d_law_770 ⟨Nat.le_of_ble_eq_true rfl, Nat.le_of_ble_eq_true rfl⟩ (fun u5 H locs hP hD hK hS => ?_)
  have hP : va_P D cls [(qo, .inl (cj, 1, .inr (.inl (fun _ => 0)))), (qm, .inr (7, [.int 2, .int 0, .int 0, .int 0, .int 0, .int 0, .int (-1), .int (-1), .int 0, .int 0, .int 0, .int 0, .int 0, .int 0, .int 0, .int 0, .ref (qb 0), .ref (qb 1), .ref (qb 2), .ref (qb 3), .int 0, .ref (qb 4), .ref (qb 5), .ref (qb 6), .ref (qb 7), .ref (qb 8), .ref (qb 9), .ref (qb 10), .ref (qb 11), .ref (qb 12), .ref (qb 13), .ref (qb 14), .ref (qb 15), .ref (qb 16), .ref (qb 17), .ref (qb 18), .ref (qb 19), .ref (qb 20), .int 0, .int 0, .int 0, .int 0, .long 0, .long 0, .long 0, .long 0, .long 0, .ref (qb 21), .int 0, .int 0, .int 0, .int 0]))] H := hP
  have hD : va_D A [(qo, .inl (cj, 1, .inr (.inl (fun _ => 0)))), (qm, .inr (7, [.int 2, .int 0, .int 0, .int 0, .int 0, .int 0, .int (-1), .int (-1), .int 0, .int 0, .int 0, .int 0, .int 0, .int 0, .int 0, .int 0, .ref (qb 0), .ref (qb 1), .ref (qb 2), .ref (qb 3), .int 0, .ref (qb 4), .ref (qb 5), .ref (qb 6), .ref (qb 7), .ref (qb 8), .ref (qb 9), .ref (qb 10), .ref (qb 11), .ref (qb 12), .ref (qb 13), .ref (qb 14), .ref (qb 15), .ref (qb 16), .ref (qb 17), .ref (qb 18), .ref (qb 19), .ref (qb 20), .int 0, .int 0, .int 0, .int 0, .long 0, .long 0, .long 0, .long 0, .long 0, .ref (qb 21), .int 0, .int 0, .int 0, .int 0]))] := hD
  have hK : va_K D cls [(cj, .long)] s := hK
  refine W.eq (g2 := F0 m 773 ls [.int 2]) rfl ?_
  refine lv_iload hx hb d_law_773 (lv_at hl 1 rfl) ?_
  refine lv_icmp_eq (tgt := 780) hx hb d_law_775 (by decide) (fun _ => ?_) (fun q9 => absurd (by decide : ((2 : Int32) = 2)) q9)
  refine lv_iload hx hb d_law_780 (lv_at hl 1 rfl) ?_
  refine lv_if_ne (tgt := 797) hx hb d_law_782 (by decide) (fun _ => ?_) (fun q9 => absurd q9 (by decide : ¬ ((2 : Int32) = 0)))
  refine lv_goto (tgt := 1005) hx hb d_law_797 (by decide) ?_
  exact law_tail C0 hA hAf hS (Nat.le_of_ble_eq_true rfl) (Nat.le_of_ble_eq_true rfl) (lv_sub hl [6, 2] rfl)

theorem d_law_800 : decode code 800 = .ok (.aload_n 1, 1) := by decide +kernel
theorem d_law_801 : decode code 801 = .ok (.aload_n 0, 1) := by decide +kernel
theorem d_law_802 : decode code 802 = .ok (.iload 4, 2) := by decide +kernel
theorem d_law_804 : decode code 804 = .ok (.iconst 1, 1) := by decide +kernel
theorem d_law_805 : decode code 805 = .ok (.iadd, 1) := by decide +kernel
theorem d_law_806 : decode code 806 = .ok (.iaload, 1) := by decide +kernel
theorem d_law_807 : decode code 807 = .ok (.aload_n 3, 1) := by decide +kernel
theorem d_law_808 : decode code 808 = .ok (.invokestatic 103, 3) := by decide +kernel
theorem d_law_811 : decode code 811 = .ok (.istore 5, 2) := by decide +kernel
theorem d_law_813 : decode code 813 = .ok (.aload_n 2, 1) := by decide +kernel
theorem d_law_814 : decode code 814 = .ok (.aload_n 0, 1) := by decide +kernel
theorem d_law_815 : decode code 815 = .ok (.iload 4, 2) := by decide +kernel
theorem d_law_817 : decode code 817 = .ok (.iconst 1, 1) := by decide +kernel
theorem d_law_818 : decode code 818 = .ok (.iadd, 1) := by decide +kernel
theorem d_law_819 : decode code 819 = .ok (.iaload, 1) := by decide +kernel
theorem d_law_820 : decode code 820 = .ok (.invokevirtual 105, 3) := by decide +kernel
theorem d_law_823 : decode code 823 = .ok (.istore 6, 2) := by decide +kernel
theorem d_law_825 : decode code 825 = .ok (.aload_n 2, 1) := by decide +kernel
theorem d_law_826 : decode code 826 = .ok (.invokevirtual 69, 3) := by decide +kernel
theorem d_law_829 : decode code 829 = .ok (.iload 5, 2) := by decide +kernel
theorem d_law_831 : decode code 831 = .ok (.if_icmp .eq 5, 3) := by decide +kernel
theorem d_law_836 : decode code 836 = .ok (.iload 5, 2) := by decide +kernel
theorem d_law_838 : decode code 838 = .ok (.ifCond .ne 15, 3) := by decide +kernel
theorem d_law_853 : decode code 853 = .ok (.goto 152, 3) := by decide +kernel
set_option maxHeartbeats 4000000 in
set_option maxRecDepth 100000 in
theorem l_word {p : Program} {l : Launch} {e : Env} {s : State} {m : MethodId} {below : List Frame} {meth : Method} {c : Code} {b : Nat} {xs : Nat → Int32} (htr : l.stackTraces = false) (C0 : lw_At p s m meth c b 5 xs) {A : Nat → Prop} (hA : ∀ q, s.heap.size ≤ q → A q) (hAf : ∀ q, A q → s.heap.size ≤ q) (hN : xN s) (hZ : xZ A s s.heap) {D : va_G} {qx qm qo : Nat} {cj : ClassId} {qa qb : Nat → Nat} {qk ql : Nat → ClassId} {uf : Nat → Option Nat} {H : Heap} {locs : List Loc} (hP : va_P D cls (lawW qx qm qo cj qa qb qk ql uf) H) (hD : va_D A (lawW qx qm qo cj qa qb qk ql uf)) (hK : va_K D cls (lawT cj qk ql) s) (hS : va_S A s.heap H locs) {ls : Array Slot} (hl : lv_has ls 7 [(4, .int 0), (3, .ref qo), (2, .ref qm), (1, .ref qx), (0, .ref b)]) : W p l e room_1 s m #[Value.ref b] below meth c H locs 223 300058 (lw_Z below #[Value.ref b] s) (F0 m 800 ls []) := by
  obtain ⟨hx, hb, hr, hml, hown, hts0, hX, hbl, hlocks, hgv⟩ := id C0
  have hown : s.vm.findClass "ObjectForgeLaw" = some m.cls := hown
  have hbA : ¬ A b := fun h => absurd (hAf b h) (Nat.not_le.mpr hbl)
  have hts : ∀ w ∈ bw, w.before #[Value.ref b] s = true := fun w h => hts0 w (bw_in w h)
  have hP : va_P D cls [(qx, .inr (0, [.ref (qa 0), .ref (qa 1), .ref (qa 2), .int 0])), ((qa 1), .inr (2, [.ref (qa 27), .int 0, .int 0, .int 0, .int 0, .int (-1), .int (-1)])), (qm, .inr (7, [.int 0, .int 0, .int 0, .int 0, .int 0, .int 0, .int (-1), .int (-1), .int 0, .int 0, .int 0, .int 0, .int 0, .int 0, .int 0, .int 0, .ref (qb 0), .ref (qb 1), .ref (qb 2), .ref (qb 3), .int 0, .ref (qb 4), .ref (qb 5), .ref (qb 6), .ref (qb 7), .ref (qb 8), .ref (qb 9), .ref (qb 10), .ref (qb 11), .ref (qb 12), .ref (qb 13), .ref (qb 14), .ref (qb 15), .ref (qb 16), .ref (qb 17), .ref (qb 18), .ref (qb 19), .ref (qb 20), .int 0, .int 0, .int 0, .int 0, .long 0, .long 0, .long 0, .long 0, .long 0, .ref (qb 21), .int 0, .int 0, .int 0, .int 0])), (qo, .inl (cj, 1, .inr (.inl (fun _ => 0))))] H := hP.sub [0, 4, 10, 15] rfl
  have hD : va_D A [(qx, .inr (0, [.ref (qa 0), .ref (qa 1), .ref (qa 2), .int 0])), ((qa 1), .inr (2, [.ref (qa 27), .int 0, .int 0, .int 0, .int 0, .int (-1), .int (-1)])), (qm, .inr (7, [.int 0, .int 0, .int 0, .int 0, .int 0, .int 0, .int (-1), .int (-1), .int 0, .int 0, .int 0, .int 0, .int 0, .int 0, .int 0, .int 0, .ref (qb 0), .ref (qb 1), .ref (qb 2), .ref (qb 3), .int 0, .ref (qb 4), .ref (qb 5), .ref (qb 6), .ref (qb 7), .ref (qb 8), .ref (qb 9), .ref (qb 10), .ref (qb 11), .ref (qb 12), .ref (qb 13), .ref (qb 14), .ref (qb 15), .ref (qb 16), .ref (qb 17), .ref (qb 18), .ref (qb 19), .ref (qb 20), .int 0, .int 0, .int 0, .int 0, .long 0, .long 0, .long 0, .long 0, .long 0, .ref (qb 21), .int 0, .int 0, .int 0, .int 0])), (qo, .inl (cj, 1, .inr (.inl (fun _ => 0))))] := hD.sub [0, 4, 10, 15] (by decide) rfl
  have hK : va_K D cls [(cj, .long)] s := hK.sub [7] rfl
  refine lv_aload_n hx hb d_law_800 rfl (lv_at hl 3 rfl) ?_
  refine lv_aload_n hx hb d_law_801 rfl (lv_at hl 4 rfl) ?_
  refine lv_iload hx hb d_law_802 (lv_at hl 0 rfl) ?_
  refine lv_iconst (v := 1) hx hb d_law_804 (by decide) ?_
  refine lv_iadd hx hb d_law_805 ?_
  refine lv_topi (fun z1 ez1 => ?_)
  obtain rfl : z1 = 1 := ez1.trans (by decide)
  refine va_sld hx hb hX hbl hbA hS (by unfold vp_in; decide) d_law_806 ?_
  refine W.eq (g2 := F0 m 807 ls [.int (xs 1), .ref qx]) rfl ?_
  refine lv_aload_n hx hb d_law_807 rfl (lv_at hl 1 rfl) ?_
  refine xc_SW (As := [.ref qx, .int (xs 1), .ref qo]) (rest := []) (n := 3) (wc := [(qx, .inr (0, [.ref (qa 0), .ref (qa 1), .ref (qa 2), .int 0])), ((qa 1), .inr (2, [.ref (qa 27), .int 0, .int 0, .int 0, .int 0, .int (-1), .int (-1)])), (qo, .inl (cj, 1, .inr (.inl (fun _ => 0))))]) (wr := [(qm, .inr (7, [.int 0, .int 0, .int 0, .int 0, .int 0, .int 0, .int (-1), .int (-1), .int 0, .int 0, .int 0, .int 0, .int 0, .int 0, .int 0, .int 0, .ref (qb 0), .ref (qb 1), .ref (qb 2), .ref (qb 3), .int 0, .ref (qb 4), .ref (qb 5), .ref (qb 6), .ref (qb 7), .ref (qb 8), .ref (qb 9), .ref (qb 10), .ref (qb 11), .ref (qb 12), .ref (qb 13), .ref (qb 14), .ref (qb 15), .ref (qb 16), .ref (qb 17), .ref (qb 18), .ref (qb 19), .ref (qb 20), .int 0, .int 0, .int 0, .int 0, .long 0, .long 0, .long 0, .long 0, .long 0, .ref (qb 21), .int 0, .int 0, .int 0, .int 0]))]) (tc := [(cj, .long)]) (tr := []) ⟨hx, hb, hml, hown, hts⟩ (c_La_word l htr D qx qo cj qa qk (xs 1) H.size) rfl rfl w_365 w_363 w_364 w_0 (by decide +kernel) ⟨Nat.le_of_ble_eq_true rfl, Nat.le_of_ble_eq_true rfl⟩ hP hD hK hS hA hN hZ [0, 1, 3] [2] rfl rfl (by decide) (by decide) (by decide) [0] [] rfl rfl rfl hl.1 rfl (Nat.le_of_ble_eq_true rfl) d_law_808 ⟨Nat.le_of_ble_eq_true rfl, Nat.le_of_ble_eq_true rfl⟩ (fun u2 H locs hP hD hK hS => ?_)
  have hP : va_P D cls [(qm, .inr (7, [.int 0, .int 0, .int 0, .int 0, .int 0, .int 0, .int (-1), .int (-1), .int 0, .int 0, .int 0, .int 0, .int 0, .int 0, .int 0, .int 0, .ref (qb 0), .ref (qb 1), .ref (qb 2), .ref (qb 3), .int 0, .ref (qb 4), .ref (qb 5), .ref (qb 6), .ref (qb 7), .ref (qb 8), .ref (qb 9), .ref (qb 10), .ref (qb 11), .ref (qb 12), .ref (qb 13), .ref (qb 14), .ref (qb 15), .ref (qb 16), .ref (qb 17), .ref (qb 18), .ref (qb 19), .ref (qb 20), .int 0, .int 0, .int 0, .int 0, .long 0, .long 0, .long 0, .long 0, .long 0, .ref (qb 21), .int 0, .int 0, .int 0, .int 0])), (qo, .inl (cj, 1, .inr (.inl (fun _ => 0))))] H := hP
  have hD : va_D A [(qm, .inr (7, [.int 0, .int 0, .int 0, .int 0, .int 0, .int 0, .int (-1), .int (-1), .int 0, .int 0, .int 0, .int 0, .int 0, .int 0, .int 0, .int 0, .ref (qb 0), .ref (qb 1), .ref (qb 2), .ref (qb 3), .int 0, .ref (qb 4), .ref (qb 5), .ref (qb 6), .ref (qb 7), .ref (qb 8), .ref (qb 9), .ref (qb 10), .ref (qb 11), .ref (qb 12), .ref (qb 13), .ref (qb 14), .ref (qb 15), .ref (qb 16), .ref (qb 17), .ref (qb 18), .ref (qb 19), .ref (qb 20), .int 0, .int 0, .int 0, .int 0, .long 0, .long 0, .long 0, .long 0, .long 0, .ref (qb 21), .int 0, .int 0, .int 0, .int 0])), (qo, .inl (cj, 1, .inr (.inl (fun _ => 0))))] := hD
  have hK : va_K D cls [(cj, .long)] s := hK
  refine W.widen (k := 224) (n := 300064) (by omega) (by omega) ?_
  refine W.eq (g2 := F0 m 811 ls [.int 1]) rfl ?_
  refine lv_istore (lv' := [(5, .int 1), (4, .int 0), (3, .ref qo), (2, .ref qm), (1, .ref qx), (0, .ref b)]) hx hb d_law_811 hl (by decide) rfl (fun ls hl => ?_)
  refine lv_aload_n hx hb d_law_813 rfl (lv_at hl 3 rfl) ?_
  refine lv_aload_n hx hb d_law_814 rfl (lv_at hl 5 rfl) ?_
  refine lv_iload hx hb d_law_815 (lv_at hl 1 rfl) ?_
  refine lv_iconst (v := 1) hx hb d_law_817 (by decide) ?_
  refine lv_iadd hx hb d_law_818 ?_
  refine lv_topi (fun z3 ez3 => ?_)
  obtain rfl : z3 = 1 := ez3.trans (by decide)
  refine va_sld hx hb hX hbl hbA hS (by unfold vp_in; decide) d_law_819 ?_
  refine W.eq (g2 := F0 m 820 ls [.int (xs 1), .ref qm]) rfl ?_
  refine xc_V (As := [.int (xs 1)]) (rest := []) (n := 1) (wc := [(qm, .inr (7, [.int 0, .int 0, .int 0, .int 0, .int 0, .int 0, .int (-1), .int (-1), .int 0, .int 0, .int 0, .int 0, .int 0, .int 0, .int 0, .int 0, .ref (qb 0), .ref (qb 1), .ref (qb 2), .ref (qb 3), .int 0, .ref (qb 4), .ref (qb 5), .ref (qb 6), .ref (qb 7), .ref (qb 8), .ref (qb 9), .ref (qb 10), .ref (qb 11), .ref (qb 12), .ref (qb 13), .ref (qb 14), .ref (qb 15), .ref (qb 16), .ref (qb 17), .ref (qb 18), .ref (qb 19), .ref (qb 20), .int 0, .int 0, .int 0, .int 0, .long 0, .long 0, .long 0, .long 0, .long 0, .ref (qb 21), .int 0, .int 0, .int 0, .int 0]))]) (wr := [(qo, .inl (cj, 1, .inr (.inl (fun _ => 0))))]) (tc := []) (tr := [(cj, .long)]) ⟨hx, hb, hml, hown, hts⟩ (c_Mo_word l D qm qb (xs 1) H.size) rfl rfl w_540 w_537 w_538 w_539 w_8 (by decide +kernel) ⟨Nat.le_of_ble_eq_true rfl, Nat.le_of_ble_eq_true rfl⟩ hP hD hK hS hA hN hZ [0] [1] rfl rfl (by decide) (by decide) (by decide) [] [0] rfl rfl (ci := 7) (q0 := 0) (q := (R_Mo, F_Mo, 52)) rfl rfl rfl rfl hl.1 rfl (Nat.le_of_ble_eq_true rfl) d_law_820 ⟨Nat.le_of_ble_eq_true rfl, Nat.le_of_ble_eq_true rfl⟩ (fun u4 H locs hP hD hK hS => ?_)
  have hP : va_P D cls [(qo, .inl (cj, 1, .inr (.inl (fun _ => 0)))), (qm, .inr (7, [.int 1, .int 0, .int 0, .int 0, .int 0, .int 0, .int (-1), .int (-1), .int 0, .int 0, .int 0, .int 0, .int 0, .int 0, .int 0, .int 0, .ref (qb 0), .ref (qb 1), .ref (qb 2), .ref (qb 3), .int 0, .ref (qb 4), .ref (qb 5), .ref (qb 6), .ref (qb 7), .ref (qb 8), .ref (qb 9), .ref (qb 10), .ref (qb 11), .ref (qb 12), .ref (qb 13), .ref (qb 14), .ref (qb 15), .ref (qb 16), .ref (qb 17), .ref (qb 18), .ref (qb 19), .ref (qb 20), .int 0, .int 0, .int 0, .int 0, .long 0, .long 0, .long 0, .long 0, .long 0, .ref (qb 21), .int 0, .int 0, .int 0, .int 0]))] H := hP
  have hD : va_D A [(qo, .inl (cj, 1, .inr (.inl (fun _ => 0)))), (qm, .inr (7, [.int 1, .int 0, .int 0, .int 0, .int 0, .int 0, .int (-1), .int (-1), .int 0, .int 0, .int 0, .int 0, .int 0, .int 0, .int 0, .int 0, .ref (qb 0), .ref (qb 1), .ref (qb 2), .ref (qb 3), .int 0, .ref (qb 4), .ref (qb 5), .ref (qb 6), .ref (qb 7), .ref (qb 8), .ref (qb 9), .ref (qb 10), .ref (qb 11), .ref (qb 12), .ref (qb 13), .ref (qb 14), .ref (qb 15), .ref (qb 16), .ref (qb 17), .ref (qb 18), .ref (qb 19), .ref (qb 20), .int 0, .int 0, .int 0, .int 0, .long 0, .long 0, .long 0, .long 0, .long 0, .ref (qb 21), .int 0, .int 0, .int 0, .int 0]))] := hD
  have hK : va_K D cls [(cj, .long)] s := hK
  refine W.eq (g2 := F0 m 823 ls [.int 0]) rfl ?_
  refine lv_istore (lv' := [(6, .int 0), (5, .int 1), (4, .int 0), (3, .ref qo), (2, .ref qm), (1, .ref qx), (0, .ref b)]) hx hb d_law_823 hl (by decide) rfl (fun ls hl => ?_)
  refine lv_aload_n hx hb d_law_825 rfl (lv_at hl 4 rfl) ?_
  refine xc_V (As := []) (rest := []) (n := 0) (wc := [(qm, .inr (7, [.int 1, .int 0, .int 0, .int 0, .int 0, .int 0, .int (-1), .int (-1), .int 0, .int 0, .int 0, .int 0, .int 0, .int 0, .int 0, .int 0, .ref (qb 0), .ref (qb 1), .ref (qb 2), .ref (qb 3), .int 0, .ref (qb 4), .ref (qb 5), .ref (qb 6), .ref (qb 7), .ref (qb 8), .ref (qb 9), .ref (qb 10), .ref (qb 11), .ref (qb 12), .ref (qb 13), .ref (qb 14), .ref (qb 15), .ref (qb 16), .ref (qb 17), .ref (qb 18), .ref (qb 19), .ref (qb 20), .int 0, .int 0, .int 0, .int 0, .long 0, .long 0, .long 0, .long 0, .long 0, .ref (qb 21), .int 0, .int 0, .int 0, .int 0]))]) (wr := [(qo, .inl (cj, 1, .inr (.inl (fun _ => 0))))]) (tc := []) (tr := [(cj, .long)]) ⟨hx, hb, hml, hown, hts⟩ (c_Mo_thrown_1 l D qm qb H.size) rfl rfl w_445 w_442 w_443 w_444 w_8 (by decide +kernel) ⟨Nat.le_of_ble_eq_true rfl, Nat.le_of_ble_eq_true rfl⟩ hP hD hK hS hA hN hZ [1] [0] rfl rfl (by decide) (by decide) (by decide) [] [0] rfl rfl (ci := 7) (q0 := 0) (q := (R_Mo, F_Mo, 52)) rfl rfl rfl rfl hl.1 rfl (Nat.le_of_ble_eq_true rfl) d_law_826 ⟨Nat.le_of_ble_eq_true rfl, Nat.le_of_ble_eq_true rfl⟩ (fun u5 H locs hP hD hK hS => ?_)
  have hP : va_P D cls [(qo, .inl (cj, 1, .inr (.inl (fun _ => 0)))), (qm, .inr (7, [.int 1, .int 0, .int 0, .int 0, .int 0, .int 0, .int (-1), .int (-1), .int 0, .int 0, .int 0, .int 0, .int 0, .int 0, .int 0, .int 0, .ref (qb 0), .ref (qb 1), .ref (qb 2), .ref (qb 3), .int 0, .ref (qb 4), .ref (qb 5), .ref (qb 6), .ref (qb 7), .ref (qb 8), .ref (qb 9), .ref (qb 10), .ref (qb 11), .ref (qb 12), .ref (qb 13), .ref (qb 14), .ref (qb 15), .ref (qb 16), .ref (qb 17), .ref (qb 18), .ref (qb 19), .ref (qb 20), .int 0, .int 0, .int 0, .int 0, .long 0, .long 0, .long 0, .long 0, .long 0, .ref (qb 21), .int 0, .int 0, .int 0, .int 0]))] H := hP
  have hD : va_D A [(qo, .inl (cj, 1, .inr (.inl (fun _ => 0)))), (qm, .inr (7, [.int 1, .int 0, .int 0, .int 0, .int 0, .int 0, .int (-1), .int (-1), .int 0, .int 0, .int 0, .int 0, .int 0, .int 0, .int 0, .int 0, .ref (qb 0), .ref (qb 1), .ref (qb 2), .ref (qb 3), .int 0, .ref (qb 4), .ref (qb 5), .ref (qb 6), .ref (qb 7), .ref (qb 8), .ref (qb 9), .ref (qb 10), .ref (qb 11), .ref (qb 12), .ref (qb 13), .ref (qb 14), .ref (qb 15), .ref (qb 16), .ref (qb 17), .ref (qb 18), .ref (qb 19), .ref (qb 20), .int 0, .int 0, .int 0, .int 0, .long 0, .long 0, .long 0, .long 0, .long 0, .ref (qb 21), .int 0, .int 0, .int 0, .int 0]))] := hD
  have hK : va_K D cls [(cj, .long)] s := hK
  refine W.eq (g2 := F0 m 829 ls [.int 1]) rfl ?_
  refine lv_iload hx hb d_law_829 (lv_at hl 1 rfl) ?_
  refine lv_icmp_eq (tgt := 836) hx hb d_law_831 (by decide) (fun _ => ?_) (fun q9 => absurd (by decide : ((1 : Int32) = 1)) q9)
  refine lv_iload hx hb d_law_836 (lv_at hl 1 rfl) ?_
  refine lv_if_ne (tgt := 853) hx hb d_law_838 (by decide) (fun _ => ?_) (fun q9 => absurd q9 (by decide : ¬ ((1 : Int32) = 0)))
  refine lv_goto (tgt := 1005) hx hb d_law_853 (by decide) ?_
  exact law_tail C0 hA hAf hS (Nat.le_of_ble_eq_true rfl) (Nat.le_of_ble_eq_true rfl) (lv_sub hl [6, 2] rfl)

theorem d_law_924 : decode code 924 = .ok (.aload_n 1, 1) := by decide +kernel
theorem d_law_925 : decode code 925 = .ok (.invokevirtual 109, 3) := by decide +kernel
theorem d_law_928 : decode code 928 = .ok (.aload_n 2, 1) := by decide +kernel
theorem d_law_929 : decode code 929 = .ok (.invokevirtual 112, 3) := by decide +kernel
theorem d_law_932 : decode code 932 = .ok (.if_icmp .eq 73, 3) := by decide +kernel
set_option maxHeartbeats 4000000 in
set_option maxRecDepth 100000 in
theorem l_clear {p : Program} {l : Launch} {e : Env} {s : State} {m : MethodId} {below : List Frame} {meth : Method} {c : Code} {b : Nat} {xs : Nat → Int32} (htr : l.stackTraces = false) (C0 : lw_At p s m meth c b 5 xs) {A : Nat → Prop} (hA : ∀ q, s.heap.size ≤ q → A q) (hAf : ∀ q, A q → s.heap.size ≤ q) (hN : xN s) (hZ : xZ A s s.heap) {D : va_G} {qx qm qo : Nat} {cj : ClassId} {qa qb : Nat → Nat} {qk ql : Nat → ClassId} {uf : Nat → Option Nat} {H : Heap} {locs : List Loc} (hP : va_P D cls (lawW qx qm qo cj qa qb qk ql uf) H) (hD : va_D A (lawW qx qm qo cj qa qb qk ql uf)) (hK : va_K D cls (lawT cj qk ql) s) (hS : va_S A s.heap H locs) {ls : Array Slot} (hl : lv_has ls 7 [(4, .int 0), (3, .ref qo), (2, .ref qm), (1, .ref qx), (0, .ref b)]) : W p l e room_1 s m #[Value.ref b] below meth c H locs 223 300058 (lw_Z below #[Value.ref b] s) (F0 m 924 ls []) := by
  obtain ⟨hx, hb, hr, hml, hown, hts0, hX, hbl, hlocks, hgv⟩ := id C0
  have hown : s.vm.findClass "ObjectForgeLaw" = some m.cls := hown
  have hbA : ¬ A b := fun h => absurd (hAf b h) (Nat.not_le.mpr hbl)
  have hts : ∀ w ∈ bw, w.before #[Value.ref b] s = true := fun w h => hts0 w (bw_in w h)
  have hP : va_P D cls [(qx, .inr (0, [.ref (qa 0), .ref (qa 1), .ref (qa 2), .int 0])), ((qa 1), .inr (2, [.ref (qa 27), .int 0, .int 0, .int 0, .int 0, .int (-1), .int (-1)])), (qm, .inr (7, [.int 0, .int 0, .int 0, .int 0, .int 0, .int 0, .int (-1), .int (-1), .int 0, .int 0, .int 0, .int 0, .int 0, .int 0, .int 0, .int 0, .ref (qb 0), .ref (qb 1), .ref (qb 2), .ref (qb 3), .int 0, .ref (qb 4), .ref (qb 5), .ref (qb 6), .ref (qb 7), .ref (qb 8), .ref (qb 9), .ref (qb 10), .ref (qb 11), .ref (qb 12), .ref (qb 13), .ref (qb 14), .ref (qb 15), .ref (qb 16), .ref (qb 17), .ref (qb 18), .ref (qb 19), .ref (qb 20), .int 0, .int 0, .int 0, .int 0, .long 0, .long 0, .long 0, .long 0, .long 0, .ref (qb 21), .int 0, .int 0, .int 0, .int 0]))] H := hP.sub [0, 4, 10] rfl
  have hD : va_D A [(qx, .inr (0, [.ref (qa 0), .ref (qa 1), .ref (qa 2), .int 0])), ((qa 1), .inr (2, [.ref (qa 27), .int 0, .int 0, .int 0, .int 0, .int (-1), .int (-1)])), (qm, .inr (7, [.int 0, .int 0, .int 0, .int 0, .int 0, .int 0, .int (-1), .int (-1), .int 0, .int 0, .int 0, .int 0, .int 0, .int 0, .int 0, .int 0, .ref (qb 0), .ref (qb 1), .ref (qb 2), .ref (qb 3), .int 0, .ref (qb 4), .ref (qb 5), .ref (qb 6), .ref (qb 7), .ref (qb 8), .ref (qb 9), .ref (qb 10), .ref (qb 11), .ref (qb 12), .ref (qb 13), .ref (qb 14), .ref (qb 15), .ref (qb 16), .ref (qb 17), .ref (qb 18), .ref (qb 19), .ref (qb 20), .int 0, .int 0, .int 0, .int 0, .long 0, .long 0, .long 0, .long 0, .long 0, .ref (qb 21), .int 0, .int 0, .int 0, .int 0]))] := hD.sub [0, 4, 10] (by decide) rfl
  have hK : va_K D cls [] s := hK.sub [] rfl
  refine lv_aload_n hx hb d_law_924 rfl (lv_at hl 3 rfl) ?_
  refine xc_V (As := []) (rest := []) (n := 0) (wc := [(qx, .inr (0, [.ref (qa 0), .ref (qa 1), .ref (qa 2), .int 0])), ((qa 1), .inr (2, [.ref (qa 27), .int 0, .int 0, .int 0, .int 0, .int (-1), .int (-1)]))]) (wr := [(qm, .inr (7, [.int 0, .int 0, .int 0, .int 0, .int 0, .int 0, .int (-1), .int (-1), .int 0, .int 0, .int 0, .int 0, .int 0, .int 0, .int 0, .int 0, .ref (qb 0), .ref (qb 1), .ref (qb 2), .ref (qb 3), .int 0, .ref (qb 4), .ref (qb 5), .ref (qb 6), .ref (qb 7), .ref (qb 8), .ref (qb 9), .ref (qb 10), .ref (qb 11), .ref (qb 12), .ref (qb 13), .ref (qb 14), .ref (qb 15), .ref (qb 16), .ref (qb 17), .ref (qb 18), .ref (qb 19), .ref (qb 20), .int 0, .int 0, .int 0, .int 0, .long 0, .long 0, .long 0, .long 0, .long 0, .ref (qb 21), .int 0, .int 0, .int 0, .int 0]))]) (tc := []) (tr := []) ⟨hx, hb, hml, hown, hts⟩ (c_OF_clear l D qx qa H.size) rfl rfl w_157 w_154 w_155 w_156 w_1 (by decide +kernel) ⟨Nat.le_of_ble_eq_true rfl, Nat.le_of_ble_eq_true rfl⟩ hP hD hK hS hA hN hZ [0, 1] [2] rfl rfl (by decide) (by decide) (by decide) [] [] rfl rfl (ci := 0) (q0 := 0) (q := (R_OF, F_OF, 4)) rfl rfl rfl rfl hl.1 rfl (Nat.le_of_ble_eq_true rfl) d_law_925 ⟨Nat.le_of_ble_eq_true rfl, Nat.le_of_ble_eq_true rfl⟩ (fun u1 H locs hP hD hK hS => ?_)
  have hP : va_P D cls [(qm, .inr (7, [.int 0, .int 0, .int 0, .int 0, .int 0, .int 0, .int (-1), .int (-1), .int 0, .int 0, .int 0, .int 0, .int 0, .int 0, .int 0, .int 0, .ref (qb 0), .ref (qb 1), .ref (qb 2), .ref (qb 3), .int 0, .ref (qb 4), .ref (qb 5), .ref (qb 6), .ref (qb 7), .ref (qb 8), .ref (qb 9), .ref (qb 10), .ref (qb 11), .ref (qb 12), .ref (qb 13), .ref (qb 14), .ref (qb 15), .ref (qb 16), .ref (qb 17), .ref (qb 18), .ref (qb 19), .ref (qb 20), .int 0, .int 0, .int 0, .int 0, .long 0, .long 0, .long 0, .long 0, .long 0, .ref (qb 21), .int 0, .int 0, .int 0, .int 0])), (qx, .inr (0, [.ref (qa 0), .ref (qa 1), .ref (qa 2), .int 0])), ((qa 1), .inr (2, [.ref (qa 27), .int 0, .int 0, .int 0, .int 0, .int (-1), .int (-1)]))] H := hP
  have hD : va_D A [(qm, .inr (7, [.int 0, .int 0, .int 0, .int 0, .int 0, .int 0, .int (-1), .int (-1), .int 0, .int 0, .int 0, .int 0, .int 0, .int 0, .int 0, .int 0, .ref (qb 0), .ref (qb 1), .ref (qb 2), .ref (qb 3), .int 0, .ref (qb 4), .ref (qb 5), .ref (qb 6), .ref (qb 7), .ref (qb 8), .ref (qb 9), .ref (qb 10), .ref (qb 11), .ref (qb 12), .ref (qb 13), .ref (qb 14), .ref (qb 15), .ref (qb 16), .ref (qb 17), .ref (qb 18), .ref (qb 19), .ref (qb 20), .int 0, .int 0, .int 0, .int 0, .long 0, .long 0, .long 0, .long 0, .long 0, .ref (qb 21), .int 0, .int 0, .int 0, .int 0])), (qx, .inr (0, [.ref (qa 0), .ref (qa 1), .ref (qa 2), .int 0])), ((qa 1), .inr (2, [.ref (qa 27), .int 0, .int 0, .int 0, .int 0, .int (-1), .int (-1)]))] := hD
  have hK : va_K D cls [] s := hK
  refine W.eq (g2 := F0 m 928 ls [.int 0]) rfl ?_
  refine lv_aload_n hx hb d_law_928 rfl (lv_at hl 2 rfl) ?_
  refine xc_V (As := []) (rest := [.int 0]) (n := 0) (wc := [(qm, .inr (7, [.int 0, .int 0, .int 0, .int 0, .int 0, .int 0, .int (-1), .int (-1), .int 0, .int 0, .int 0, .int 0, .int 0, .int 0, .int 0, .int 0, .ref (qb 0), .ref (qb 1), .ref (qb 2), .ref (qb 3), .int 0, .ref (qb 4), .ref (qb 5), .ref (qb 6), .ref (qb 7), .ref (qb 8), .ref (qb 9), .ref (qb 10), .ref (qb 11), .ref (qb 12), .ref (qb 13), .ref (qb 14), .ref (qb 15), .ref (qb 16), .ref (qb 17), .ref (qb 18), .ref (qb 19), .ref (qb 20), .int 0, .int 0, .int 0, .int 0, .long 0, .long 0, .long 0, .long 0, .long 0, .ref (qb 21), .int 0, .int 0, .int 0, .int 0]))]) (wr := [(qx, .inr (0, [.ref (qa 0), .ref (qa 1), .ref (qa 2), .int 0])), ((qa 1), .inr (2, [.ref (qa 27), .int 0, .int 0, .int 0, .int 0, .int (-1), .int (-1)]))]) (tc := []) (tr := []) ⟨hx, hb, hml, hown, hts⟩ (c_Mo_clear l D qm qb H.size) rfl rfl w_548 w_545 w_546 w_547 w_8 (by decide +kernel) ⟨Nat.le_of_ble_eq_true rfl, Nat.le_of_ble_eq_true rfl⟩ hP hD hK hS hA hN hZ [0] [1, 2] rfl rfl (by decide) (by decide) (by decide) [] [] rfl rfl (ci := 7) (q0 := 0) (q := (R_Mo, F_Mo, 52)) rfl rfl rfl rfl hl.1 rfl (Nat.le_of_ble_eq_true rfl) d_law_929 ⟨Nat.le_of_ble_eq_true rfl, Nat.le_of_ble_eq_true rfl⟩ (fun u2 H locs hP hD hK hS => ?_)
  have hP : va_P D cls [(qx, .inr (0, [.ref (qa 0), .ref (qa 1), .ref (qa 2), .int 0])), ((qa 1), .inr (2, [.ref (qa 27), .int 0, .int 0, .int 0, .int 0, .int (-1), .int (-1)])), (qm, .inr (7, [.int 0, .int 0, .int 0, .int 0, .int 0, .int 0, .int (-1), .int (-1), .int 0, .int 0, .int 0, .int 0, .int 0, .int 0, .int 0, .int 0, .ref (qb 0), .ref (qb 1), .ref (qb 2), .ref (qb 3), .int 0, .ref (qb 4), .ref (qb 5), .ref (qb 6), .ref (qb 7), .ref (qb 8), .ref (qb 9), .ref (qb 10), .ref (qb 11), .ref (qb 12), .ref (qb 13), .ref (qb 14), .ref (qb 15), .ref (qb 16), .ref (qb 17), .ref (qb 18), .ref (qb 19), .ref (qb 20), .int 0, .int 0, .int 0, .int 0, .long 0, .long 0, .long 0, .long 0, .long 0, .ref (qb 21), .int 0, .int 0, .int 0, .int 0]))] H := hP
  have hD : va_D A [(qx, .inr (0, [.ref (qa 0), .ref (qa 1), .ref (qa 2), .int 0])), ((qa 1), .inr (2, [.ref (qa 27), .int 0, .int 0, .int 0, .int 0, .int (-1), .int (-1)])), (qm, .inr (7, [.int 0, .int 0, .int 0, .int 0, .int 0, .int 0, .int (-1), .int (-1), .int 0, .int 0, .int 0, .int 0, .int 0, .int 0, .int 0, .int 0, .ref (qb 0), .ref (qb 1), .ref (qb 2), .ref (qb 3), .int 0, .ref (qb 4), .ref (qb 5), .ref (qb 6), .ref (qb 7), .ref (qb 8), .ref (qb 9), .ref (qb 10), .ref (qb 11), .ref (qb 12), .ref (qb 13), .ref (qb 14), .ref (qb 15), .ref (qb 16), .ref (qb 17), .ref (qb 18), .ref (qb 19), .ref (qb 20), .int 0, .int 0, .int 0, .int 0, .long 0, .long 0, .long 0, .long 0, .long 0, .ref (qb 21), .int 0, .int 0, .int 0, .int 0]))] := hD
  have hK : va_K D cls [] s := hK
  refine W.eq (g2 := F0 m 932 ls [.int 0, .int 0]) rfl ?_
  refine lv_icmp_eq (tgt := 1005) hx hb d_law_932 (by decide) (fun _ => ?_) (fun q9 => absurd (by decide : ((0 : Int32) = 0)) q9)
  exact law_tail C0 hA hAf hS (Nat.le_of_ble_eq_true rfl) (Nat.le_of_ble_eq_true rfl) (lv_sub hl [4, 0] rfl)

theorem d_law_937 : decode code 937 = .ok (.aload_n 1, 1) := by decide +kernel
theorem d_law_938 : decode code 938 = .ok (.aload_n 0, 1) := by decide +kernel
theorem d_law_939 : decode code 939 = .ok (.iload 4, 2) := by decide +kernel
theorem d_law_941 : decode code 941 = .ok (.iconst 1, 1) := by decide +kernel
theorem d_law_942 : decode code 942 = .ok (.iadd, 1) := by decide +kernel
theorem d_law_943 : decode code 943 = .ok (.iaload, 1) := by decide +kernel
theorem d_law_944 : decode code 944 = .ok (.aload_n 0, 1) := by decide +kernel
theorem d_law_945 : decode code 945 = .ok (.iload 4, 2) := by decide +kernel
theorem d_law_947 : decode code 947 = .ok (.iconst 2, 1) := by decide +kernel
theorem d_law_948 : decode code 948 = .ok (.iadd, 1) := by decide +kernel
theorem d_law_949 : decode code 949 = .ok (.iaload, 1) := by decide +kernel
theorem d_law_950 : decode code 950 = .ok (.aload_n 3, 1) := by decide +kernel
theorem d_law_951 : decode code 951 = .ok (.invokestatic 113, 3) := by decide +kernel
theorem d_law_954 : decode code 954 = .ok (.istore 5, 2) := by decide +kernel
theorem d_law_956 : decode code 956 = .ok (.aload_n 2, 1) := by decide +kernel
theorem d_law_957 : decode code 957 = .ok (.aload_n 0, 1) := by decide +kernel
theorem d_law_958 : decode code 958 = .ok (.iload 4, 2) := by decide +kernel
theorem d_law_960 : decode code 960 = .ok (.iconst 1, 1) := by decide +kernel
theorem d_law_961 : decode code 961 = .ok (.iadd, 1) := by decide +kernel
theorem d_law_962 : decode code 962 = .ok (.iaload, 1) := by decide +kernel
theorem d_law_963 : decode code 963 = .ok (.aload_n 0, 1) := by decide +kernel
theorem d_law_964 : decode code 964 = .ok (.iload 4, 2) := by decide +kernel
theorem d_law_966 : decode code 966 = .ok (.iconst 2, 1) := by decide +kernel
theorem d_law_967 : decode code 967 = .ok (.iadd, 1) := by decide +kernel
theorem d_law_968 : decode code 968 = .ok (.iaload, 1) := by decide +kernel
theorem d_law_969 : decode code 969 = .ok (.invokevirtual 115, 3) := by decide +kernel
theorem d_law_972 : decode code 972 = .ok (.istore 6, 2) := by decide +kernel
theorem d_law_974 : decode code 974 = .ok (.aload_n 2, 1) := by decide +kernel
theorem d_law_975 : decode code 975 = .ok (.invokevirtual 69, 3) := by decide +kernel
theorem d_law_978 : decode code 978 = .ok (.iload 5, 2) := by decide +kernel
theorem d_law_980 : decode code 980 = .ok (.if_icmp .eq 5, 3) := by decide +kernel
theorem d_law_985 : decode code 985 = .ok (.iload 5, 2) := by decide +kernel
theorem d_law_987 : decode code 987 = .ok (.ifCond .ne 15, 3) := by decide +kernel
theorem d_law_990 : decode code 990 = .ok (.aload_n 3, 1) := by decide +kernel
theorem d_law_991 : decode code 991 = .ok (.iconst 0, 1) := by decide +kernel
theorem d_law_992 : decode code 992 = .ok (.laload, 1) := by decide +kernel
theorem d_law_993 : decode code 993 = .ok (.iload 6, 2) := by decide +kernel
theorem d_law_995 : decode code 995 = .ok (.i2l, 1) := by decide +kernel
theorem d_law_996 : decode code 996 = .ok (.lcmp, 1) := by decide +kernel
theorem d_law_997 : decode code 997 = .ok (.ifCond .eq 5, 3) := by decide +kernel
theorem d_law_1002 : decode code 1002 = .ok (.goto 3, 3) := by decide +kernel
set_option maxHeartbeats 4000000 in
set_option maxRecDepth 100000 in
theorem l_count_0 {p : Program} {l : Launch} {e : Env} {s : State} {m : MethodId} {below : List Frame} {meth : Method} {c : Code} {b : Nat} {xs : Nat → Int32} (htr : l.stackTraces = false) (C0 : lw_At p s m meth c b 5 xs) {A : Nat → Prop} (hA : ∀ q, s.heap.size ≤ q → A q) (hAf : ∀ q, A q → s.heap.size ≤ q) (hN : xN s) (hZ : xZ A s s.heap) {D : va_G} {qx qm qo : Nat} {cj : ClassId} {qa qb : Nat → Nat} {qk ql : Nat → ClassId} {uf : Nat → Option Nat} {H : Heap} {locs : List Loc} (h0 : xs 1 = 0) (hP : va_P D cls (lawW qx qm qo cj qa qb qk ql uf) H) (hD : va_D A (lawW qx qm qo cj qa qb qk ql uf)) (hK : va_K D cls (lawT cj qk ql) s) (hS : va_S A s.heap H locs) {ls : Array Slot} (hl : lv_has ls 7 [(4, .int 0), (3, .ref qo), (2, .ref qm), (1, .ref qx), (0, .ref b)]) : W p l e room_1 s m #[Value.ref b] below meth c H locs 223 300058 (lw_Z below #[Value.ref b] s) (F0 m 937 ls []) := by
  obtain ⟨hx, hb, hr, hml, hown, hts0, hX, hbl, hlocks, hgv⟩ := id C0
  have hown : s.vm.findClass "ObjectForgeLaw" = some m.cls := hown
  have hbA : ¬ A b := fun h => absurd (hAf b h) (Nat.not_le.mpr hbl)
  have hts : ∀ w ∈ bw, w.before #[Value.ref b] s = true := fun w h => hts0 w (bw_in w h)
  have hP : va_P D cls [(qx, .inr (0, [.ref (qa 0), .ref (qa 1), .ref (qa 2), .int 0])), ((qa 0), .inr (1, [.ref (qa 3), .ref (qa 4), .int 0, .int 0, .int 0, .int 0, .int 0, .int (-1), .long 0, .int 0, .int 0, .int 0, .int 0, .int (-1), .int (-1)])), ((qa 3), .inr (4, [.ref (qa 5), .int 0, .int 0, .int 0, .ref (qa 6), .ref (qa 7), .ref (qa 8)])), (qm, .inr (7, [.int 0, .int 0, .int 0, .int 0, .int 0, .int 0, .int (-1), .int (-1), .int 0, .int 0, .int 0, .int 0, .int 0, .int 0, .int 0, .int 0, .ref (qb 0), .ref (qb 1), .ref (qb 2), .ref (qb 3), .int 0, .ref (qb 4), .ref (qb 5), .ref (qb 6), .ref (qb 7), .ref (qb 8), .ref (qb 9), .ref (qb 10), .ref (qb 11), .ref (qb 12), .ref (qb 13), .ref (qb 14), .ref (qb 15), .ref (qb 16), .ref (qb 17), .ref (qb 18), .ref (qb 19), .ref (qb 20), .int 0, .int 0, .int 0, .int 0, .long 0, .long 0, .long 0, .long 0, .long 0, .ref (qb 21), .int 0, .int 0, .int 0, .int 0])), (qo, .inl (cj, 1, .inr (.inl (fun _ => 0))))] H := hP.sub [0, 1, 2, 10, 15] rfl
  have hD : va_D A [(qx, .inr (0, [.ref (qa 0), .ref (qa 1), .ref (qa 2), .int 0])), ((qa 0), .inr (1, [.ref (qa 3), .ref (qa 4), .int 0, .int 0, .int 0, .int 0, .int 0, .int (-1), .long 0, .int 0, .int 0, .int 0, .int 0, .int (-1), .int (-1)])), ((qa 3), .inr (4, [.ref (qa 5), .int 0, .int 0, .int 0, .ref (qa 6), .ref (qa 7), .ref (qa 8)])), (qm, .inr (7, [.int 0, .int 0, .int 0, .int 0, .int 0, .int 0, .int (-1), .int (-1), .int 0, .int 0, .int 0, .int 0, .int 0, .int 0, .int 0, .int 0, .ref (qb 0), .ref (qb 1), .ref (qb 2), .ref (qb 3), .int 0, .ref (qb 4), .ref (qb 5), .ref (qb 6), .ref (qb 7), .ref (qb 8), .ref (qb 9), .ref (qb 10), .ref (qb 11), .ref (qb 12), .ref (qb 13), .ref (qb 14), .ref (qb 15), .ref (qb 16), .ref (qb 17), .ref (qb 18), .ref (qb 19), .ref (qb 20), .int 0, .int 0, .int 0, .int 0, .long 0, .long 0, .long 0, .long 0, .long 0, .ref (qb 21), .int 0, .int 0, .int 0, .int 0])), (qo, .inl (cj, 1, .inr (.inl (fun _ => 0))))] := hD.sub [0, 1, 2, 10, 15] (by decide) rfl
  have hK : va_K D cls [(cj, .long)] s := hK.sub [7] rfl
  refine lv_aload_n hx hb d_law_937 rfl (lv_at hl 3 rfl) ?_
  refine lv_aload_n hx hb d_law_938 rfl (lv_at hl 4 rfl) ?_
  refine lv_iload hx hb d_law_939 (lv_at hl 0 rfl) ?_
  refine lv_iconst (v := 1) hx hb d_law_941 (by decide) ?_
  refine lv_iadd hx hb d_law_942 ?_
  refine lv_topi (fun z1 ez1 => ?_)
  obtain rfl : z1 = 1 := ez1.trans (by decide)
  refine va_sld hx hb hX hbl hbA hS (by unfold vp_in; decide) d_law_943 ?_
  refine W.eq (g2 := F0 m 944 ls [.int (xs 1), .ref qx]) rfl ?_
  refine lv_topi (fun z2 ez2 => ?_)
  obtain rfl : z2 = 0 := ez2.trans h0
  refine lv_aload_n hx hb d_law_944 rfl (lv_at hl 4 rfl) ?_
  refine lv_iload hx hb d_law_945 (lv_at hl 0 rfl) ?_
  refine lv_iconst (v := 2) hx hb d_law_947 (by decide) ?_
  refine lv_iadd hx hb d_law_948 ?_
  refine lv_topi (fun z3 ez3 => ?_)
  obtain rfl : z3 = 2 := ez3.trans (by decide)
  refine va_sld hx hb hX hbl hbA hS (by unfold vp_in; decide) d_law_949 ?_
  refine W.eq (g2 := F0 m 950 ls [.int (xs 2), .int 0, .ref qx]) rfl ?_
  refine lv_aload_n hx hb d_law_950 rfl (lv_at hl 1 rfl) ?_
  refine xc_SW (As := [.ref qx, .int 0, .int (xs 2), .ref qo]) (rest := []) (n := 4) (wc := [(qx, .inr (0, [.ref (qa 0), .ref (qa 1), .ref (qa 2), .int 0])), ((qa 0), .inr (1, [.ref (qa 3), .ref (qa 4), .int 0, .int 0, .int 0, .int 0, .int 0, .int (-1), .long 0, .int 0, .int 0, .int 0, .int 0, .int (-1), .int (-1)])), ((qa 3), .inr (4, [.ref (qa 5), .int 0, .int 0, .int 0, .ref (qa 6), .ref (qa 7), .ref (qa 8)])), (qo, .inl (cj, 1, .inr (.inl (fun _ => 0))))]) (wr := [(qm, .inr (7, [.int 0, .int 0, .int 0, .int 0, .int 0, .int 0, .int (-1), .int (-1), .int 0, .int 0, .int 0, .int 0, .int 0, .int 0, .int 0, .int 0, .ref (qb 0), .ref (qb 1), .ref (qb 2), .ref (qb 3), .int 0, .ref (qb 4), .ref (qb 5), .ref (qb 6), .ref (qb 7), .ref (qb 8), .ref (qb 9), .ref (qb 10), .ref (qb 11), .ref (qb 12), .ref (qb 13), .ref (qb 14), .ref (qb 15), .ref (qb 16), .ref (qb 17), .ref (qb 18), .ref (qb 19), .ref (qb 20), .int 0, .int 0, .int 0, .int 0, .long 0, .long 0, .long 0, .long 0, .long 0, .ref (qb 21), .int 0, .int 0, .int 0, .int 0]))]) (tc := [(cj, .long)]) (tr := []) ⟨hx, hb, hml, hown, hts⟩ (c_La_count_0 l htr D qx qo cj qa qk (xs 2) H.size) rfl rfl w_384 w_382 w_383 w_0 (by decide +kernel) ⟨Nat.le_of_ble_eq_true rfl, Nat.le_of_ble_eq_true rfl⟩ hP hD hK hS hA hN hZ [0, 1, 2, 4] [3] rfl rfl (by decide) (by decide) (by decide) [0] [] rfl rfl rfl hl.1 rfl (Nat.le_of_ble_eq_true rfl) d_law_951 ⟨Nat.le_of_ble_eq_true rfl, Nat.le_of_ble_eq_true rfl⟩ (fun u4 H locs hP hD hK hS => ?_)
  have hP : va_P D cls [(qm, .inr (7, [.int 0, .int 0, .int 0, .int 0, .int 0, .int 0, .int (-1), .int (-1), .int 0, .int 0, .int 0, .int 0, .int 0, .int 0, .int 0, .int 0, .ref (qb 0), .ref (qb 1), .ref (qb 2), .ref (qb 3), .int 0, .ref (qb 4), .ref (qb 5), .ref (qb 6), .ref (qb 7), .ref (qb 8), .ref (qb 9), .ref (qb 10), .ref (qb 11), .ref (qb 12), .ref (qb 13), .ref (qb 14), .ref (qb 15), .ref (qb 16), .ref (qb 17), .ref (qb 18), .ref (qb 19), .ref (qb 20), .int 0, .int 0, .int 0, .int 0, .long 0, .long 0, .long 0, .long 0, .long 0, .ref (qb 21), .int 0, .int 0, .int 0, .int 0])), (qo, .inl (cj, 1, .inr (.inl (vp_updL (fun _ => 0) (0 : Int32).toNatClampNeg 0))))] H := hP
  have hD : va_D A [(qm, .inr (7, [.int 0, .int 0, .int 0, .int 0, .int 0, .int 0, .int (-1), .int (-1), .int 0, .int 0, .int 0, .int 0, .int 0, .int 0, .int 0, .int 0, .ref (qb 0), .ref (qb 1), .ref (qb 2), .ref (qb 3), .int 0, .ref (qb 4), .ref (qb 5), .ref (qb 6), .ref (qb 7), .ref (qb 8), .ref (qb 9), .ref (qb 10), .ref (qb 11), .ref (qb 12), .ref (qb 13), .ref (qb 14), .ref (qb 15), .ref (qb 16), .ref (qb 17), .ref (qb 18), .ref (qb 19), .ref (qb 20), .int 0, .int 0, .int 0, .int 0, .long 0, .long 0, .long 0, .long 0, .long 0, .ref (qb 21), .int 0, .int 0, .int 0, .int 0])), (qo, .inl (cj, 1, .inr (.inl (vp_updL (fun _ => 0) (0 : Int32).toNatClampNeg 0))))] := hD
  have hK : va_K D cls [(cj, .long)] s := hK
  refine W.eq (g2 := F0 m 954 ls [.int 0]) rfl ?_
  refine lv_istore (lv' := [(5, .int 0), (4, .int 0), (3, .ref qo), (2, .ref qm), (1, .ref qx), (0, .ref b)]) hx hb d_law_954 hl (by decide) rfl (fun ls hl => ?_)
  refine lv_aload_n hx hb d_law_956 rfl (lv_at hl 3 rfl) ?_
  refine lv_aload_n hx hb d_law_957 rfl (lv_at hl 5 rfl) ?_
  refine lv_iload hx hb d_law_958 (lv_at hl 1 rfl) ?_
  refine lv_iconst (v := 1) hx hb d_law_960 (by decide) ?_
  refine lv_iadd hx hb d_law_961 ?_
  refine lv_topi (fun z5 ez5 => ?_)
  obtain rfl : z5 = 1 := ez5.trans (by decide)
  refine va_sld hx hb hX hbl hbA hS (by unfold vp_in; decide) d_law_962 ?_
  refine W.eq (g2 := F0 m 963 ls [.int (xs 1), .ref qm]) rfl ?_
  refine lv_topi (fun z6 ez6 => ?_)
  obtain rfl : z6 = 0 := ez6.trans h0
  refine lv_aload_n hx hb d_law_963 rfl (lv_at hl 5 rfl) ?_
  refine lv_iload hx hb d_law_964 (lv_at hl 1 rfl) ?_
  refine lv_iconst (v := 2) hx hb d_law_966 (by decide) ?_
  refine lv_iadd hx hb d_law_967 ?_
  refine lv_topi (fun z7 ez7 => ?_)
  obtain rfl : z7 = 2 := ez7.trans (by decide)
  refine va_sld hx hb hX hbl hbA hS (by unfold vp_in; decide) d_law_968 ?_
  refine W.eq (g2 := F0 m 969 ls [.int (xs 2), .int 0, .ref qm]) rfl ?_
  refine xc_V (As := [.int 0, .int (xs 2)]) (rest := []) (n := 2) (wc := [(qm, .inr (7, [.int 0, .int 0, .int 0, .int 0, .int 0, .int 0, .int (-1), .int (-1), .int 0, .int 0, .int 0, .int 0, .int 0, .int 0, .int 0, .int 0, .ref (qb 0), .ref (qb 1), .ref (qb 2), .ref (qb 3), .int 0, .ref (qb 4), .ref (qb 5), .ref (qb 6), .ref (qb 7), .ref (qb 8), .ref (qb 9), .ref (qb 10), .ref (qb 11), .ref (qb 12), .ref (qb 13), .ref (qb 14), .ref (qb 15), .ref (qb 16), .ref (qb 17), .ref (qb 18), .ref (qb 19), .ref (qb 20), .int 0, .int 0, .int 0, .int 0, .long 0, .long 0, .long 0, .long 0, .long 0, .ref (qb 21), .int 0, .int 0, .int 0, .int 0]))]) (wr := [(qo, .inl (cj, 1, .inr (.inl (vp_updL (fun _ => 0) (0 : Int32).toNatClampNeg 0))))]) (tc := []) (tr := [(cj, .long)]) ⟨hx, hb, hml, hown, hts⟩ (c_Mo_count_0 l D qm qb (xs 2) H.size) rfl rfl w_552 w_549 w_550 w_551 w_8 (by decide +kernel) ⟨Nat.le_of_ble_eq_true rfl, Nat.le_of_ble_eq_true rfl⟩ hP hD hK hS hA hN hZ [0] [1] rfl rfl (by decide) (by decide) (by decide) [] [0] rfl rfl (ci := 7) (q0 := 0) (q := (R_Mo, F_Mo, 52)) rfl rfl rfl rfl hl.1 rfl (Nat.le_of_ble_eq_true rfl) d_law_969 ⟨Nat.le_of_ble_eq_true rfl, Nat.le_of_ble_eq_true rfl⟩ (fun u8 H locs hP hD hK hS => ?_)
  have hP : va_P D cls [(qo, .inl (cj, 1, .inr (.inl (vp_updL (fun _ => 0) (0 : Int32).toNatClampNeg 0)))), (qm, .inr (7, [.int 0, .int 0, .int 0, .int 0, .int 0, .int 0, .int (-1), .int (-1), .int 0, .int 0, .int 0, .int 0, .int 0, .int 0, .int 0, .int 0, .ref (qb 0), .ref (qb 1), .ref (qb 2), .ref (qb 3), .int 0, .ref (qb 4), .ref (qb 5), .ref (qb 6), .ref (qb 7), .ref (qb 8), .ref (qb 9), .ref (qb 10), .ref (qb 11), .ref (qb 12), .ref (qb 13), .ref (qb 14), .ref (qb 15), .ref (qb 16), .ref (qb 17), .ref (qb 18), .ref (qb 19), .ref (qb 20), .int 0, .int 0, .int 0, .int 0, .long 0, .long 0, .long 0, .long 0, .long 0, .ref (qb 21), .int 0, .int 0, .int 0, .int 0]))] H := hP
  have hD : va_D A [(qo, .inl (cj, 1, .inr (.inl (vp_updL (fun _ => 0) (0 : Int32).toNatClampNeg 0)))), (qm, .inr (7, [.int 0, .int 0, .int 0, .int 0, .int 0, .int 0, .int (-1), .int (-1), .int 0, .int 0, .int 0, .int 0, .int 0, .int 0, .int 0, .int 0, .ref (qb 0), .ref (qb 1), .ref (qb 2), .ref (qb 3), .int 0, .ref (qb 4), .ref (qb 5), .ref (qb 6), .ref (qb 7), .ref (qb 8), .ref (qb 9), .ref (qb 10), .ref (qb 11), .ref (qb 12), .ref (qb 13), .ref (qb 14), .ref (qb 15), .ref (qb 16), .ref (qb 17), .ref (qb 18), .ref (qb 19), .ref (qb 20), .int 0, .int 0, .int 0, .int 0, .long 0, .long 0, .long 0, .long 0, .long 0, .ref (qb 21), .int 0, .int 0, .int 0, .int 0]))] := hD
  have hK : va_K D cls [(cj, .long)] s := hK
  refine W.eq (g2 := F0 m 972 ls [.int 0]) rfl ?_
  refine lv_istore (lv' := [(6, .int 0), (5, .int 0), (4, .int 0), (3, .ref qo), (2, .ref qm), (1, .ref qx), (0, .ref b)]) hx hb d_law_972 hl (by decide) rfl (fun ls hl => ?_)
  refine lv_aload_n hx hb d_law_974 rfl (lv_at hl 4 rfl) ?_
  refine xc_V (As := []) (rest := []) (n := 0) (wc := [(qm, .inr (7, [.int 0, .int 0, .int 0, .int 0, .int 0, .int 0, .int (-1), .int (-1), .int 0, .int 0, .int 0, .int 0, .int 0, .int 0, .int 0, .int 0, .ref (qb 0), .ref (qb 1), .ref (qb 2), .ref (qb 3), .int 0, .ref (qb 4), .ref (qb 5), .ref (qb 6), .ref (qb 7), .ref (qb 8), .ref (qb 9), .ref (qb 10), .ref (qb 11), .ref (qb 12), .ref (qb 13), .ref (qb 14), .ref (qb 15), .ref (qb 16), .ref (qb 17), .ref (qb 18), .ref (qb 19), .ref (qb 20), .int 0, .int 0, .int 0, .int 0, .long 0, .long 0, .long 0, .long 0, .long 0, .ref (qb 21), .int 0, .int 0, .int 0, .int 0]))]) (wr := [(qo, .inl (cj, 1, .inr (.inl (vp_updL (fun _ => 0) (0 : Int32).toNatClampNeg 0))))]) (tc := []) (tr := [(cj, .long)]) ⟨hx, hb, hml, hown, hts⟩ (c_Mo_thrown_0 l D qm qb H.size) rfl rfl w_445 w_442 w_443 w_444 w_8 (by decide +kernel) ⟨Nat.le_of_ble_eq_true rfl, Nat.le_of_ble_eq_true rfl⟩ hP hD hK hS hA hN hZ [1] [0] rfl rfl (by decide) (by decide) (by decide) [] [0] rfl rfl (ci := 7) (q0 := 0) (q := (R_Mo, F_Mo, 52)) rfl rfl rfl rfl hl.1 rfl (Nat.le_of_ble_eq_true rfl) d_law_975 ⟨Nat.le_of_ble_eq_true rfl, Nat.le_of_ble_eq_true rfl⟩ (fun u9 H locs hP hD hK hS => ?_)
  have hP : va_P D cls [(qo, .inl (cj, 1, .inr (.inl (vp_updL (fun _ => 0) (0 : Int32).toNatClampNeg 0)))), (qm, .inr (7, [.int 0, .int 0, .int 0, .int 0, .int 0, .int 0, .int (-1), .int (-1), .int 0, .int 0, .int 0, .int 0, .int 0, .int 0, .int 0, .int 0, .ref (qb 0), .ref (qb 1), .ref (qb 2), .ref (qb 3), .int 0, .ref (qb 4), .ref (qb 5), .ref (qb 6), .ref (qb 7), .ref (qb 8), .ref (qb 9), .ref (qb 10), .ref (qb 11), .ref (qb 12), .ref (qb 13), .ref (qb 14), .ref (qb 15), .ref (qb 16), .ref (qb 17), .ref (qb 18), .ref (qb 19), .ref (qb 20), .int 0, .int 0, .int 0, .int 0, .long 0, .long 0, .long 0, .long 0, .long 0, .ref (qb 21), .int 0, .int 0, .int 0, .int 0]))] H := hP
  have hD : va_D A [(qo, .inl (cj, 1, .inr (.inl (vp_updL (fun _ => 0) (0 : Int32).toNatClampNeg 0)))), (qm, .inr (7, [.int 0, .int 0, .int 0, .int 0, .int 0, .int 0, .int (-1), .int (-1), .int 0, .int 0, .int 0, .int 0, .int 0, .int 0, .int 0, .int 0, .ref (qb 0), .ref (qb 1), .ref (qb 2), .ref (qb 3), .int 0, .ref (qb 4), .ref (qb 5), .ref (qb 6), .ref (qb 7), .ref (qb 8), .ref (qb 9), .ref (qb 10), .ref (qb 11), .ref (qb 12), .ref (qb 13), .ref (qb 14), .ref (qb 15), .ref (qb 16), .ref (qb 17), .ref (qb 18), .ref (qb 19), .ref (qb 20), .int 0, .int 0, .int 0, .int 0, .long 0, .long 0, .long 0, .long 0, .long 0, .ref (qb 21), .int 0, .int 0, .int 0, .int 0]))] := hD
  have hK : va_K D cls [(cj, .long)] s := hK
  refine W.eq (g2 := F0 m 978 ls [.int 0]) rfl ?_
  refine lv_iload hx hb d_law_978 (lv_at hl 1 rfl) ?_
  refine lv_icmp_eq (tgt := 985) hx hb d_law_980 (by decide) (fun _ => ?_) (fun q9 => absurd (by decide : ((0 : Int32) = 0)) q9)
  refine lv_iload hx hb d_law_985 (lv_at hl 1 rfl) ?_
  refine lv_if_ne (tgt := 1002) hx hb d_law_987 (by decide) (fun q9 => absurd (by decide : ((0 : Int32) = 0)) q9) (fun _ => ?_)
  refine lv_aload_n hx hb d_law_990 rfl (lv_at hl 3 rfl) ?_
  refine lv_iconst (v := 0) hx hb d_law_991 (by decide) ?_
  refine va_lald hx hb hK hP 0 0 rfl rfl (by unfold vp_in; decide) d_law_992 ?_
  refine lv_topl (fun z10 ez10 => ?_)
  obtain rfl : z10 = 0 := ez10.trans (by decide)
  refine lv_iload hx hb d_law_993 (lv_at hl 0 rfl) ?_
  refine lv_i2l (v := 0) hx hb d_law_995 (by first | rfl | decide) ?_
  refine W.lcmp hx hb d_law_996 ?_
  refine lv_topi (fun z11 ez11 => ?_)
  obtain rfl : z11 = 0 := ez11.trans (by decide)
  refine lv_if_eq (tgt := 1002) hx hb d_law_997 (by decide) (fun _ => ?_) (fun q9 => absurd (by decide : ((0 : Int32) = 0)) q9)
  refine lv_goto (tgt := 1005) hx hb d_law_1002 (by decide) ?_
  exact law_tail C0 hA hAf hS (Nat.le_of_ble_eq_true rfl) (Nat.le_of_ble_eq_true rfl) (lv_sub hl [6, 2] rfl)

set_option maxHeartbeats 4000000 in
set_option maxRecDepth 100000 in
theorem l_count_1 {p : Program} {l : Launch} {e : Env} {s : State} {m : MethodId} {below : List Frame} {meth : Method} {c : Code} {b : Nat} {xs : Nat → Int32} (htr : l.stackTraces = false) (C0 : lw_At p s m meth c b 5 xs) {A : Nat → Prop} (hA : ∀ q, s.heap.size ≤ q → A q) (hAf : ∀ q, A q → s.heap.size ≤ q) (hN : xN s) (hZ : xZ A s s.heap) {D : va_G} {qx qm qo : Nat} {cj : ClassId} {qa qb : Nat → Nat} {qk ql : Nat → ClassId} {uf : Nat → Option Nat} {H : Heap} {locs : List Loc} (h0 : xs 1 = 1) (hP : va_P D cls (lawW qx qm qo cj qa qb qk ql uf) H) (hD : va_D A (lawW qx qm qo cj qa qb qk ql uf)) (hK : va_K D cls (lawT cj qk ql) s) (hS : va_S A s.heap H locs) {ls : Array Slot} (hl : lv_has ls 7 [(4, .int 0), (3, .ref qo), (2, .ref qm), (1, .ref qx), (0, .ref b)]) : W p l e room_1 s m #[Value.ref b] below meth c H locs 223 300058 (lw_Z below #[Value.ref b] s) (F0 m 937 ls []) := by
  obtain ⟨hx, hb, hr, hml, hown, hts0, hX, hbl, hlocks, hgv⟩ := id C0
  have hown : s.vm.findClass "ObjectForgeLaw" = some m.cls := hown
  have hbA : ¬ A b := fun h => absurd (hAf b h) (Nat.not_le.mpr hbl)
  have hts : ∀ w ∈ bw, w.before #[Value.ref b] s = true := fun w h => hts0 w (bw_in w h)
  have hP : va_P D cls [(qx, .inr (0, [.ref (qa 0), .ref (qa 1), .ref (qa 2), .int 0])), ((qa 0), .inr (1, [.ref (qa 3), .ref (qa 4), .int 0, .int 0, .int 0, .int 0, .int 0, .int (-1), .long 0, .int 0, .int 0, .int 0, .int 0, .int (-1), .int (-1)])), ((qa 3), .inr (4, [.ref (qa 5), .int 0, .int 0, .int 0, .ref (qa 6), .ref (qa 7), .ref (qa 8)])), (qm, .inr (7, [.int 0, .int 0, .int 0, .int 0, .int 0, .int 0, .int (-1), .int (-1), .int 0, .int 0, .int 0, .int 0, .int 0, .int 0, .int 0, .int 0, .ref (qb 0), .ref (qb 1), .ref (qb 2), .ref (qb 3), .int 0, .ref (qb 4), .ref (qb 5), .ref (qb 6), .ref (qb 7), .ref (qb 8), .ref (qb 9), .ref (qb 10), .ref (qb 11), .ref (qb 12), .ref (qb 13), .ref (qb 14), .ref (qb 15), .ref (qb 16), .ref (qb 17), .ref (qb 18), .ref (qb 19), .ref (qb 20), .int 0, .int 0, .int 0, .int 0, .long 0, .long 0, .long 0, .long 0, .long 0, .ref (qb 21), .int 0, .int 0, .int 0, .int 0])), (qo, .inl (cj, 1, .inr (.inl (fun _ => 0))))] H := hP.sub [0, 1, 2, 10, 15] rfl
  have hD : va_D A [(qx, .inr (0, [.ref (qa 0), .ref (qa 1), .ref (qa 2), .int 0])), ((qa 0), .inr (1, [.ref (qa 3), .ref (qa 4), .int 0, .int 0, .int 0, .int 0, .int 0, .int (-1), .long 0, .int 0, .int 0, .int 0, .int 0, .int (-1), .int (-1)])), ((qa 3), .inr (4, [.ref (qa 5), .int 0, .int 0, .int 0, .ref (qa 6), .ref (qa 7), .ref (qa 8)])), (qm, .inr (7, [.int 0, .int 0, .int 0, .int 0, .int 0, .int 0, .int (-1), .int (-1), .int 0, .int 0, .int 0, .int 0, .int 0, .int 0, .int 0, .int 0, .ref (qb 0), .ref (qb 1), .ref (qb 2), .ref (qb 3), .int 0, .ref (qb 4), .ref (qb 5), .ref (qb 6), .ref (qb 7), .ref (qb 8), .ref (qb 9), .ref (qb 10), .ref (qb 11), .ref (qb 12), .ref (qb 13), .ref (qb 14), .ref (qb 15), .ref (qb 16), .ref (qb 17), .ref (qb 18), .ref (qb 19), .ref (qb 20), .int 0, .int 0, .int 0, .int 0, .long 0, .long 0, .long 0, .long 0, .long 0, .ref (qb 21), .int 0, .int 0, .int 0, .int 0])), (qo, .inl (cj, 1, .inr (.inl (fun _ => 0))))] := hD.sub [0, 1, 2, 10, 15] (by decide) rfl
  have hK : va_K D cls [(cj, .long)] s := hK.sub [7] rfl
  refine lv_aload_n hx hb d_law_937 rfl (lv_at hl 3 rfl) ?_
  refine lv_aload_n hx hb d_law_938 rfl (lv_at hl 4 rfl) ?_
  refine lv_iload hx hb d_law_939 (lv_at hl 0 rfl) ?_
  refine lv_iconst (v := 1) hx hb d_law_941 (by decide) ?_
  refine lv_iadd hx hb d_law_942 ?_
  refine lv_topi (fun z1 ez1 => ?_)
  obtain rfl : z1 = 1 := ez1.trans (by decide)
  refine va_sld hx hb hX hbl hbA hS (by unfold vp_in; decide) d_law_943 ?_
  refine W.eq (g2 := F0 m 944 ls [.int (xs 1), .ref qx]) rfl ?_
  refine lv_topi (fun z2 ez2 => ?_)
  obtain rfl : z2 = 1 := ez2.trans h0
  refine lv_aload_n hx hb d_law_944 rfl (lv_at hl 4 rfl) ?_
  refine lv_iload hx hb d_law_945 (lv_at hl 0 rfl) ?_
  refine lv_iconst (v := 2) hx hb d_law_947 (by decide) ?_
  refine lv_iadd hx hb d_law_948 ?_
  refine lv_topi (fun z3 ez3 => ?_)
  obtain rfl : z3 = 2 := ez3.trans (by decide)
  refine va_sld hx hb hX hbl hbA hS (by unfold vp_in; decide) d_law_949 ?_
  refine W.eq (g2 := F0 m 950 ls [.int (xs 2), .int 1, .ref qx]) rfl ?_
  refine lv_aload_n hx hb d_law_950 rfl (lv_at hl 1 rfl) ?_
  refine xc_SW (As := [.ref qx, .int 1, .int (xs 2), .ref qo]) (rest := []) (n := 4) (wc := [(qx, .inr (0, [.ref (qa 0), .ref (qa 1), .ref (qa 2), .int 0])), ((qa 0), .inr (1, [.ref (qa 3), .ref (qa 4), .int 0, .int 0, .int 0, .int 0, .int 0, .int (-1), .long 0, .int 0, .int 0, .int 0, .int 0, .int (-1), .int (-1)])), ((qa 3), .inr (4, [.ref (qa 5), .int 0, .int 0, .int 0, .ref (qa 6), .ref (qa 7), .ref (qa 8)])), (qo, .inl (cj, 1, .inr (.inl (fun _ => 0))))]) (wr := [(qm, .inr (7, [.int 0, .int 0, .int 0, .int 0, .int 0, .int 0, .int (-1), .int (-1), .int 0, .int 0, .int 0, .int 0, .int 0, .int 0, .int 0, .int 0, .ref (qb 0), .ref (qb 1), .ref (qb 2), .ref (qb 3), .int 0, .ref (qb 4), .ref (qb 5), .ref (qb 6), .ref (qb 7), .ref (qb 8), .ref (qb 9), .ref (qb 10), .ref (qb 11), .ref (qb 12), .ref (qb 13), .ref (qb 14), .ref (qb 15), .ref (qb 16), .ref (qb 17), .ref (qb 18), .ref (qb 19), .ref (qb 20), .int 0, .int 0, .int 0, .int 0, .long 0, .long 0, .long 0, .long 0, .long 0, .ref (qb 21), .int 0, .int 0, .int 0, .int 0]))]) (tc := [(cj, .long)]) (tr := []) ⟨hx, hb, hml, hown, hts⟩ (c_La_count_1 l htr D qx qo cj qa qk (xs 2) H.size) rfl rfl w_384 w_382 w_383 w_0 (by decide +kernel) ⟨Nat.le_of_ble_eq_true rfl, Nat.le_of_ble_eq_true rfl⟩ hP hD hK hS hA hN hZ [0, 1, 2, 4] [3] rfl rfl (by decide) (by decide) (by decide) [0] [] rfl rfl rfl hl.1 rfl (Nat.le_of_ble_eq_true rfl) d_law_951 ⟨Nat.le_of_ble_eq_true rfl, Nat.le_of_ble_eq_true rfl⟩ (fun u4 H locs hP hD hK hS => ?_)
  have hP : va_P D cls [(qm, .inr (7, [.int 0, .int 0, .int 0, .int 0, .int 0, .int 0, .int (-1), .int (-1), .int 0, .int 0, .int 0, .int 0, .int 0, .int 0, .int 0, .int 0, .ref (qb 0), .ref (qb 1), .ref (qb 2), .ref (qb 3), .int 0, .ref (qb 4), .ref (qb 5), .ref (qb 6), .ref (qb 7), .ref (qb 8), .ref (qb 9), .ref (qb 10), .ref (qb 11), .ref (qb 12), .ref (qb 13), .ref (qb 14), .ref (qb 15), .ref (qb 16), .ref (qb 17), .ref (qb 18), .ref (qb 19), .ref (qb 20), .int 0, .int 0, .int 0, .int 0, .long 0, .long 0, .long 0, .long 0, .long 0, .ref (qb 21), .int 0, .int 0, .int 0, .int 0])), (qo, .inl (cj, 1, .inr (.inl (vp_updL (fun _ => 0) (0 : Int32).toNatClampNeg 0))))] H := hP
  have hD : va_D A [(qm, .inr (7, [.int 0, .int 0, .int 0, .int 0, .int 0, .int 0, .int (-1), .int (-1), .int 0, .int 0, .int 0, .int 0, .int 0, .int 0, .int 0, .int 0, .ref (qb 0), .ref (qb 1), .ref (qb 2), .ref (qb 3), .int 0, .ref (qb 4), .ref (qb 5), .ref (qb 6), .ref (qb 7), .ref (qb 8), .ref (qb 9), .ref (qb 10), .ref (qb 11), .ref (qb 12), .ref (qb 13), .ref (qb 14), .ref (qb 15), .ref (qb 16), .ref (qb 17), .ref (qb 18), .ref (qb 19), .ref (qb 20), .int 0, .int 0, .int 0, .int 0, .long 0, .long 0, .long 0, .long 0, .long 0, .ref (qb 21), .int 0, .int 0, .int 0, .int 0])), (qo, .inl (cj, 1, .inr (.inl (vp_updL (fun _ => 0) (0 : Int32).toNatClampNeg 0))))] := hD
  have hK : va_K D cls [(cj, .long)] s := hK
  refine W.eq (g2 := F0 m 954 ls [.int 0]) rfl ?_
  refine lv_istore (lv' := [(5, .int 0), (4, .int 0), (3, .ref qo), (2, .ref qm), (1, .ref qx), (0, .ref b)]) hx hb d_law_954 hl (by decide) rfl (fun ls hl => ?_)
  refine lv_aload_n hx hb d_law_956 rfl (lv_at hl 3 rfl) ?_
  refine lv_aload_n hx hb d_law_957 rfl (lv_at hl 5 rfl) ?_
  refine lv_iload hx hb d_law_958 (lv_at hl 1 rfl) ?_
  refine lv_iconst (v := 1) hx hb d_law_960 (by decide) ?_
  refine lv_iadd hx hb d_law_961 ?_
  refine lv_topi (fun z5 ez5 => ?_)
  obtain rfl : z5 = 1 := ez5.trans (by decide)
  refine va_sld hx hb hX hbl hbA hS (by unfold vp_in; decide) d_law_962 ?_
  refine W.eq (g2 := F0 m 963 ls [.int (xs 1), .ref qm]) rfl ?_
  refine lv_topi (fun z6 ez6 => ?_)
  obtain rfl : z6 = 1 := ez6.trans h0
  refine lv_aload_n hx hb d_law_963 rfl (lv_at hl 5 rfl) ?_
  refine lv_iload hx hb d_law_964 (lv_at hl 1 rfl) ?_
  refine lv_iconst (v := 2) hx hb d_law_966 (by decide) ?_
  refine lv_iadd hx hb d_law_967 ?_
  refine lv_topi (fun z7 ez7 => ?_)
  obtain rfl : z7 = 2 := ez7.trans (by decide)
  refine va_sld hx hb hX hbl hbA hS (by unfold vp_in; decide) d_law_968 ?_
  refine W.eq (g2 := F0 m 969 ls [.int (xs 2), .int 1, .ref qm]) rfl ?_
  refine xc_V (As := [.int 1, .int (xs 2)]) (rest := []) (n := 2) (wc := [(qm, .inr (7, [.int 0, .int 0, .int 0, .int 0, .int 0, .int 0, .int (-1), .int (-1), .int 0, .int 0, .int 0, .int 0, .int 0, .int 0, .int 0, .int 0, .ref (qb 0), .ref (qb 1), .ref (qb 2), .ref (qb 3), .int 0, .ref (qb 4), .ref (qb 5), .ref (qb 6), .ref (qb 7), .ref (qb 8), .ref (qb 9), .ref (qb 10), .ref (qb 11), .ref (qb 12), .ref (qb 13), .ref (qb 14), .ref (qb 15), .ref (qb 16), .ref (qb 17), .ref (qb 18), .ref (qb 19), .ref (qb 20), .int 0, .int 0, .int 0, .int 0, .long 0, .long 0, .long 0, .long 0, .long 0, .ref (qb 21), .int 0, .int 0, .int 0, .int 0]))]) (wr := [(qo, .inl (cj, 1, .inr (.inl (vp_updL (fun _ => 0) (0 : Int32).toNatClampNeg 0))))]) (tc := []) (tr := [(cj, .long)]) ⟨hx, hb, hml, hown, hts⟩ (c_Mo_count_1 l D qm qb (xs 2) H.size) rfl rfl w_552 w_549 w_550 w_551 w_8 (by decide +kernel) ⟨Nat.le_of_ble_eq_true rfl, Nat.le_of_ble_eq_true rfl⟩ hP hD hK hS hA hN hZ [0] [1] rfl rfl (by decide) (by decide) (by decide) [] [0] rfl rfl (ci := 7) (q0 := 0) (q := (R_Mo, F_Mo, 52)) rfl rfl rfl rfl hl.1 rfl (Nat.le_of_ble_eq_true rfl) d_law_969 ⟨Nat.le_of_ble_eq_true rfl, Nat.le_of_ble_eq_true rfl⟩ (fun u8 H locs hP hD hK hS => ?_)
  have hP : va_P D cls [(qo, .inl (cj, 1, .inr (.inl (vp_updL (fun _ => 0) (0 : Int32).toNatClampNeg 0)))), (qm, .inr (7, [.int 0, .int 0, .int 0, .int 0, .int 0, .int 0, .int (-1), .int (-1), .int 0, .int 0, .int 0, .int 0, .int 0, .int 0, .int 0, .int 0, .ref (qb 0), .ref (qb 1), .ref (qb 2), .ref (qb 3), .int 0, .ref (qb 4), .ref (qb 5), .ref (qb 6), .ref (qb 7), .ref (qb 8), .ref (qb 9), .ref (qb 10), .ref (qb 11), .ref (qb 12), .ref (qb 13), .ref (qb 14), .ref (qb 15), .ref (qb 16), .ref (qb 17), .ref (qb 18), .ref (qb 19), .ref (qb 20), .int 0, .int 0, .int 0, .int 0, .long 0, .long 0, .long 0, .long 0, .long 0, .ref (qb 21), .int 0, .int 0, .int 0, .int 0]))] H := hP
  have hD : va_D A [(qo, .inl (cj, 1, .inr (.inl (vp_updL (fun _ => 0) (0 : Int32).toNatClampNeg 0)))), (qm, .inr (7, [.int 0, .int 0, .int 0, .int 0, .int 0, .int 0, .int (-1), .int (-1), .int 0, .int 0, .int 0, .int 0, .int 0, .int 0, .int 0, .int 0, .ref (qb 0), .ref (qb 1), .ref (qb 2), .ref (qb 3), .int 0, .ref (qb 4), .ref (qb 5), .ref (qb 6), .ref (qb 7), .ref (qb 8), .ref (qb 9), .ref (qb 10), .ref (qb 11), .ref (qb 12), .ref (qb 13), .ref (qb 14), .ref (qb 15), .ref (qb 16), .ref (qb 17), .ref (qb 18), .ref (qb 19), .ref (qb 20), .int 0, .int 0, .int 0, .int 0, .long 0, .long 0, .long 0, .long 0, .long 0, .ref (qb 21), .int 0, .int 0, .int 0, .int 0]))] := hD
  have hK : va_K D cls [(cj, .long)] s := hK
  refine W.eq (g2 := F0 m 972 ls [.int 0]) rfl ?_
  refine lv_istore (lv' := [(6, .int 0), (5, .int 0), (4, .int 0), (3, .ref qo), (2, .ref qm), (1, .ref qx), (0, .ref b)]) hx hb d_law_972 hl (by decide) rfl (fun ls hl => ?_)
  refine lv_aload_n hx hb d_law_974 rfl (lv_at hl 4 rfl) ?_
  refine xc_V (As := []) (rest := []) (n := 0) (wc := [(qm, .inr (7, [.int 0, .int 0, .int 0, .int 0, .int 0, .int 0, .int (-1), .int (-1), .int 0, .int 0, .int 0, .int 0, .int 0, .int 0, .int 0, .int 0, .ref (qb 0), .ref (qb 1), .ref (qb 2), .ref (qb 3), .int 0, .ref (qb 4), .ref (qb 5), .ref (qb 6), .ref (qb 7), .ref (qb 8), .ref (qb 9), .ref (qb 10), .ref (qb 11), .ref (qb 12), .ref (qb 13), .ref (qb 14), .ref (qb 15), .ref (qb 16), .ref (qb 17), .ref (qb 18), .ref (qb 19), .ref (qb 20), .int 0, .int 0, .int 0, .int 0, .long 0, .long 0, .long 0, .long 0, .long 0, .ref (qb 21), .int 0, .int 0, .int 0, .int 0]))]) (wr := [(qo, .inl (cj, 1, .inr (.inl (vp_updL (fun _ => 0) (0 : Int32).toNatClampNeg 0))))]) (tc := []) (tr := [(cj, .long)]) ⟨hx, hb, hml, hown, hts⟩ (c_Mo_thrown_0 l D qm qb H.size) rfl rfl w_445 w_442 w_443 w_444 w_8 (by decide +kernel) ⟨Nat.le_of_ble_eq_true rfl, Nat.le_of_ble_eq_true rfl⟩ hP hD hK hS hA hN hZ [1] [0] rfl rfl (by decide) (by decide) (by decide) [] [0] rfl rfl (ci := 7) (q0 := 0) (q := (R_Mo, F_Mo, 52)) rfl rfl rfl rfl hl.1 rfl (Nat.le_of_ble_eq_true rfl) d_law_975 ⟨Nat.le_of_ble_eq_true rfl, Nat.le_of_ble_eq_true rfl⟩ (fun u9 H locs hP hD hK hS => ?_)
  have hP : va_P D cls [(qo, .inl (cj, 1, .inr (.inl (vp_updL (fun _ => 0) (0 : Int32).toNatClampNeg 0)))), (qm, .inr (7, [.int 0, .int 0, .int 0, .int 0, .int 0, .int 0, .int (-1), .int (-1), .int 0, .int 0, .int 0, .int 0, .int 0, .int 0, .int 0, .int 0, .ref (qb 0), .ref (qb 1), .ref (qb 2), .ref (qb 3), .int 0, .ref (qb 4), .ref (qb 5), .ref (qb 6), .ref (qb 7), .ref (qb 8), .ref (qb 9), .ref (qb 10), .ref (qb 11), .ref (qb 12), .ref (qb 13), .ref (qb 14), .ref (qb 15), .ref (qb 16), .ref (qb 17), .ref (qb 18), .ref (qb 19), .ref (qb 20), .int 0, .int 0, .int 0, .int 0, .long 0, .long 0, .long 0, .long 0, .long 0, .ref (qb 21), .int 0, .int 0, .int 0, .int 0]))] H := hP
  have hD : va_D A [(qo, .inl (cj, 1, .inr (.inl (vp_updL (fun _ => 0) (0 : Int32).toNatClampNeg 0)))), (qm, .inr (7, [.int 0, .int 0, .int 0, .int 0, .int 0, .int 0, .int (-1), .int (-1), .int 0, .int 0, .int 0, .int 0, .int 0, .int 0, .int 0, .int 0, .ref (qb 0), .ref (qb 1), .ref (qb 2), .ref (qb 3), .int 0, .ref (qb 4), .ref (qb 5), .ref (qb 6), .ref (qb 7), .ref (qb 8), .ref (qb 9), .ref (qb 10), .ref (qb 11), .ref (qb 12), .ref (qb 13), .ref (qb 14), .ref (qb 15), .ref (qb 16), .ref (qb 17), .ref (qb 18), .ref (qb 19), .ref (qb 20), .int 0, .int 0, .int 0, .int 0, .long 0, .long 0, .long 0, .long 0, .long 0, .ref (qb 21), .int 0, .int 0, .int 0, .int 0]))] := hD
  have hK : va_K D cls [(cj, .long)] s := hK
  refine W.eq (g2 := F0 m 978 ls [.int 0]) rfl ?_
  refine lv_iload hx hb d_law_978 (lv_at hl 1 rfl) ?_
  refine lv_icmp_eq (tgt := 985) hx hb d_law_980 (by decide) (fun _ => ?_) (fun q9 => absurd (by decide : ((0 : Int32) = 0)) q9)
  refine lv_iload hx hb d_law_985 (lv_at hl 1 rfl) ?_
  refine lv_if_ne (tgt := 1002) hx hb d_law_987 (by decide) (fun q9 => absurd (by decide : ((0 : Int32) = 0)) q9) (fun _ => ?_)
  refine lv_aload_n hx hb d_law_990 rfl (lv_at hl 3 rfl) ?_
  refine lv_iconst (v := 0) hx hb d_law_991 (by decide) ?_
  refine va_lald hx hb hK hP 0 0 rfl rfl (by unfold vp_in; decide) d_law_992 ?_
  refine lv_topl (fun z10 ez10 => ?_)
  obtain rfl : z10 = 0 := ez10.trans (by decide)
  refine lv_iload hx hb d_law_993 (lv_at hl 0 rfl) ?_
  refine lv_i2l (v := 0) hx hb d_law_995 (by first | rfl | decide) ?_
  refine W.lcmp hx hb d_law_996 ?_
  refine lv_topi (fun z11 ez11 => ?_)
  obtain rfl : z11 = 0 := ez11.trans (by decide)
  refine lv_if_eq (tgt := 1002) hx hb d_law_997 (by decide) (fun _ => ?_) (fun q9 => absurd (by decide : ((0 : Int32) = 0)) q9)
  refine lv_goto (tgt := 1005) hx hb d_law_1002 (by decide) ?_
  exact law_tail C0 hA hAf hS (Nat.le_of_ble_eq_true rfl) (Nat.le_of_ble_eq_true rfl) (lv_sub hl [6, 2] rfl)

set_option maxHeartbeats 4000000 in
set_option maxRecDepth 100000 in
theorem l_count_2_n {p : Program} {l : Launch} {e : Env} {s : State} {m : MethodId} {below : List Frame} {meth : Method} {c : Code} {b : Nat} {xs : Nat → Int32} (htr : l.stackTraces = false) (C0 : lw_At p s m meth c b 5 xs) {A : Nat → Prop} (hA : ∀ q, s.heap.size ≤ q → A q) (hAf : ∀ q, A q → s.heap.size ≤ q) (hN : xN s) (hZ : xZ A s s.heap) {D : va_G} {qx qm qo : Nat} {cj : ClassId} {qa qb : Nat → Nat} {qk ql : Nat → ClassId} {uf : Nat → Option Nat} {H : Heap} {locs : List Loc} (h0 : xs 1 = 2) (hk : xs 2 < 0) (hP : va_P D cls (lawW qx qm qo cj qa qb qk ql uf) H) (hD : va_D A (lawW qx qm qo cj qa qb qk ql uf)) (hK : va_K D cls (lawT cj qk ql) s) (hS : va_S A s.heap H locs) {ls : Array Slot} (hl : lv_has ls 7 [(4, .int 0), (3, .ref qo), (2, .ref qm), (1, .ref qx), (0, .ref b)]) : W p l e room_1 s m #[Value.ref b] below meth c H locs 223 300058 (lw_Z below #[Value.ref b] s) (F0 m 937 ls []) := by
  obtain ⟨hx, hb, hr, hml, hown, hts0, hX, hbl, hlocks, hgv⟩ := id C0
  have hown : s.vm.findClass "ObjectForgeLaw" = some m.cls := hown
  have hbA : ¬ A b := fun h => absurd (hAf b h) (Nat.not_le.mpr hbl)
  have hts : ∀ w ∈ bw, w.before #[Value.ref b] s = true := fun w h => hts0 w (bw_in w h)
  have hP : va_P D cls [(qx, .inr (0, [.ref (qa 0), .ref (qa 1), .ref (qa 2), .int 0])), (qm, .inr (7, [.int 0, .int 0, .int 0, .int 0, .int 0, .int 0, .int (-1), .int (-1), .int 0, .int 0, .int 0, .int 0, .int 0, .int 0, .int 0, .int 0, .ref (qb 0), .ref (qb 1), .ref (qb 2), .ref (qb 3), .int 0, .ref (qb 4), .ref (qb 5), .ref (qb 6), .ref (qb 7), .ref (qb 8), .ref (qb 9), .ref (qb 10), .ref (qb 11), .ref (qb 12), .ref (qb 13), .ref (qb 14), .ref (qb 15), .ref (qb 16), .ref (qb 17), .ref (qb 18), .ref (qb 19), .ref (qb 20), .int 0, .int 0, .int 0, .int 0, .long 0, .long 0, .long 0, .long 0, .long 0, .ref (qb 21), .int 0, .int 0, .int 0, .int 0])), (qo, .inl (cj, 1, .inr (.inl (fun _ => 0))))] H := hP.sub [0, 10, 15] rfl
  have hD : va_D A [(qx, .inr (0, [.ref (qa 0), .ref (qa 1), .ref (qa 2), .int 0])), (qm, .inr (7, [.int 0, .int 0, .int 0, .int 0, .int 0, .int 0, .int (-1), .int (-1), .int 0, .int 0, .int 0, .int 0, .int 0, .int 0, .int 0, .int 0, .ref (qb 0), .ref (qb 1), .ref (qb 2), .ref (qb 3), .int 0, .ref (qb 4), .ref (qb 5), .ref (qb 6), .ref (qb 7), .ref (qb 8), .ref (qb 9), .ref (qb 10), .ref (qb 11), .ref (qb 12), .ref (qb 13), .ref (qb 14), .ref (qb 15), .ref (qb 16), .ref (qb 17), .ref (qb 18), .ref (qb 19), .ref (qb 20), .int 0, .int 0, .int 0, .int 0, .long 0, .long 0, .long 0, .long 0, .long 0, .ref (qb 21), .int 0, .int 0, .int 0, .int 0])), (qo, .inl (cj, 1, .inr (.inl (fun _ => 0))))] := hD.sub [0, 10, 15] (by decide) rfl
  have hK : va_K D cls [(cj, .long)] s := hK.sub [7] rfl
  refine lv_aload_n hx hb d_law_937 rfl (lv_at hl 3 rfl) ?_
  refine lv_aload_n hx hb d_law_938 rfl (lv_at hl 4 rfl) ?_
  refine lv_iload hx hb d_law_939 (lv_at hl 0 rfl) ?_
  refine lv_iconst (v := 1) hx hb d_law_941 (by decide) ?_
  refine lv_iadd hx hb d_law_942 ?_
  refine lv_topi (fun z1 ez1 => ?_)
  obtain rfl : z1 = 1 := ez1.trans (by decide)
  refine va_sld hx hb hX hbl hbA hS (by unfold vp_in; decide) d_law_943 ?_
  refine W.eq (g2 := F0 m 944 ls [.int (xs 1), .ref qx]) rfl ?_
  refine lv_topi (fun z2 ez2 => ?_)
  obtain rfl : z2 = 2 := ez2.trans h0
  refine lv_aload_n hx hb d_law_944 rfl (lv_at hl 4 rfl) ?_
  refine lv_iload hx hb d_law_945 (lv_at hl 0 rfl) ?_
  refine lv_iconst (v := 2) hx hb d_law_947 (by decide) ?_
  refine lv_iadd hx hb d_law_948 ?_
  refine lv_topi (fun z3 ez3 => ?_)
  obtain rfl : z3 = 2 := ez3.trans (by decide)
  refine va_sld hx hb hX hbl hbA hS (by unfold vp_in; decide) d_law_949 ?_
  refine W.eq (g2 := F0 m 950 ls [.int (xs 2), .int 2, .ref qx]) rfl ?_
  refine lv_aload_n hx hb d_law_950 rfl (lv_at hl 1 rfl) ?_
  refine xc_SW (As := [.ref qx, .int 2, .int (xs 2), .ref qo]) (rest := []) (n := 4) (wc := [(qx, .inr (0, [.ref (qa 0), .ref (qa 1), .ref (qa 2), .int 0])), (qo, .inl (cj, 1, .inr (.inl (fun _ => 0))))]) (wr := [(qm, .inr (7, [.int 0, .int 0, .int 0, .int 0, .int 0, .int 0, .int (-1), .int (-1), .int 0, .int 0, .int 0, .int 0, .int 0, .int 0, .int 0, .int 0, .ref (qb 0), .ref (qb 1), .ref (qb 2), .ref (qb 3), .int 0, .ref (qb 4), .ref (qb 5), .ref (qb 6), .ref (qb 7), .ref (qb 8), .ref (qb 9), .ref (qb 10), .ref (qb 11), .ref (qb 12), .ref (qb 13), .ref (qb 14), .ref (qb 15), .ref (qb 16), .ref (qb 17), .ref (qb 18), .ref (qb 19), .ref (qb 20), .int 0, .int 0, .int 0, .int 0, .long 0, .long 0, .long 0, .long 0, .long 0, .ref (qb 21), .int 0, .int 0, .int 0, .int 0]))]) (tc := [(cj, .long)]) (tr := []) ⟨hx, hb, hml, hown, hts⟩ (c_La_count_2_n l htr D qx qo cj qa qk (xs 2) hk H.size) rfl rfl w_384 w_382 w_383 w_0 (by decide +kernel) ⟨Nat.le_of_ble_eq_true rfl, Nat.le_of_ble_eq_true rfl⟩ hP hD hK hS hA hN hZ [0, 2] [1] rfl rfl (by decide) (by decide) (by decide) [0] [] rfl rfl rfl hl.1 rfl (Nat.le_of_ble_eq_true rfl) d_law_951 ⟨Nat.le_of_ble_eq_true rfl, Nat.le_of_ble_eq_true rfl⟩ (fun u4 H locs hP hD hK hS => ?_)
  have hP : va_P D cls [(qm, .inr (7, [.int 0, .int 0, .int 0, .int 0, .int 0, .int 0, .int (-1), .int (-1), .int 0, .int 0, .int 0, .int 0, .int 0, .int 0, .int 0, .int 0, .ref (qb 0), .ref (qb 1), .ref (qb 2), .ref (qb 3), .int 0, .ref (qb 4), .ref (qb 5), .ref (qb 6), .ref (qb 7), .ref (qb 8), .ref (qb 9), .ref (qb 10), .ref (qb 11), .ref (qb 12), .ref (qb 13), .ref (qb 14), .ref (qb 15), .ref (qb 16), .ref (qb 17), .ref (qb 18), .ref (qb 19), .ref (qb 20), .int 0, .int 0, .int 0, .int 0, .long 0, .long 0, .long 0, .long 0, .long 0, .ref (qb 21), .int 0, .int 0, .int 0, .int 0])), (qo, .inl (cj, 1, .inr (.inl (fun _ => 0))))] H := hP
  have hD : va_D A [(qm, .inr (7, [.int 0, .int 0, .int 0, .int 0, .int 0, .int 0, .int (-1), .int (-1), .int 0, .int 0, .int 0, .int 0, .int 0, .int 0, .int 0, .int 0, .ref (qb 0), .ref (qb 1), .ref (qb 2), .ref (qb 3), .int 0, .ref (qb 4), .ref (qb 5), .ref (qb 6), .ref (qb 7), .ref (qb 8), .ref (qb 9), .ref (qb 10), .ref (qb 11), .ref (qb 12), .ref (qb 13), .ref (qb 14), .ref (qb 15), .ref (qb 16), .ref (qb 17), .ref (qb 18), .ref (qb 19), .ref (qb 20), .int 0, .int 0, .int 0, .int 0, .long 0, .long 0, .long 0, .long 0, .long 0, .ref (qb 21), .int 0, .int 0, .int 0, .int 0])), (qo, .inl (cj, 1, .inr (.inl (fun _ => 0))))] := hD
  have hK : va_K D cls [(cj, .long)] s := hK
  refine W.widen (k := 224) (n := 300064) (by omega) (by omega) ?_
  refine W.eq (g2 := F0 m 954 ls [.int 1]) rfl ?_
  refine lv_istore (lv' := [(5, .int 1), (4, .int 0), (3, .ref qo), (2, .ref qm), (1, .ref qx), (0, .ref b)]) hx hb d_law_954 hl (by decide) rfl (fun ls hl => ?_)
  refine lv_aload_n hx hb d_law_956 rfl (lv_at hl 3 rfl) ?_
  refine lv_aload_n hx hb d_law_957 rfl (lv_at hl 5 rfl) ?_
  refine lv_iload hx hb d_law_958 (lv_at hl 1 rfl) ?_
  refine lv_iconst (v := 1) hx hb d_law_960 (by decide) ?_
  refine lv_iadd hx hb d_law_961 ?_
  refine lv_topi (fun z5 ez5 => ?_)
  obtain rfl : z5 = 1 := ez5.trans (by decide)
  refine va_sld hx hb hX hbl hbA hS (by unfold vp_in; decide) d_law_962 ?_
  refine W.eq (g2 := F0 m 963 ls [.int (xs 1), .ref qm]) rfl ?_
  refine lv_topi (fun z6 ez6 => ?_)
  obtain rfl : z6 = 2 := ez6.trans h0
  refine lv_aload_n hx hb d_law_963 rfl (lv_at hl 5 rfl) ?_
  refine lv_iload hx hb d_law_964 (lv_at hl 1 rfl) ?_
  refine lv_iconst (v := 2) hx hb d_law_966 (by decide) ?_
  refine lv_iadd hx hb d_law_967 ?_
  refine lv_topi (fun z7 ez7 => ?_)
  obtain rfl : z7 = 2 := ez7.trans (by decide)
  refine va_sld hx hb hX hbl hbA hS (by unfold vp_in; decide) d_law_968 ?_
  refine W.eq (g2 := F0 m 969 ls [.int (xs 2), .int 2, .ref qm]) rfl ?_
  refine xc_V (As := [.int 2, .int (xs 2)]) (rest := []) (n := 2) (wc := [(qm, .inr (7, [.int 0, .int 0, .int 0, .int 0, .int 0, .int 0, .int (-1), .int (-1), .int 0, .int 0, .int 0, .int 0, .int 0, .int 0, .int 0, .int 0, .ref (qb 0), .ref (qb 1), .ref (qb 2), .ref (qb 3), .int 0, .ref (qb 4), .ref (qb 5), .ref (qb 6), .ref (qb 7), .ref (qb 8), .ref (qb 9), .ref (qb 10), .ref (qb 11), .ref (qb 12), .ref (qb 13), .ref (qb 14), .ref (qb 15), .ref (qb 16), .ref (qb 17), .ref (qb 18), .ref (qb 19), .ref (qb 20), .int 0, .int 0, .int 0, .int 0, .long 0, .long 0, .long 0, .long 0, .long 0, .ref (qb 21), .int 0, .int 0, .int 0, .int 0]))]) (wr := [(qo, .inl (cj, 1, .inr (.inl (fun _ => 0))))]) (tc := []) (tr := [(cj, .long)]) ⟨hx, hb, hml, hown, hts⟩ (c_Mo_count_2_n l D qm qb (xs 2) hk H.size) rfl rfl w_552 w_549 w_550 w_551 w_8 (by decide +kernel) ⟨Nat.le_of_ble_eq_true rfl, Nat.le_of_ble_eq_true rfl⟩ hP hD hK hS hA hN hZ [0] [1] rfl rfl (by decide) (by decide) (by decide) [] [0] rfl rfl (ci := 7) (q0 := 0) (q := (R_Mo, F_Mo, 52)) rfl rfl rfl rfl hl.1 rfl (Nat.le_of_ble_eq_true rfl) d_law_969 ⟨Nat.le_of_ble_eq_true rfl, Nat.le_of_ble_eq_true rfl⟩ (fun u8 H locs hP hD hK hS => ?_)
  have hP : va_P D cls [(qo, .inl (cj, 1, .inr (.inl (fun _ => 0)))), (qm, .inr (7, [.int 1, .int 0, .int 0, .int 0, .int 0, .int 0, .int (-1), .int (-1), .int 0, .int 0, .int 0, .int 0, .int 0, .int 0, .int 0, .int 0, .ref (qb 0), .ref (qb 1), .ref (qb 2), .ref (qb 3), .int 0, .ref (qb 4), .ref (qb 5), .ref (qb 6), .ref (qb 7), .ref (qb 8), .ref (qb 9), .ref (qb 10), .ref (qb 11), .ref (qb 12), .ref (qb 13), .ref (qb 14), .ref (qb 15), .ref (qb 16), .ref (qb 17), .ref (qb 18), .ref (qb 19), .ref (qb 20), .int 0, .int 0, .int 0, .int 0, .long 0, .long 0, .long 0, .long 0, .long 0, .ref (qb 21), .int 0, .int 0, .int 0, .int 0]))] H := hP
  have hD : va_D A [(qo, .inl (cj, 1, .inr (.inl (fun _ => 0)))), (qm, .inr (7, [.int 1, .int 0, .int 0, .int 0, .int 0, .int 0, .int (-1), .int (-1), .int 0, .int 0, .int 0, .int 0, .int 0, .int 0, .int 0, .int 0, .ref (qb 0), .ref (qb 1), .ref (qb 2), .ref (qb 3), .int 0, .ref (qb 4), .ref (qb 5), .ref (qb 6), .ref (qb 7), .ref (qb 8), .ref (qb 9), .ref (qb 10), .ref (qb 11), .ref (qb 12), .ref (qb 13), .ref (qb 14), .ref (qb 15), .ref (qb 16), .ref (qb 17), .ref (qb 18), .ref (qb 19), .ref (qb 20), .int 0, .int 0, .int 0, .int 0, .long 0, .long 0, .long 0, .long 0, .long 0, .ref (qb 21), .int 0, .int 0, .int 0, .int 0]))] := hD
  have hK : va_K D cls [(cj, .long)] s := hK
  refine W.eq (g2 := F0 m 972 ls [.int 0]) rfl ?_
  refine lv_istore (lv' := [(6, .int 0), (5, .int 1), (4, .int 0), (3, .ref qo), (2, .ref qm), (1, .ref qx), (0, .ref b)]) hx hb d_law_972 hl (by decide) rfl (fun ls hl => ?_)
  refine lv_aload_n hx hb d_law_974 rfl (lv_at hl 4 rfl) ?_
  refine xc_V (As := []) (rest := []) (n := 0) (wc := [(qm, .inr (7, [.int 1, .int 0, .int 0, .int 0, .int 0, .int 0, .int (-1), .int (-1), .int 0, .int 0, .int 0, .int 0, .int 0, .int 0, .int 0, .int 0, .ref (qb 0), .ref (qb 1), .ref (qb 2), .ref (qb 3), .int 0, .ref (qb 4), .ref (qb 5), .ref (qb 6), .ref (qb 7), .ref (qb 8), .ref (qb 9), .ref (qb 10), .ref (qb 11), .ref (qb 12), .ref (qb 13), .ref (qb 14), .ref (qb 15), .ref (qb 16), .ref (qb 17), .ref (qb 18), .ref (qb 19), .ref (qb 20), .int 0, .int 0, .int 0, .int 0, .long 0, .long 0, .long 0, .long 0, .long 0, .ref (qb 21), .int 0, .int 0, .int 0, .int 0]))]) (wr := [(qo, .inl (cj, 1, .inr (.inl (fun _ => 0))))]) (tc := []) (tr := [(cj, .long)]) ⟨hx, hb, hml, hown, hts⟩ (c_Mo_thrown_1 l D qm qb H.size) rfl rfl w_445 w_442 w_443 w_444 w_8 (by decide +kernel) ⟨Nat.le_of_ble_eq_true rfl, Nat.le_of_ble_eq_true rfl⟩ hP hD hK hS hA hN hZ [1] [0] rfl rfl (by decide) (by decide) (by decide) [] [0] rfl rfl (ci := 7) (q0 := 0) (q := (R_Mo, F_Mo, 52)) rfl rfl rfl rfl hl.1 rfl (Nat.le_of_ble_eq_true rfl) d_law_975 ⟨Nat.le_of_ble_eq_true rfl, Nat.le_of_ble_eq_true rfl⟩ (fun u9 H locs hP hD hK hS => ?_)
  have hP : va_P D cls [(qo, .inl (cj, 1, .inr (.inl (fun _ => 0)))), (qm, .inr (7, [.int 1, .int 0, .int 0, .int 0, .int 0, .int 0, .int (-1), .int (-1), .int 0, .int 0, .int 0, .int 0, .int 0, .int 0, .int 0, .int 0, .ref (qb 0), .ref (qb 1), .ref (qb 2), .ref (qb 3), .int 0, .ref (qb 4), .ref (qb 5), .ref (qb 6), .ref (qb 7), .ref (qb 8), .ref (qb 9), .ref (qb 10), .ref (qb 11), .ref (qb 12), .ref (qb 13), .ref (qb 14), .ref (qb 15), .ref (qb 16), .ref (qb 17), .ref (qb 18), .ref (qb 19), .ref (qb 20), .int 0, .int 0, .int 0, .int 0, .long 0, .long 0, .long 0, .long 0, .long 0, .ref (qb 21), .int 0, .int 0, .int 0, .int 0]))] H := hP
  have hD : va_D A [(qo, .inl (cj, 1, .inr (.inl (fun _ => 0)))), (qm, .inr (7, [.int 1, .int 0, .int 0, .int 0, .int 0, .int 0, .int (-1), .int (-1), .int 0, .int 0, .int 0, .int 0, .int 0, .int 0, .int 0, .int 0, .ref (qb 0), .ref (qb 1), .ref (qb 2), .ref (qb 3), .int 0, .ref (qb 4), .ref (qb 5), .ref (qb 6), .ref (qb 7), .ref (qb 8), .ref (qb 9), .ref (qb 10), .ref (qb 11), .ref (qb 12), .ref (qb 13), .ref (qb 14), .ref (qb 15), .ref (qb 16), .ref (qb 17), .ref (qb 18), .ref (qb 19), .ref (qb 20), .int 0, .int 0, .int 0, .int 0, .long 0, .long 0, .long 0, .long 0, .long 0, .ref (qb 21), .int 0, .int 0, .int 0, .int 0]))] := hD
  have hK : va_K D cls [(cj, .long)] s := hK
  refine W.eq (g2 := F0 m 978 ls [.int 1]) rfl ?_
  refine lv_iload hx hb d_law_978 (lv_at hl 1 rfl) ?_
  refine lv_icmp_eq (tgt := 985) hx hb d_law_980 (by decide) (fun _ => ?_) (fun q9 => absurd (by decide : ((1 : Int32) = 1)) q9)
  refine lv_iload hx hb d_law_985 (lv_at hl 1 rfl) ?_
  refine lv_if_ne (tgt := 1002) hx hb d_law_987 (by decide) (fun _ => ?_) (fun q9 => absurd q9 (by decide : ¬ ((1 : Int32) = 0)))
  refine lv_goto (tgt := 1005) hx hb d_law_1002 (by decide) ?_
  exact law_tail C0 hA hAf hS (Nat.le_of_ble_eq_true rfl) (Nat.le_of_ble_eq_true rfl) (lv_sub hl [6, 2] rfl)
