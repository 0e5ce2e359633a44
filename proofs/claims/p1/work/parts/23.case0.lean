theorem d_law_108 : decode code 108 = .ok (.aload_n 1, 1) := by decide +kernel
theorem d_law_109 : decode code 109 = .ok (.aload_n 0, 1) := by decide +kernel
theorem d_law_110 : decode code 110 = .ok (.iload 4, 2) := by decide +kernel
theorem d_law_112 : decode code 112 = .ok (.iconst 1, 1) := by decide +kernel
theorem d_law_113 : decode code 113 = .ok (.iadd, 1) := by decide +kernel
theorem d_law_114 : decode code 114 = .ok (.iaload, 1) := by decide +kernel
theorem d_law_115 : decode code 115 = .ok (.aload_n 0, 1) := by decide +kernel
theorem d_law_116 : decode code 116 = .ok (.iload 4, 2) := by decide +kernel
theorem d_law_118 : decode code 118 = .ok (.iconst 2, 1) := by decide +kernel
theorem d_law_119 : decode code 119 = .ok (.iadd, 1) := by decide +kernel
theorem d_law_120 : decode code 120 = .ok (.iaload, 1) := by decide +kernel
theorem d_law_121 : decode code 121 = .ok (.aload_n 0, 1) := by decide +kernel
theorem d_law_122 : decode code 122 = .ok (.iload 4, 2) := by decide +kernel
theorem d_law_124 : decode code 124 = .ok (.iconst 3, 1) := by decide +kernel
theorem d_law_125 : decode code 125 = .ok (.iadd, 1) := by decide +kernel
theorem d_law_126 : decode code 126 = .ok (.iaload, 1) := by decide +kernel
theorem d_law_127 : decode code 127 = .ok (.aload_n 0, 1) := by decide +kernel
theorem d_law_128 : decode code 128 = .ok (.iload 4, 2) := by decide +kernel
theorem d_law_130 : decode code 130 = .ok (.iconst 4, 1) := by decide +kernel
theorem d_law_131 : decode code 131 = .ok (.iadd, 1) := by decide +kernel
theorem d_law_132 : decode code 132 = .ok (.iaload, 1) := by decide +kernel
theorem d_law_133 : decode code 133 = .ok (.aload_n 3, 1) := by decide +kernel
theorem d_law_134 : decode code 134 = .ok (.invokestatic 63, 3) := by decide +kernel
theorem d_law_137 : decode code 137 = .ok (.istore 5, 2) := by decide +kernel
theorem d_law_139 : decode code 139 = .ok (.aload_n 2, 1) := by decide +kernel
theorem d_law_140 : decode code 140 = .ok (.aload_n 0, 1) := by decide +kernel
theorem d_law_141 : decode code 141 = .ok (.iload 4, 2) := by decide +kernel
theorem d_law_143 : decode code 143 = .ok (.iconst 1, 1) := by decide +kernel
theorem d_law_144 : decode code 144 = .ok (.iadd, 1) := by decide +kernel
theorem d_law_145 : decode code 145 = .ok (.iaload, 1) := by decide +kernel
theorem d_law_146 : decode code 146 = .ok (.aload_n 0, 1) := by decide +kernel
theorem d_law_147 : decode code 147 = .ok (.iload 4, 2) := by decide +kernel
theorem d_law_149 : decode code 149 = .ok (.iconst 2, 1) := by decide +kernel
theorem d_law_150 : decode code 150 = .ok (.iadd, 1) := by decide +kernel
theorem d_law_151 : decode code 151 = .ok (.iaload, 1) := by decide +kernel
theorem d_law_152 : decode code 152 = .ok (.aload_n 0, 1) := by decide +kernel
theorem d_law_153 : decode code 153 = .ok (.iload 4, 2) := by decide +kernel
theorem d_law_155 : decode code 155 = .ok (.iconst 3, 1) := by decide +kernel
theorem d_law_156 : decode code 156 = .ok (.iadd, 1) := by decide +kernel
theorem d_law_157 : decode code 157 = .ok (.iaload, 1) := by decide +kernel
theorem d_law_158 : decode code 158 = .ok (.aload_n 0, 1) := by decide +kernel
theorem d_law_159 : decode code 159 = .ok (.iload 4, 2) := by decide +kernel
theorem d_law_161 : decode code 161 = .ok (.iconst 4, 1) := by decide +kernel
theorem d_law_162 : decode code 162 = .ok (.iadd, 1) := by decide +kernel
theorem d_law_163 : decode code 163 = .ok (.iaload, 1) := by decide +kernel
theorem d_law_164 : decode code 164 = .ok (.invokevirtual 68, 3) := by decide +kernel
theorem d_law_167 : decode code 167 = .ok (.istore 6, 2) := by decide +kernel
theorem d_law_169 : decode code 169 = .ok (.aload_n 2, 1) := by decide +kernel
theorem d_law_170 : decode code 170 = .ok (.invokevirtual 69, 3) := by decide +kernel
theorem d_law_173 : decode code 173 = .ok (.iload 5, 2) := by decide +kernel
theorem d_law_175 : decode code 175 = .ok (.if_icmp .eq 5, 3) := by decide +kernel
theorem d_law_180 : decode code 180 = .ok (.iload 5, 2) := by decide +kernel
theorem d_law_182 : decode code 182 = .ok (.ifCond .ne 15, 3) := by decide +kernel
theorem d_law_185 : decode code 185 = .ok (.aload_n 3, 1) := by decide +kernel
theorem d_law_186 : decode code 186 = .ok (.iconst 0, 1) := by decide +kernel
theorem d_law_187 : decode code 187 = .ok (.laload, 1) := by decide +kernel
theorem d_law_188 : decode code 188 = .ok (.iload 6, 2) := by decide +kernel
theorem d_law_190 : decode code 190 = .ok (.i2l, 1) := by decide +kernel
theorem d_law_191 : decode code 191 = .ok (.lcmp, 1) := by decide +kernel
theorem d_law_192 : decode code 192 = .ok (.ifCond .eq 5, 3) := by decide +kernel
theorem d_law_197 : decode code 197 = .ok (.goto 808, 3) := by decide +kernel
set_option maxHeartbeats 4000000 in
set_option maxRecDepth 100000 in
theorem l_feed {p : Program} {l : Launch} {e : Env} {s : State} {m : MethodId} {below : List Frame} {meth : Method} {c : Code} {b : Nat} {xs : Nat → Int32} (htr : l.stackTraces = false) (C0 : lw_At p s m meth c b 5 xs) {A : Nat → Prop} (hA : ∀ q, s.heap.size ≤ q → A q) (hAf : ∀ q, A q → s.heap.size ≤ q) (hN : xN s) (hZ : xZ A s s.heap) {D : va_G} {qx qm qo : Nat} {cj : ClassId} {qa qb : Nat → Nat} {qk ql : Nat → ClassId} {uf : Nat → Option Nat} {H : Heap} {locs : List Loc} (hP : va_P D cls (lawW qx qm qo cj qa qb qk ql uf) H) (hD : va_D A (lawW qx qm qo cj qa qb qk ql uf)) (hK : va_K D cls (lawT cj qk ql) s) (hS : va_S A s.heap H locs) {ls : Array Slot} (hl : lv_has ls 7 [(4, .int 0), (3, .ref qo), (2, .ref qm), (1, .ref qx), (0, .ref b)]) : W p l e room_1 s m #[Value.ref b] below meth c H locs 223 300058 (lw_Z below #[Value.ref b] s) (F0 m 108 ls []) := by
  obtain ⟨hx, hb, hr, hml, hown, hts0, hX, hbl, hlocks, hgv⟩ := id C0
  have hown : s.vm.findClass "ObjectForgeLaw" = some m.cls := hown
  have hbA : ¬ A b := fun h => absurd (hAf b h) (Nat.not_le.mpr hbl)
  have hts : ∀ w ∈ bw, w.before #[Value.ref b] s = true := fun w h => hts0 w (bw_in w h)
  have hP : va_P D cls [(qx, .inr (0, [.ref (qa 0), .ref (qa 1), .ref (qa 2), .int 0])), ((qa 0), .inr (1, [.ref (qa 3), .ref (qa 4), .int 0, .int 0, .int 0, .int 0, .int 0, .int (-1), .long 0, .int 0, .int 0, .int 0, .int 0, .int (-1), .int (-1)])), ((qa 3), .inr (4, [.ref (qa 5), .int 0, .int 0, .int 0, .ref (qa 6), .ref (qa 7), .ref (qa 8)])), ((qa 5), .inl ((qk 0), 8192, .inl (fun _ => 0))), (qm, .inr (7, [.int 0, .int 0, .int 0, .int 0, .int 0, .int 0, .int (-1), .int (-1), .int 0, .int 0, .int 0, .int 0, .int 0, .int 0, .int 0, .int 0, .ref (qb 0), .ref (qb 1), .ref (qb 2), .ref (qb 3), .int 0, .ref (qb 4), .ref (qb 5), .ref (qb 6), .ref (qb 7), .ref (qb 8), .ref (qb 9), .ref (qb 10), .ref (qb 11), .ref (qb 12), .ref (qb 13), .ref (qb 14), .ref (qb 15), .ref (qb 16), .ref (qb 17), .ref (qb 18), .ref (qb 19), .ref (qb 20), .int 0, .int 0, .int 0, .int 0, .long 0, .long 0, .long 0, .long 0, .long 0, .ref (qb 21), .int 0, .int 0, .int 0, .int 0])), ((qb 0), .inl ((ql 0), 8192, .inl (fun _ => 0))), (qo, .inl (cj, 1, .inr (.inl (fun _ => 0))))] H := hP.sub [0, 1, 2, 3, 10, 11, 15] rfl
  have hD : va_D A [(qx, .inr (0, [.ref (qa 0), .ref (qa 1), .ref (qa 2), .int 0])), ((qa 0), .inr (1, [.ref (qa 3), .ref (qa 4), .int 0, .int 0, .int 0, .int 0, .int 0, .int (-1), .long 0, .int 0, .int 0, .int 0, .int 0, .int (-1), .int (-1)])), ((qa 3), .inr (4, [.ref (qa 5), .int 0, .int 0, .int 0, .ref (qa 6), .ref (qa 7), .ref (qa 8)])), ((qa 5), .inl ((qk 0), 8192, .inl (fun _ => 0))), (qm, .inr (7, [.int 0, .int 0, .int 0, .int 0, .int 0, .int 0, .int (-1), .int (-1), .int 0, .int 0, .int 0, .int 0, .int 0, .int 0, .int 0, .int 0, .ref (qb 0), .ref (qb 1), .ref (qb 2), .ref (qb 3), .int 0, .ref (qb 4), .ref (qb 5), .ref (qb 6), .ref (qb 7), .ref (qb 8), .ref (qb 9), .ref (qb 10), .ref (qb 11), .ref (qb 12), .ref (qb 13), .ref (qb 14), .ref (qb 15), .ref (qb 16), .ref (qb 17), .ref (qb 18), .ref (qb 19), .ref (qb 20), .int 0, .int 0, .int 0, .int 0, .long 0, .long 0, .long 0, .long 0, .long 0, .ref (qb 21), .int 0, .int 0, .int 0, .int 0])), ((qb 0), .inl ((ql 0), 8192, .inl (fun _ => 0))), (qo, .inl (cj, 1, .inr (.inl (fun _ => 0))))] := hD.sub [0, 1, 2, 3, 10, 11, 15] (by decide) rfl
  have hK : va_K D cls [((qk 0), .byte), ((ql 0), .byte), (cj, .long)] s := hK.sub [0, 3, 7] rfl
  refine lv_aload_n hx hb d_law_108 rfl (lv_at hl 3 rfl) ?_
  refine lv_aload_n hx hb d_law_109 rfl (lv_at hl 4 rfl) ?_
  refine lv_iload hx hb d_law_110 (lv_at hl 0 rfl) ?_
  refine lv_iconst (v := 1) hx hb d_law_112 (by decide) ?_
  refine lv_iadd hx hb d_law_113 ?_
  refine lv_topi (fun z1 ez1 => ?_)
  obtain rfl : z1 = 1 := ez1.trans (by decide)
  refine va_sld hx hb hX hbl hbA hS (by unfold vp_in; decide) d_law_114 ?_
  refine W.eq (g2 := F0 m 115 ls [.int (xs 1), .ref qx]) rfl ?_
  refine lv_aload_n hx hb d_law_115 rfl (lv_at hl 4 rfl) ?_
  refine lv_iload hx hb d_law_116 (lv_at hl 0 rfl) ?_
  refine lv_iconst (v := 2) hx hb d_law_118 (by decide) ?_
  refine lv_iadd hx hb d_law_119 ?_
  refine lv_topi (fun z2 ez2 => ?_)
  obtain rfl : z2 = 2 := ez2.trans (by decide)
  refine va_sld hx hb hX hbl hbA hS (by unfold vp_in; decide) d_law_120 ?_
  refine W.eq (g2 := F0 m 121 ls [.int (xs 2), .int (xs 1), .ref qx]) rfl ?_
  refine lv_aload_n hx hb d_law_121 rfl (lv_at hl 4 rfl) ?_
  refine lv_iload hx hb d_law_122 (lv_at hl 0 rfl) ?_
  refine lv_iconst (v := 3) hx hb d_law_124 (by decide) ?_
  refine lv_iadd hx hb d_law_125 ?_
  refine lv_topi (fun z3 ez3 => ?_)
  obtain rfl : z3 = 3 := ez3.trans (by decide)
  refine va_sld hx hb hX hbl hbA hS (by unfold vp_in; decide) d_law_126 ?_
  refine W.eq (g2 := F0 m 127 ls [.int (xs 3), .int (xs 2), .int (xs 1), .ref qx]) rfl ?_
  refine lv_aload_n hx hb d_law_127 rfl (lv_at hl 4 rfl) ?_
  refine lv_iload hx hb d_law_128 (lv_at hl 0 rfl) ?_
  refine lv_iconst (v := 4) hx hb d_law_130 (by decide) ?_
  refine lv_iadd hx hb d_law_131 ?_
  refine lv_topi (fun z4 ez4 => ?_)
  obtain rfl : z4 = 4 := ez4.trans (by decide)
  refine va_sld hx hb hX hbl hbA hS (by unfold vp_in; decide) d_law_132 ?_
  refine W.eq (g2 := F0 m 133 ls [.int (xs 4), .int (xs 3), .int (xs 2), .int (xs 1), .ref qx]) rfl ?_
  refine lv_aload_n hx hb d_law_133 rfl (lv_at hl 1 rfl) ?_
  refine xc_SW (As := [.ref qx, .int (xs 1), .int (xs 2), .int (xs 3), .int (xs 4), .ref qo]) (rest := []) (n := 6) (wc := [(qx, .inr (0, [.ref (qa 0), .ref (qa 1), .ref (qa 2), .int 0])), ((qa 0), .inr (1, [.ref (qa 3), .ref (qa 4), .int 0, .int 0, .int 0, .int 0, .int 0, .int (-1), .long 0, .int 0, .int 0, .int 0, .int 0, .int (-1), .int (-1)])), ((qa 3), .inr (4, [.ref (qa 5), .int 0, .int 0, .int 0, .ref (qa 6), .ref (qa 7), .ref (qa 8)])), ((qa 5), .inl ((qk 0), 8192, .inl (fun _ => 0))), (qo, .inl (cj, 1, .inr (.inl (fun _ => 0))))]) (wr := [(qm, .inr (7, [.int 0, .int 0, .int 0, .int 0, .int 0, .int 0, .int (-1), .int (-1), .int 0, .int 0, .int 0, .int 0, .int 0, .int 0, .int 0, .int 0, .ref (qb 0), .ref (qb 1), .ref (qb 2), .ref (qb 3), .int 0, .ref (qb 4), .ref (qb 5), .ref (qb 6), .ref (qb 7), .ref (qb 8), .ref (qb 9), .ref (qb 10), .ref (qb 11), .ref (qb 12), .ref (qb 13), .ref (qb 14), .ref (qb 15), .ref (qb 16), .ref (qb 17), .ref (qb 18), .ref (qb 19), .ref (qb 20), .int 0, .int 0, .int 0, .int 0, .long 0, .long 0, .long 0, .long 0, .long 0, .ref (qb 21), .int 0, .int 0, .int 0, .int 0])), ((qb 0), .inl ((ql 0), 8192, .inl (fun _ => 0)))]) (tc := [((qk 0), .byte), (cj, .long)]) (tr := [((ql 0), .byte)]) ⟨hx, hb, hml, hown, hts⟩ (c_La_feed l htr D qx qo cj qa qk (xs 1) (xs 2) (xs 3) (xs 4) H.size) rfl rfl w_164 w_162 w_163 w_0 (by decide +kernel) ⟨Nat.le_of_ble_eq_true rfl, Nat.le_of_ble_eq_true rfl⟩ hP hD hK hS hA hN hZ [0, 1, 2, 3, 6] [4, 5] rfl rfl (by decide) (by decide) (by decide) [0, 2] [1] rfl rfl rfl hl.1 rfl (Nat.le_of_ble_eq_true rfl) d_law_134 ⟨Nat.le_of_ble_eq_true rfl, Nat.le_of_ble_eq_true rfl⟩ (fun u5 H locs hP hD hK hS => ?_)
  have hP : va_P D cls [(qm, .inr (7, [.int 0, .int 0, .int 0, .int 0, .int 0, .int 0, .int (-1), .int (-1), .int 0, .int 0, .int 0, .int 0, .int 0, .int 0, .int 0, .int 0, .ref (qb 0), .ref (qb 1), .ref (qb 2), .ref (qb 3), .int 0, .ref (qb 4), .ref (qb 5), .ref (qb 6), .ref (qb 7), .ref (qb 8), .ref (qb 9), .ref (qb 10), .ref (qb 11), .ref (qb 12), .ref (qb 13), .ref (qb 14), .ref (qb 15), .ref (qb 16), .ref (qb 17), .ref (qb 18), .ref (qb 19), .ref (qb 20), .int 0, .int 0, .int 0, .int 0, .long 0, .long 0, .long 0, .long 0, .long 0, .ref (qb 21), .int 0, .int 0, .int 0, .int 0])), ((qb 0), .inl ((ql 0), 8192, .inl (fun _ => 0))), (qo, .inl (cj, 1, .inr (.inl (vp_updL (fun _ => 0) (0 : Int32).toNatClampNeg 16))))] H := hP
  have hD : va_D A [(qm, .inr (7, [.int 0, .int 0, .int 0, .int 0, .int 0, .int 0, .int (-1), .int (-1), .int 0, .int 0, .int 0, .int 0, .int 0, .int 0, .int 0, .int 0, .ref (qb 0), .ref (qb 1), .ref (qb 2), .ref (qb 3), .int 0, .ref (qb 4), .ref (qb 5), .ref (qb 6), .ref (qb 7), .ref (qb 8), .ref (qb 9), .ref (qb 10), .ref (qb 11), .ref (qb 12), .ref (qb 13), .ref (qb 14), .ref (qb 15), .ref (qb 16), .ref (qb 17), .ref (qb 18), .ref (qb 19), .ref (qb 20), .int 0, .int 0, .int 0, .int 0, .long 0, .long 0, .long 0, .long 0, .long 0, .ref (qb 21), .int 0, .int 0, .int 0, .int 0])), ((qb 0), .inl ((ql 0), 8192, .inl (fun _ => 0))), (qo, .inl (cj, 1, .inr (.inl (vp_updL (fun _ => 0) (0 : Int32).toNatClampNeg 16))))] := hD
  have hK : va_K D cls [((ql 0), .byte), (cj, .long)] s := hK
  refine W.eq (g2 := F0 m 137 ls [.int 0]) rfl ?_
  refine lv_istore (lv' := [(5, .int 0), (4, .int 0), (3, .ref qo), (2, .ref qm), (1, .ref qx), (0, .ref b)]) hx hb d_law_137 hl (by decide) rfl (fun ls hl => ?_)
  refine lv_aload_n hx hb d_law_139 rfl (lv_at hl 3 rfl) ?_
  refine lv_aload_n hx hb d_law_140 rfl (lv_at hl 5 rfl) ?_
  refine lv_iload hx hb d_law_141 (lv_at hl 1 rfl) ?_
  refine lv_iconst (v := 1) hx hb d_law_143 (by decide) ?_
  refine lv_iadd hx hb d_law_144 ?_
  refine lv_topi (fun z6 ez6 => ?_)
  obtain rfl : z6 = 1 := ez6.trans (by decide)
  refine va_sld hx hb hX hbl hbA hS (by unfold vp_in; decide) d_law_145 ?_
  refine W.eq (g2 := F0 m 146 ls [.int (xs 1), .ref qm]) rfl ?_
  refine lv_aload_n hx hb d_law_146 rfl (lv_at hl 5 rfl) ?_
  refine lv_iload hx hb d_law_147 (lv_at hl 1 rfl) ?_
  refine lv_iconst (v := 2) hx hb d_law_149 (by decide) ?_
  refine lv_iadd hx hb d_law_150 ?_
  refine lv_topi (fun z7 ez7 => ?_)
  obtain rfl : z7 = 2 := ez7.trans (by decide)
  refine va_sld hx hb hX hbl hbA hS (by unfold vp_in; decide) d_law_151 ?_
  refine W.eq (g2 := F0 m 152 ls [.int (xs 2), .int (xs 1), .ref qm]) rfl ?_
  refine lv_aload_n hx hb d_law_152 rfl (lv_at hl 5 rfl) ?_
  refine lv_iload hx hb d_law_153 (lv_at hl 1 rfl) ?_
  refine lv_iconst (v := 3) hx hb d_law_155 (by decide) ?_
  refine lv_iadd hx hb d_law_156 ?_
  refine lv_topi (fun z8 ez8 => ?_)
  obtain rfl : z8 = 3 := ez8.trans (by decide)
  refine va_sld hx hb hX hbl hbA hS (by unfold vp_in; decide) d_law_157 ?_
  refine W.eq (g2 := F0 m 158 ls [.int (xs 3), .int (xs 2), .int (xs 1), .ref qm]) rfl ?_
  refine lv_aload_n hx hb d_law_158 rfl (lv_at hl 5 rfl) ?_
  refine lv_iload hx hb d_law_159 (lv_at hl 1 rfl) ?_
  refine lv_iconst (v := 4) hx hb d_law_161 (by decide) ?_
  refine lv_iadd hx hb d_law_162 ?_
  refine lv_topi (fun z9 ez9 => ?_)
  obtain rfl : z9 = 4 := ez9.trans (by decide)
  refine va_sld hx hb hX hbl hbA hS (by unfold vp_in; decide) d_law_163 ?_
  refine W.eq (g2 := F0 m 164 ls [.int (xs 4), .int (xs 3), .int (xs 2), .int (xs 1), .ref qm]) rfl ?_
  refine xc_V (As := [.int (xs 1), .int (xs 2), .int (xs 3), .int (xs 4)]) (rest := []) (n := 4) (wc := [(qm, .inr (7, [.int 0, .int 0, .int 0, .int 0, .int 0, .int 0, .int (-1), .int (-1), .int 0, .int 0, .int 0, .int 0, .int 0, .int 0, .int 0, .int 0, .ref (qb 0), .ref (qb 1), .ref (qb 2), .ref (qb 3), .int 0, .ref (qb 4), .ref (qb 5), .ref (qb 6), .ref (qb 7), .ref (qb 8), .ref (qb 9), .ref (qb 10), .ref (qb 11), .ref (qb 12), .ref (qb 13), .ref (qb 14), .ref (qb 15), .ref (qb 16), .ref (qb 17), .ref (qb 18), .ref (qb 19), .ref (qb 20), .int 0, .int 0, .int 0, .int 0, .long 0, .long 0, .long 0, .long 0, .long 0, .ref (qb 21), .int 0, .int 0, .int 0, .int 0])), ((qb 0), .inl ((ql 0), 8192, .inl (fun _ => 0)))]) (wr := [(qo, .inl (cj, 1, .inr (.inl (vp_updL (fun _ => 0) (0 : Int32).toNatClampNeg 16))))]) (tc := [((ql 0), .byte)]) (tr := [(cj, .long)]) ⟨hx, hb, hml, hown, hts⟩ (c_Mo_feed l D qm qb ql (xs 1) (xs 2) (xs 3) (xs 4) H.size) rfl rfl w_449 w_446 w_447 w_448 w_8 (by decide +kernel) ⟨Nat.le_of_ble_eq_true rfl, Nat.le_of_ble_eq_true rfl⟩ hP hD hK hS hA hN hZ [0, 1] [2] rfl rfl (by decide) (by decide) (by decide) [0] [1] rfl rfl (ci := 7) (q0 := 0) (q := (R_Mo, F_Mo, 52)) rfl rfl rfl rfl hl.1 rfl (Nat.le_of_ble_eq_true rfl) d_law_164 ⟨Nat.le_of_ble_eq_true rfl, Nat.le_of_ble_eq_true rfl⟩ (fun u10 H locs hP hD hK hS => ?_)
  have hP : va_P D cls [(qo, .inl (cj, 1, .inr (.inl (vp_updL (fun _ => 0) (0 : Int32).toNatClampNeg 16)))), (qm, .inr (7, [.int 0, .int 16, .int 0, .int 0, .int 0, .int 0, .int (-1), .int (-1), .int 0, .int 0, .int 0, .int 0, .int 0, .int 0, .int 0, .int 0, .ref (qb 0), .ref (qb 1), .ref (qb 2), .ref (qb 3), .int 0, .ref (qb 4), .ref (qb 5), .ref (qb 6), .ref (qb 7), .ref (qb 8), .ref (qb 9), .ref (qb 10), .ref (qb 11), .ref (qb 12), .ref (qb 13), .ref (qb 14), .ref (qb 15), .ref (qb 16), .ref (qb 17), .ref (qb 18), .ref (qb 19), .ref (qb 20), .int 0, .int 0, .int 0, .int 0, .long 0, .long 0, .long 0, .long 0, .long 0, .ref (qb 21), .int 0, .int 0, .int 0, .int 0]))] H := hP
  have hD : va_D A [(qo, .inl (cj, 1, .inr (.inl (vp_updL (fun _ => 0) (0 : Int32).toNatClampNeg 16)))), (qm, .inr (7, [.int 0, .int 16, .int 0, .int 0, .int 0, .int 0, .int (-1), .int (-1), .int 0, .int 0, .int 0, .int 0, .int 0, .int 0, .int 0, .int 0, .ref (qb 0), .ref (qb 1), .ref (qb 2), .ref (qb 3), .int 0, .ref (qb 4), .ref (qb 5), .ref (qb 6), .ref (qb 7), .ref (qb 8), .ref (qb 9), .ref (qb 10), .ref (qb 11), .ref (qb 12), .ref (qb 13), .ref (qb 14), .ref (qb 15), .ref (qb 16), .ref (qb 17), .ref (qb 18), .ref (qb 19), .ref (qb 20), .int 0, .int 0, .int 0, .int 0, .long 0, .long 0, .long 0, .long 0, .long 0, .ref (qb 21), .int 0, .int 0, .int 0, .int 0]))] := hD
  have hK : va_K D cls [(cj, .long)] s := hK
  refine W.eq (g2 := F0 m 167 ls [.int 16]) rfl ?_
  refine lv_istore (lv' := [(6, .int 16), (5, .int 0), (4, .int 0), (3, .ref qo), (2, .ref qm), (1, .ref qx), (0, .ref b)]) hx hb d_law_167 hl (by decide) rfl (fun ls hl => ?_)
  refine lv_aload_n hx hb d_law_169 rfl (lv_at hl 4 rfl) ?_
  refine xc_V (As := []) (rest := []) (n := 0) (wc := [(qm, .inr (7, [.int 0, .int 16, .int 0, .int 0, .int 0, .int 0, .int (-1), .int (-1), .int 0, .int 0, .int 0, .int 0, .int 0, .int 0, .int 0, .int 0, .ref (qb 0), .ref (qb 1), .ref (qb 2), .ref (qb 3), .int 0, .ref (qb 4), .ref (qb 5), .ref (qb 6), .ref (qb 7), .ref (qb 8), .ref (qb 9), .ref (qb 10), .ref (qb 11), .ref (qb 12), .ref (qb 13), .ref (qb 14), .ref (qb 15), .ref (qb 16), .ref (qb 17), .ref (qb 18), .ref (qb 19), .ref (qb 20), .int 0, .int 0, .int 0, .int 0, .long 0, .long 0, .long 0, .long 0, .long 0, .ref (qb 21), .int 0, .int 0, .int 0, .int 0]))]) (wr := [(qo, .inl (cj, 1, .inr (.inl (vp_updL (fun _ => 0) (0 : Int32).toNatClampNeg 16))))]) (tc := []) (tr := [(cj, .long)]) ⟨hx, hb, hml, hown, hts⟩ (c_Mo_thrown_f l D qm qb H.size) rfl rfl w_445 w_442 w_443 w_444 w_8 (by decide +kernel) ⟨Nat.le_of_ble_eq_true rfl, Nat.le_of_ble_eq_true rfl⟩ hP hD hK hS hA hN hZ [1] [0] rfl rfl (by decide) (by decide) (by decide) [] [0] rfl rfl (ci := 7) (q0 := 0) (q := (R_Mo, F_Mo, 52)) rfl rfl rfl rfl hl.1 rfl (Nat.le_of_ble_eq_true rfl) d_law_170 ⟨Nat.le_of_ble_eq_true rfl, Nat.le_of_ble_eq_true rfl⟩ (fun u11 H locs hP hD hK hS => ?_)
  have hP : va_P D cls [(qo, .inl (cj, 1, .inr (.inl (vp_updL (fun _ => 0) (0 : Int32).toNatClampNeg 16)))), (qm, .inr (7, [.int 0, .int 16, .int 0, .int 0, .int 0, .int 0, .int (-1), .int (-1), .int 0, .int 0, .int 0, .int 0, .int 0, .int 0, .int 0, .int 0, .ref (qb 0), .ref (qb 1), .ref (qb 2), .ref (qb 3), .int 0, .ref (qb 4), .ref (qb 5), .ref (qb 6), .ref (qb 7), .ref (qb 8), .ref (qb 9), .ref (qb 10), .ref (qb 11), .ref (qb 12), .ref (qb 13), .ref (qb 14), .ref (qb 15), .ref (qb 16), .ref (qb 17), .ref (qb 18), .ref (qb 19), .ref (qb 20), .int 0, .int 0, .int 0, .int 0, .long 0, .long 0, .long 0, .long 0, .long 0, .ref (qb 21), .int 0, .int 0, .int 0, .int 0]))] H := hP
  have hD : va_D A [(qo, .inl (cj, 1, .inr (.inl (vp_updL (fun _ => 0) (0 : Int32).toNatClampNeg 16)))), (qm, .inr (7, [.int 0, .int 16, .int 0, .int 0, .int 0, .int 0, .int (-1), .int (-1), .int 0, .int 0, .int 0, .int 0, .int 0, .int 0, .int 0, .int 0, .ref (qb 0), .ref (qb 1), .ref (qb 2), .ref (qb 3), .int 0, .ref (qb 4), .ref (qb 5), .ref (qb 6), .ref (qb 7), .ref (qb 8), .ref (qb 9), .ref (qb 10), .ref (qb 11), .ref (qb 12), .ref (qb 13), .ref (qb 14), .ref (qb 15), .ref (qb 16), .ref (qb 17), .ref (qb 18), .ref (qb 19), .ref (qb 20), .int 0, .int 0, .int 0, .int 0, .long 0, .long 0, .long 0, .long 0, .long 0, .ref (qb 21), .int 0, .int 0, .int 0, .int 0]))] := hD
  have hK : va_K D cls [(cj, .long)] s := hK
  refine W.eq (g2 := F0 m 173 ls [.int 0]) rfl ?_
  refine lv_iload hx hb d_law_173 (lv_at hl 1 rfl) ?_
  refine lv_icmp_eq (tgt := 180) hx hb d_law_175 (by decide) (fun _ => ?_) (fun q9 => absurd (by decide : ((0 : Int32) = 0)) q9)
  refine lv_iload hx hb d_law_180 (lv_at hl 1 rfl) ?_
  refine lv_if_ne (tgt := 197) hx hb d_law_182 (by decide) (fun q9 => absurd (by decide : ((0 : Int32) = 0)) q9) (fun _ => ?_)
  refine lv_aload_n hx hb d_law_185 rfl (lv_at hl 3 rfl) ?_
  refine lv_iconst (v := 0) hx hb d_law_186 (by decide) ?_
  refine va_lald hx hb hK hP 0 0 rfl rfl (by unfold vp_in; decide) d_law_187 ?_
  refine lv_topl (fun z12 ez12 => ?_)
  obtain rfl : z12 = 16 := ez12.trans (by decide)
  refine lv_iload hx hb d_law_188 (lv_at hl 0 rfl) ?_
  refine lv_i2l (v := 16) hx hb d_law_190 (by first | rfl | decide) ?_
  refine W.lcmp hx hb d_law_191 ?_
  refine lv_topi (fun z13 ez13 => ?_)
  obtain rfl : z13 = 0 := ez13.trans (by decide)
  refine lv_if_eq (tgt := 197) hx hb d_law_192 (by decide) (fun _ => ?_) (fun q9 => absurd (by decide : ((0 : Int32) = 0)) q9)
  refine lv_goto (tgt := 1005) hx hb d_law_197 (by decide) ?_
  exact law_tail C0 hA hAf hS (Nat.le_of_ble_eq_true rfl) (Nat.le_of_ble_eq_true rfl) (lv_sub hl [6, 2] rfl)

theorem d_law_200 : decode code 200 = .ok (.aload_n 1, 1) := by decide +kernel
theorem d_law_201 : decode code 201 = .ok (.aload_n 0, 1) := by decide +kernel
theorem d_law_202 : decode code 202 = .ok (.iload 4, 2) := by decide +kernel
theorem d_law_204 : decode code 204 = .ok (.iconst 1, 1) := by decide +kernel
theorem d_law_205 : decode code 205 = .ok (.iadd, 1) := by decide +kernel
theorem d_law_206 : decode code 206 = .ok (.iaload, 1) := by decide +kernel
theorem d_law_207 : decode code 207 = .ok (.aload_n 3, 1) := by decide +kernel
theorem d_law_208 : decode code 208 = .ok (.invokestatic 72, 3) := by decide +kernel
theorem d_law_211 : decode code 211 = .ok (.istore 5, 2) := by decide +kernel
theorem d_law_213 : decode code 213 = .ok (.aload_n 2, 1) := by decide +kernel
theorem d_law_214 : decode code 214 = .ok (.aload_n 0, 1) := by decide +kernel
theorem d_law_215 : decode code 215 = .ok (.iload 4, 2) := by decide +kernel
theorem d_law_217 : decode code 217 = .ok (.iconst 1, 1) := by decide +kernel
theorem d_law_218 : decode code 218 = .ok (.iadd, 1) := by decide +kernel
theorem d_law_219 : decode code 219 = .ok (.iaload, 1) := by decide +kernel
theorem d_law_220 : decode code 220 = .ok (.invokevirtual 75, 3) := by decide +kernel
theorem d_law_223 : decode code 223 = .ok (.istore 6, 2) := by decide +kernel
theorem d_law_225 : decode code 225 = .ok (.aload_n 2, 1) := by decide +kernel
theorem d_law_226 : decode code 226 = .ok (.invokevirtual 69, 3) := by decide +kernel
theorem d_law_229 : decode code 229 = .ok (.iload 5, 2) := by decide +kernel
theorem d_law_231 : decode code 231 = .ok (.if_icmp .eq 5, 3) := by decide +kernel
theorem d_law_236 : decode code 236 = .ok (.iload 5, 2) := by decide +kernel
theorem d_law_238 : decode code 238 = .ok (.ifCond .ne 15, 3) := by decide +kernel
theorem d_law_241 : decode code 241 = .ok (.aload_n 3, 1) := by decide +kernel
theorem d_law_242 : decode code 242 = .ok (.iconst 0, 1) := by decide +kernel
theorem d_law_243 : decode code 243 = .ok (.laload, 1) := by decide +kernel
theorem d_law_244 : decode code 244 = .ok (.iload 6, 2) := by decide +kernel
theorem d_law_246 : decode code 246 = .ok (.i2l, 1) := by decide +kernel
theorem d_law_247 : decode code 247 = .ok (.lcmp, 1) := by decide +kernel
theorem d_law_248 : decode code 248 = .ok (.ifCond .eq 5, 3) := by decide +kernel
theorem d_law_253 : decode code 253 = .ok (.goto 752, 3) := by decide +kernel
set_option maxHeartbeats 4000000 in
set_option maxRecDepth 100000 in
theorem l_end_0 {p : Program} {l : Launch} {e : Env} {s : State} {m : MethodId} {below : List Frame} {meth : Method} {c : Code} {b : Nat} {xs : Nat → Int32} (htr : l.stackTraces = false) (C0 : lw_At p s m meth c b 5 xs) {A : Nat → Prop} (hA : ∀ q, s.heap.size ≤ q → A q) (hAf : ∀ q, A q → s.heap.size ≤ q) (hN : xN s) (hZ : xZ A s s.heap) {D : va_G} {qx qm qo : Nat} {cj : ClassId} {qa qb : Nat → Nat} {qk ql : Nat → ClassId} {uf : Nat → Option Nat} {H : Heap} {locs : List Loc} (h0 : xs 1 = 0) (hP : va_P D cls (lawW qx qm qo cj qa qb qk ql uf) H) (hD : va_D A (lawW qx qm qo cj qa qb qk ql uf)) (hK : va_K D cls (lawT cj qk ql) s) (hS : va_S A s.heap H locs) {ls : Array Slot} (hl : lv_has ls 7 [(4, .int 0), (3, .ref qo), (2, .ref qm), (1, .ref qx), (0, .ref b)]) : W p l e room_1 s m #[Value.ref b] below meth c H locs 223 300058 (lw_Z below #[Value.ref b] s) (F0 m 200 ls []) := by
  obtain ⟨hx, hb, hr, hml, hown, hts0, hX, hbl, hlocks, hgv⟩ := id C0
  have hown : s.vm.findClass "ObjectForgeLaw" = some m.cls := hown
  have hbA : ¬ A b := fun h => absurd (hAf b h) (Nat.not_le.mpr hbl)
  have hts : ∀ w ∈ bw, w.before #[Value.ref b] s = true := fun w h => hts0 w (bw_in w h)
  have hP : va_P D cls [(qx, .inr (0, [.ref (qa 0), .ref (qa 1), .ref (qa 2), .int 0])), ((qa 0), .inr (1, [.ref (qa 3), .ref (qa 4), .int 0, .int 0, .int 0, .int 0, .int 0, .int (-1), .long 0, .int 0, .int 0, .int 0, .int 0, .int (-1), .int (-1)])), ((qa 3), .inr (4, [.ref (qa 5), .int 0, .int 0, .int 0, .ref (qa 6), .ref (qa 7), .ref (qa 8)])), (qm, .inr (7, [.int 0, .int 0, .int 0, .int 0, .int 0, .int 0, .int (-1), .int (-1), .int 0, .int 0, .int 0, .int 0, .int 0, .int 0, .int 0, .int 0, .ref (qb 0), .ref (qb 1), .ref (qb 2), .ref (qb 3), .int 0, .ref (qb 4), .ref (qb 5), .ref (qb 6), .ref (qb 7), .ref (qb 8), .ref (qb 9), .ref (qb 10), .ref (qb 11), .ref (qb 12), .ref (qb 13), .ref (qb 14), .ref (qb 15), .ref (qb 16), .ref (qb 17), .ref (qb 18), .ref (qb 19), .ref (qb 20), .int 0, .int 0, .int 0, .int 0, .long 0, .long 0, .long 0, .long 0, .long 0, .ref (qb 21), .int 0, .int 0, .int 0, .int 0])), (qo, .inl (cj, 1, .inr (.inl (fun _ => 0))))] H := hP.sub [0, 1, 2, 10, 15] rfl
  have hD : va_D A [(qx, .inr (0, [.ref (qa 0), .ref (qa 1), .ref (qa 2), .int 0])), ((qa 0), .inr (1, [.ref (qa 3), .ref (qa 4), .int 0, .int 0, .int 0, .int 0, .int 0, .int (-1), .long 0, .int 0, .int 0, .int 0, .int 0, .int (-1), .int (-1)])), ((qa 3), .inr (4, [.ref (qa 5), .int 0, .int 0, .int 0, .ref (qa 6), .ref (qa 7), .ref (qa 8)])), (qm, .inr (7, [.int 0, .int 0, .int 0, .int 0, .int 0, .int 0, .int (-1), .int (-1), .int 0, .int 0, .int 0, .int 0, .int 0, .int 0, .int 0, .int 0, .ref (qb 0), .ref (qb 1), .ref (qb 2), .ref (qb 3), .int 0, .ref (qb 4), .ref (qb 5), .ref (qb 6), .ref (qb 7), .ref (qb 8), .ref (qb 9), .ref (qb 10), .ref (qb 11), .ref (qb 12), .ref (qb 13), .ref (qb 14), .ref (qb 15), .ref (qb 16), .ref (qb 17), .ref (qb 18), .ref (qb 19), .ref (qb 20), .int 0, .int 0, .int 0, .int 0, .long 0, .long 0, .long 0, .long 0, .long 0, .ref (qb 21), .int 0, .int 0, .int 0, .int 0])), (qo, .inl (cj, 1, .inr (.inl (fun _ => 0))))] := hD.sub [0, 1, 2, 10, 15] (by decide) rfl
  have hK : va_K D cls [(cj, .long)] s := hK.sub [7] rfl
  refine lv_aload_n hx hb d_law_200 rfl (lv_at hl 3 rfl) ?_
  refine lv_aload_n hx hb d_law_201 rfl (lv_at hl 4 rfl) ?_
  refine lv_iload hx hb d_law_202 (lv_at hl 0 rfl) ?_
  refine lv_iconst (v := 1) hx hb d_law_204 (by decide) ?_
  refine lv_iadd hx hb d_law_205 ?_
  refine lv_topi (fun z1 ez1 => ?_)
  obtain rfl : z1 = 1 := ez1.trans (by decide)
  refine va_sld hx hb hX hbl hbA hS (by unfold vp_in; decide) d_law_206 ?_
  refine W.eq (g2 := F0 m 207 ls [.int (xs 1), .ref qx]) rfl ?_
  refine lv_topi (fun z2 ez2 => ?_)
  obtain rfl : z2 = 0 := ez2.trans h0
  refine lv_aload_n hx hb d_law_207 rfl (lv_at hl 1 rfl) ?_
  refine xc_SW (As := [.ref qx, .int 0, .ref qo]) (rest := []) (n := 3) (wc := [(qx, .inr (0, [.ref (qa 0), .ref (qa 1), .ref (qa 2), .int 0])), ((qa 0), .inr (1, [.ref (qa 3), .ref (qa 4), .int 0, .int 0, .int 0, .int 0, .int 0, .int (-1), .long 0, .int 0, .int 0, .int 0, .int 0, .int (-1), .int (-1)])), ((qa 3), .inr (4, [.ref (qa 5), .int 0, .int 0, .int 0, .ref (qa 6), .ref (qa 7), .ref (qa 8)])), (qo, .inl (cj, 1, .inr (.inl (fun _ => 0))))]) (wr := [(qm, .inr (7, [.int 0, .int 0, .int 0, .int 0, .int 0, .int 0, .int (-1), .int (-1), .int 0, .int 0, .int 0, .int 0, .int 0, .int 0, .int 0, .int 0, .ref (qb 0), .ref (qb 1), .ref (qb 2), .ref (qb 3), .int 0, .ref (qb 4), .ref (qb 5), .ref (qb 6), .ref (qb 7), .ref (qb 8), .ref (qb 9), .ref (qb 10), .ref (qb 11), .ref (qb 12), .ref (qb 13), .ref (qb 14), .ref (qb 15), .ref (qb 16), .ref (qb 17), .ref (qb 18), .ref (qb 19), .ref (qb 20), .int 0, .int 0, .int 0, .int 0, .long 0, .long 0, .long 0, .long 0, .long 0, .ref (qb 21), .int 0, .int 0, .int 0, .int 0]))]) (tc := [(cj, .long)]) (tr := []) ⟨hx, hb, hml, hown, hts⟩ (c_La_end_0 l htr D qx qo cj qa qk H.size) rfl rfl w_224 w_222 w_223 w_0 (by decide +kernel) ⟨Nat.le_of_ble_eq_true rfl, Nat.le_of_ble_eq_true rfl⟩ hP hD hK hS hA hN hZ [0, 1, 2, 4] [3] rfl rfl (by decide) (by decide) (by decide) [0] [] rfl rfl rfl hl.1 rfl (Nat.le_of_ble_eq_true rfl) d_law_208 ⟨Nat.le_of_ble_eq_true rfl, Nat.le_of_ble_eq_true rfl⟩ (fun u3 H locs hP hD hK hS => ?_)
  have hP : va_P D cls [(qm, .inr (7, [.int 0, .int 0, .int 0, .int 0, .int 0, .int 0, .int (-1), .int (-1), .int 0, .int 0, .int 0, .int 0, .int 0, .int 0, .int 0, .int 0, .ref (qb 0), .ref (qb 1), .ref (qb 2), .ref (qb 3), .int 0, .ref (qb 4), .ref (qb 5), .ref (qb 6), .ref (qb 7), .ref (qb 8), .ref (qb 9), .ref (qb 10), .ref (qb 11), .ref (qb 12), .ref (qb 13), .ref (qb 14), .ref (qb 15), .ref (qb 16), .ref (qb 17), .ref (qb 18), .ref (qb 19), .ref (qb 20), .int 0, .int 0, .int 0, .int 0, .long 0, .long 0, .long 0, .long 0, .long 0, .ref (qb 21), .int 0, .int 0, .int 0, .int 0])), (qo, .inl (cj, 1, .inr (.inl (vp_updL (fun _ => 0) (0 : Int32).toNatClampNeg 0))))] H := hP
  have hD : va_D A [(qm, .inr (7, [.int 0, .int 0, .int 0, .int 0, .int 0, .int 0, .int (-1), .int (-1), .int 0, .int 0, .int 0, .int 0, .int 0, .int 0, .int 0, .int 0, .ref (qb 0), .ref (qb 1), .ref (qb 2), .ref (qb 3), .int 0, .ref (qb 4), .ref (qb 5), .ref (qb 6), .ref (qb 7), .ref (qb 8), .ref (qb 9), .ref (qb 10), .ref (qb 11), .ref (qb 12), .ref (qb 13), .ref (qb 14), .ref (qb 15), .ref (qb 16), .ref (qb 17), .ref (qb 18), .ref (qb 19), .ref (qb 20), .int 0, .int 0, .int 0, .int 0, .long 0, .long 0, .long 0, .long 0, .long 0, .ref (qb 21), .int 0, .int 0, .int 0, .int 0])), (qo, .inl (cj, 1, .inr (.inl (vp_updL (fun _ => 0) (0 : Int32).toNatClampNeg 0))))] := hD
  have hK : va_K D cls [(cj, .long)] s := hK
  refine W.eq (g2 := F0 m 211 ls [.int 0]) rfl ?_
  refine lv_istore (lv' := [(5, .int 0), (4, .int 0), (3, .ref qo), (2, .ref qm), (1, .ref qx), (0, .ref b)]) hx hb d_law_211 hl (by decide) rfl (fun ls hl => ?_)
  refine lv_aload_n hx hb d_law_213 rfl (lv_at hl 3 rfl) ?_
  refine lv_aload_n hx hb d_law_214 rfl (lv_at hl 5 rfl) ?_
  refine lv_iload hx hb d_law_215 (lv_at hl 1 rfl) ?_
  refine lv_iconst (v := 1) hx hb d_law_217 (by decide) ?_
  refine lv_iadd hx hb d_law_218 ?_
  refine lv_topi (fun z4 ez4 => ?_)
  obtain rfl : z4 = 1 := ez4.trans (by decide)
  refine va_sld hx hb hX hbl hbA hS (by unfold vp_in; decide) d_law_219 ?_
  refine W.eq (g2 := F0 m 220 ls [.int (xs 1), .ref qm]) rfl ?_
  refine lv_topi (fun z5 ez5 => ?_)
  obtain rfl : z5 = 0 := ez5.trans h0
  refine xc_V (As := [.int 0]) (rest := []) (n := 1) (wc := [(qm, .inr (7, [.int 0, .int 0, .int 0, .int 0, .int 0, .int 0, .int (-1), .int (-1), .int 0, .int 0, .int 0, .int 0, .int 0, .int 0, .int 0, .int 0, .ref (qb 0), .ref (qb 1), .ref (qb 2), .ref (qb 3), .int 0, .ref (qb 4), .ref (qb 5), .ref (qb 6), .ref (qb 7), .ref (qb 8), .ref (qb 9), .ref (qb 10), .ref (qb 11), .ref (qb 12), .ref (qb 13), .ref (qb 14), .ref (qb 15), .ref (qb 16), .ref (qb 17), .ref (qb 18), .ref (qb 19), .ref (qb 20), .int 0, .int 0, .int 0, .int 0, .long 0, .long 0, .long 0, .long 0, .long 0, .ref (qb 21), .int 0, .int 0, .int 0, .int 0]))]) (wr := [(qo, .inl (cj, 1, .inr (.inl (vp_updL (fun _ => 0) (0 : Int32).toNatClampNeg 0))))]) (tc := []) (tr := [(cj, .long)]) ⟨hx, hb, hml, hown, hts⟩ (c_Mo_end_0 l D qm qb H.size) rfl rfl w_459 w_456 w_457 w_458 w_8 (by decide +kernel) ⟨Nat.le_of_ble_eq_true rfl, Nat.le_of_ble_eq_true rfl⟩ hP hD hK hS hA hN hZ [0] [1] rfl rfl (by decide) (by decide) (by decide) [] [0] rfl rfl (ci := 7) (q0 := 0) (q := (R_Mo, F_Mo, 52)) rfl rfl rfl rfl hl.1 rfl (Nat.le_of_ble_eq_true rfl) d_law_220 ⟨Nat.le_of_ble_eq_true rfl, Nat.le_of_ble_eq_true rfl⟩ (fun u6 H locs hP hD hK hS => ?_)
  have hP : va_P D cls [(qo, .inl (cj, 1, .inr (.inl (vp_updL (fun _ => 0) (0 : Int32).toNatClampNeg 0)))), (qm, .inr (7, [.int 0, .int 0, .int 0, .int 0, .int 0, .int 0, .int (-1), .int (-1), .int 0, .int 0, .int 0, .int 0, .int 0, .int 0, .int 0, .int 0, .ref (qb 0), .ref (qb 1), .ref (qb 2), .ref (qb 3), .int 0, .ref (qb 4), .ref (qb 5), .ref (qb 6), .ref (qb 7), .ref (qb 8), .ref (qb 9), .ref (qb 10), .ref (qb 11), .ref (qb 12), .ref (qb 13), .ref (qb 14), .ref (qb 15), .ref (qb 16), .ref (qb 17), .ref (qb 18), .ref (qb 19), .ref (qb 20), .int 0, .int 0, .int 0, .int 0, .long 0, .long 0, .long 0, .long 0, .long 0, .ref (qb 21), .int 0, .int 0, .int 0, .int 0]))] H := hP
  have hD : va_D A [(qo, .inl (cj, 1, .inr (.inl (vp_updL (fun _ => 0) (0 : Int32).toNatClampNeg 0)))), (qm, .inr (7, [.int 0, .int 0, .int 0, .int 0, .int 0, .int 0, .int (-1), .int (-1), .int 0, .int 0, .int 0, .int 0, .int 0, .int 0, .int 0, .int 0, .ref (qb 0), .ref (qb 1), .ref (qb 2), .ref (qb 3), .int 0, .ref (qb 4), .ref (qb 5), .ref (qb 6), .ref (qb 7), .ref (qb 8), .ref (qb 9), .ref (qb 10), .ref (qb 11), .ref (qb 12), .ref (qb 13), .ref (qb 14), .ref (qb 15), .ref (qb 16), .ref (qb 17), .ref (qb 18), .ref (qb 19), .ref (qb 20), .int 0, .int 0, .int 0, .int 0, .long 0, .long 0, .long 0, .long 0, .long 0, .ref (qb 21), .int 0, .int 0, .int 0, .int 0]))] := hD
  have hK : va_K D cls [(cj, .long)] s := hK
  refine W.eq (g2 := F0 m 223 ls [.int 0]) rfl ?_
  refine lv_istore (lv' := [(6, .int 0), (5, .int 0), (4, .int 0), (3, .ref qo), (2, .ref qm), (1, .ref qx), (0, .ref b)]) hx hb d_law_223 hl (by decide) rfl (fun ls hl => ?_)
  refine lv_aload_n hx hb d_law_225 rfl (lv_at hl 4 rfl) ?_
  refine xc_V (As := []) (rest := []) (n := 0) (wc := [(qm, .inr (7, [.int 0, .int 0, .int 0, .int 0, .int 0, .int 0, .int (-1), .int (-1), .int 0, .int 0, .int 0, .int 0, .int 0, .int 0, .int 0, .int 0, .ref (qb 0), .ref (qb 1), .ref (qb 2), .ref (qb 3), .int 0, .ref (qb 4), .ref (qb 5), .ref (qb 6), .ref (qb 7), .ref (qb 8), .ref (qb 9), .ref (qb 10), .ref (qb 11), .ref (qb 12), .ref (qb 13), .ref (qb 14), .ref (qb 15), .ref (qb 16), .ref (qb 17), .ref (qb 18), .ref (qb 19), .ref (qb 20), .int 0, .int 0, .int 0, .int 0, .long 0, .long 0, .long 0, .long 0, .long 0, .ref (qb 21), .int 0, .int 0, .int 0, .int 0]))]) (wr := [(qo, .inl (cj, 1, .inr (.inl (vp_updL (fun _ => 0) (0 : Int32).toNatClampNeg 0))))]) (tc := []) (tr := [(cj, .long)]) ⟨hx, hb, hml, hown, hts⟩ (c_Mo_thrown_0 l D qm qb H.size) rfl rfl w_445 w_442 w_443 w_444 w_8 (by decide +kernel) ⟨Nat.le_of_ble_eq_true rfl, Nat.le_of_ble_eq_true rfl⟩ hP hD hK hS hA hN hZ [1] [0] rfl rfl (by decide) (by decide) (by decide) [] [0] rfl rfl (ci := 7) (q0 := 0) (q := (R_Mo, F_Mo, 52)) rfl rfl rfl rfl hl.1 rfl (Nat.le_of_ble_eq_true rfl) d_law_226 ⟨Nat.le_of_ble_eq_true rfl, Nat.le_of_ble_eq_true rfl⟩ (fun u7 H locs hP hD hK hS => ?_)
  have hP : va_P D cls [(qo, .inl (cj, 1, .inr (.inl (vp_updL (fun _ => 0) (0 : Int32).toNatClampNeg 0)))), (qm, .inr (7, [.int 0, .int 0, .int 0, .int 0, .int 0, .int 0, .int (-1), .int (-1), .int 0, .int 0, .int 0, .int 0, .int 0, .int 0, .int 0, .int 0, .ref (qb 0), .ref (qb 1), .ref (qb 2), .ref (qb 3), .int 0, .ref (qb 4), .ref (qb 5), .ref (qb 6), .ref (qb 7), .ref (qb 8), .ref (qb 9), .ref (qb 10), .ref (qb 11), .ref (qb 12), .ref (qb 13), .ref (qb 14), .ref (qb 15), .ref (qb 16), .ref (qb 17), .ref (qb 18), .ref (qb 19), .ref (qb 20), .int 0, .int 0, .int 0, .int 0, .long 0, .long 0, .long 0, .long 0, .long 0, .ref (qb 21), .int 0, .int 0, .int 0, .int 0]))] H := hP
  have hD : va_D A [(qo, .inl (cj, 1, .inr (.inl (vp_updL (fun _ => 0) (0 : Int32).toNatClampNeg 0)))), (qm, .inr (7, [.int 0, .int 0, .int 0, .int 0, .int 0, .int 0, .int (-1), .int (-1), .int 0, .int 0, .int 0, .int 0, .int 0, .int 0, .int 0, .int 0, .ref (qb 0), .ref (qb 1), .ref (qb 2), .ref (qb 3), .int 0, .ref (qb 4), .ref (qb 5), .ref (qb 6), .ref (qb 7), .ref (qb 8), .ref (qb 9), .ref (qb 10), .ref (qb 11), .ref (qb 12), .ref (qb 13), .ref (qb 14), .ref (qb 15), .ref (qb 16), .ref (qb 17), .ref (qb 18), .ref (qb 19), .ref (qb 20), .int 0, .int 0, .int 0, .int 0, .long 0, .long 0, .long 0, .long 0, .long 0, .ref (qb 21), .int 0, .int 0, .int 0, .int 0]))] := hD
  have hK : va_K D cls [(cj, .long)] s := hK
  refine W.eq (g2 := F0 m 229 ls [.int 0]) rfl ?_
  refine lv_iload hx hb d_law_229 (lv_at hl 1 rfl) ?_
  refine lv_icmp_eq (tgt := 236) hx hb d_law_231 (by decide) (fun _ => ?_) (fun q9 => absurd (by decide : ((0 : Int32) = 0)) q9)
  refine lv_iload hx hb d_law_236 (lv_at hl 1 rfl) ?_
  refine lv_if_ne (tgt := 253) hx hb d_law_238 (by decide) (fun q9 => absurd (by decide : ((0 : Int32) = 0)) q9) (fun _ => ?_)
  refine lv_aload_n hx hb d_law_241 rfl (lv_at hl 3 rfl) ?_
  refine lv_iconst (v := 0) hx hb d_law_242 (by decide) ?_
  refine va_lald hx hb hK hP 0 0 rfl rfl (by unfold vp_in; decide) d_law_243 ?_
  refine lv_topl (fun z8 ez8 => ?_)
  obtain rfl : z8 = 0 := ez8.trans (by decide)
  refine lv_iload hx hb d_law_244 (lv_at hl 0 rfl) ?_
  refine lv_i2l (v := 0) hx hb d_law_246 (by first | rfl | decide) ?_
  refine W.lcmp hx hb d_law_247 ?_
  refine lv_topi (fun z9 ez9 => ?_)
  obtain rfl : z9 = 0 := ez9.trans (by decide)
  refine lv_if_eq (tgt := 253) hx hb d_law_248 (by decide) (fun _ => ?_) (fun q9 => absurd (by decide : ((0 : Int32) = 0)) q9)
  refine lv_goto (tgt := 1005) hx hb d_law_253 (by decide) ?_
  exact law_tail C0 hA hAf hS (Nat.le_of_ble_eq_true rfl) (Nat.le_of_ble_eq_true rfl) (lv_sub hl [6, 2] rfl)

set_option maxHeartbeats 4000000 in
set_option maxRecDepth 100000 in
theorem l_end_n {p : Program} {l : Launch} {e : Env} {s : State} {m : MethodId} {below : List Frame} {meth : Method} {c : Code} {b : Nat} {xs : Nat → Int32} (htr : l.stackTraces = false) (C0 : lw_At p s m meth c b 5 xs) {A : Nat → Prop} (hA : ∀ q, s.heap.size ≤ q → A q) (hAf : ∀ q, A q → s.heap.size ≤ q) (hN : xN s) (hZ : xZ A s s.heap) {D : va_G} {qx qm qo : Nat} {cj : ClassId} {qa qb : Nat → Nat} {qk ql : Nat → ClassId} {uf : Nat → Option Nat} {H : Heap} {locs : List Loc} (h1 : xs 1 < 0) (hP : va_P D cls (lawW qx qm qo cj qa qb qk ql uf) H) (hD : va_D A (lawW qx qm qo cj qa qb qk ql uf)) (hK : va_K D cls (lawT cj qk ql) s) (hS : va_S A s.heap H locs) {ls : Array Slot} (hl : lv_has ls 7 [(4, .int 0), (3, .ref qo), (2, .ref qm), (1, .ref qx), (0, .ref b)]) : W p l e room_1 s m #[Value.ref b] below meth c H locs 223 300058 (lw_Z below #[Value.ref b] s) (F0 m 200 ls []) := by
  obtain ⟨hx, hb, hr, hml, hown, hts0, hX, hbl, hlocks, hgv⟩ := id C0
  have hown : s.vm.findClass "ObjectForgeLaw" = some m.cls := hown
  have hbA : ¬ A b := fun h => absurd (hAf b h) (Nat.not_le.mpr hbl)
  have hts : ∀ w ∈ bw, w.before #[Value.ref b] s = true := fun w h => hts0 w (bw_in w h)
  have hP : va_P D cls [(qx, .inr (0, [.ref (qa 0), .ref (qa 1), .ref (qa 2), .int 0])), ((qa 0), .inr (1, [.ref (qa 3), .ref (qa 4), .int 0, .int 0, .int 0, .int 0, .int 0, .int (-1), .long 0, .int 0, .int 0, .int 0, .int 0, .int (-1), .int (-1)])), ((qa 3), .inr (4, [.ref (qa 5), .int 0, .int 0, .int 0, .ref (qa 6), .ref (qa 7), .ref (qa 8)])), (qm, .inr (7, [.int 0, .int 0, .int 0, .int 0, .int 0, .int 0, .int (-1), .int (-1), .int 0, .int 0, .int 0, .int 0, .int 0, .int 0, .int 0, .int 0, .ref (qb 0), .ref (qb 1), .ref (qb 2), .ref (qb 3), .int 0, .ref (qb 4), .ref (qb 5), .ref (qb 6), .ref (qb 7), .ref (qb 8), .ref (qb 9), .ref (qb 10), .ref (qb 11), .ref (qb 12), .ref (qb 13), .ref (qb 14), .ref (qb 15), .ref (qb 16), .ref (qb 17), .ref (qb 18), .ref (qb 19), .ref (qb 20), .int 0, .int 0, .int 0, .int 0, .long 0, .long 0, .long 0, .long 0, .long 0, .ref (qb 21), .int 0, .int 0, .int 0, .int 0])), (qo, .inl (cj, 1, .inr (.inl (fun _ => 0))))] H := hP.sub [0, 1, 2, 10, 15] rfl
  have hD : va_D A [(qx, .inr (0, [.ref (qa 0), .ref (qa 1), .ref (qa 2), .int 0])), ((qa 0), .inr (1, [.ref (qa 3), .ref (qa 4), .int 0, .int 0, .int 0, .int 0, .int 0, .int (-1), .long 0, .int 0, .int 0, .int 0, .int 0, .int (-1), .int (-1)])), ((qa 3), .inr (4, [.ref (qa 5), .int 0, .int 0, .int 0, .ref (qa 6), .ref (qa 7), .ref (qa 8)])), (qm, .inr (7, [.int 0, .int 0, .int 0, .int 0, .int 0, .int 0, .int (-1), .int (-1), .int 0, .int 0, .int 0, .int 0, .int 0, .int 0, .int 0, .int 0, .ref (qb 0), .ref (qb 1), .ref (qb 2), .ref (qb 3), .int 0, .ref (qb 4), .ref (qb 5), .ref (qb 6), .ref (qb 7), .ref (qb 8), .ref (qb 9), .ref (qb 10), .ref (qb 11), .ref (qb 12), .ref (qb 13), .ref (qb 14), .ref (qb 15), .ref (qb 16), .ref (qb 17), .ref (qb 18), .ref (qb 19), .ref (qb 20), .int 0, .int 0, .int 0, .int 0, .long 0, .long 0, .long 0, .long 0, .long 0, .ref (qb 21), .int 0, .int 0, .int 0, .int 0])), (qo, .inl (cj, 1, .inr (.inl (fun _ => 0))))] := hD.sub [0, 1, 2, 10, 15] (by decide) rfl
  have hK : va_K D cls [(cj, .long)] s := hK.sub [7] rfl
  refine lv_aload_n hx hb d_law_200 rfl (lv_at hl 3 rfl) ?_
  refine lv_aload_n hx hb d_law_201 rfl (lv_at hl 4 rfl) ?_
  refine lv_iload hx hb d_law_202 (lv_at hl 0 rfl) ?_
  refine lv_iconst (v := 1) hx hb d_law_204 (by decide) ?_
  refine lv_iadd hx hb d_law_205 ?_
  refine lv_topi (fun z1 ez1 => ?_)
  obtain rfl : z1 = 1 := ez1.trans (by decide)
  refine va_sld hx hb hX hbl hbA hS (by unfold vp_in; decide) d_law_206 ?_
  refine W.eq (g2 := F0 m 207 ls [.int (xs 1), .ref qx]) rfl ?_
  refine lv_aload_n hx hb d_law_207 rfl (lv_at hl 1 rfl) ?_
  refine xc_SW (As := [.ref qx, .int (xs 1), .ref qo]) (rest := []) (n := 3) (wc := [(qx, .inr (0, [.ref (qa 0), .ref (qa 1), .ref (qa 2), .int 0])), ((qa 0), .inr (1, [.ref (qa 3), .ref (qa 4), .int 0, .int 0, .int 0, .int 0, .int 0, .int (-1), .long 0, .int 0, .int 0, .int 0, .int 0, .int (-1), .int (-1)])), ((qa 3), .inr (4, [.ref (qa 5), .int 0, .int 0, .int 0, .ref (qa 6), .ref (qa 7), .ref (qa 8)])), (qo, .inl (cj, 1, .inr (.inl (fun _ => 0))))]) (wr := [(qm, .inr (7, [.int 0, .int 0, .int 0, .int 0, .int 0, .int 0, .int (-1), .int (-1), .int 0, .int 0, .int 0, .int 0, .int 0, .int 0, .int 0, .int 0, .ref (qb 0), .ref (qb 1), .ref (qb 2), .ref (qb 3), .int 0, .ref (qb 4), .ref (qb 5), .ref (qb 6), .ref (qb 7), .ref (qb 8), .ref (qb 9), .ref (qb 10), .ref (qb 11), .ref (qb 12), .ref (qb 13), .ref (qb 14), .ref (qb 15), .ref (qb 16), .ref (qb 17), .ref (qb 18), .ref (qb 19), .ref (qb 20), .int 0, .int 0, .int 0, .int 0, .long 0, .long 0, .long 0, .long 0, .long 0, .ref (qb 21), .int 0, .int 0, .int 0, .int 0]))]) (tc := [(cj, .long)]) (tr := []) ⟨hx, hb, hml, hown, hts⟩ (c_La_end_n l htr D qx qo cj qa qk (xs 1) h1 H.size) rfl rfl w_224 w_222 w_223 w_0 (by decide +kernel) ⟨Nat.le_of_ble_eq_true rfl, Nat.le_of_ble_eq_true rfl⟩ hP hD hK hS hA hN hZ [0, 1, 2, 4] [3] rfl rfl (by decide) (by decide) (by decide) [0] [] rfl rfl rfl hl.1 rfl (Nat.le_of_ble_eq_true rfl) d_law_208 ⟨Nat.le_of_ble_eq_true rfl, Nat.le_of_ble_eq_true rfl⟩ (fun u2 H locs hP hD hK hS => ?_)
  have hP : va_P D cls [(qm, .inr (7, [.int 0, .int 0, .int 0, .int 0, .int 0, .int 0, .int (-1), .int (-1), .int 0, .int 0, .int 0, .int 0, .int 0, .int 0, .int 0, .int 0, .ref (qb 0), .ref (qb 1), .ref (qb 2), .ref (qb 3), .int 0, .ref (qb 4), .ref (qb 5), .ref (qb 6), .ref (qb 7), .ref (qb 8), .ref (qb 9), .ref (qb 10), .ref (qb 11), .ref (qb 12), .ref (qb 13), .ref (qb 14), .ref (qb 15), .ref (qb 16), .ref (qb 17), .ref (qb 18), .ref (qb 19), .ref (qb 20), .int 0, .int 0, .int 0, .int 0, .long 0, .long 0, .long 0, .long 0, .long 0, .ref (qb 21), .int 0, .int 0, .int 0, .int 0])), (qo, .inl (cj, 1, .inr (.inl (fun _ => 0))))] H := hP
  have hD : va_D A [(qm, .inr (7, [.int 0, .int 0, .int 0, .int 0, .int 0, .int 0, .int (-1), .int (-1), .int 0, .int 0, .int 0, .int 0, .int 0, .int 0, .int 0, .int 0, .ref (qb 0), .ref (qb 1), .ref (qb 2), .ref (qb 3), .int 0, .ref (qb 4), .ref (qb 5), .ref (qb 6), .ref (qb 7), .ref (qb 8), .ref (qb 9), .ref (qb 10), .ref (qb 11), .ref (qb 12), .ref (qb 13), .ref (qb 14), .ref (qb 15), .ref (qb 16), .ref (qb 17), .ref (qb 18), .ref (qb 19), .ref (qb 20), .int 0, .int 0, .int 0, .int 0, .long 0, .long 0, .long 0, .long 0, .long 0, .ref (qb 21), .int 0, .int 0, .int 0, .int 0])), (qo, .inl (cj, 1, .inr (.inl (fun _ => 0))))] := hD
  have hK : va_K D cls [(cj, .long)] s := hK
  refine W.widen (k := 224) (n := 300064) (by omega) (by omega) ?_
  refine W.eq (g2 := F0 m 211 ls [.int 1]) rfl ?_
  refine lv_istore (lv' := [(5, .int 1), (4, .int 0), (3, .ref qo), (2, .ref qm), (1, .ref qx), (0, .ref b)]) hx hb d_law_211 hl (by decide) rfl (fun ls hl => ?_)
  refine lv_aload_n hx hb d_law_213 rfl (lv_at hl 3 rfl) ?_
  refine lv_aload_n hx hb d_law_214 rfl (lv_at hl 5 rfl) ?_
  refine lv_iload hx hb d_law_215 (lv_at hl 1 rfl) ?_
  refine lv_iconst (v := 1) hx hb d_law_217 (by decide) ?_
  refine lv_iadd hx hb d_law_218 ?_
  refine lv_topi (fun z3 ez3 => ?_)
  obtain rfl : z3 = 1 := ez3.trans (by decide)
  refine va_sld hx hb hX hbl hbA hS (by unfold vp_in; decide) d_law_219 ?_
  refine W.eq (g2 := F0 m 220 ls [.int (xs 1), .ref qm]) rfl ?_
  refine xc_V (As := [.int (xs 1)]) (rest := []) (n := 1) (wc := [(qm, .inr (7, [.int 0, .int 0, .int 0, .int 0, .int 0, .int 0, .int (-1), .int (-1), .int 0, .int 0, .int 0, .int 0, .int 0, .int 0, .int 0, .int 0, .ref (qb 0), .ref (qb 1), .ref (qb 2), .ref (qb 3), .int 0, .ref (qb 4), .ref (qb 5), .ref (qb 6), .ref (qb 7), .ref (qb 8), .ref (qb 9), .ref (qb 10), .ref (qb 11), .ref (qb 12), .ref (qb 13), .ref (qb 14), .ref (qb 15), .ref (qb 16), .ref (qb 17), .ref (qb 18), .ref (qb 19), .ref (qb 20), .int 0, .int 0, .int 0, .int 0, .long 0, .long 0, .long 0, .long 0, .long 0, .ref (qb 21), .int 0, .int 0, .int 0, .int 0]))]) (wr := [(qo, .inl (cj, 1, .inr (.inl (fun _ => 0))))]) (tc := []) (tr := [(cj, .long)]) ⟨hx, hb, hml, hown, hts⟩ (c_Mo_end_n l D qm qb (xs 1) h1 H.size) rfl rfl w_459 w_456 w_457 w_458 w_8 (by decide +kernel) ⟨Nat.le_of_ble_eq_true rfl, Nat.le_of_ble_eq_true rfl⟩ hP hD hK hS hA hN hZ [0] [1] rfl rfl (by decide) (by decide) (by decide) [] [0] rfl rfl (ci := 7) (q0 := 0) (q := (R_Mo, F_Mo, 52)) rfl rfl rfl rfl hl.1 rfl (Nat.le_of_ble_eq_true rfl) d_law_220 ⟨Nat.le_of_ble_eq_true rfl, Nat.le_of_ble_eq_true rfl⟩ (fun u4 H locs hP hD hK hS => ?_)
  have hP : va_P D cls [(qo, .inl (cj, 1, .inr (.inl (fun _ => 0)))), (qm, .inr (7, [.int 1, .int 0, .int 0, .int 0, .int 0, .int 0, .int (-1), .int (-1), .int 0, .int 0, .int 0, .int 0, .int 0, .int 0, .int 0, .int 0, .ref (qb 0), .ref (qb 1), .ref (qb 2), .ref (qb 3), .int 0, .ref (qb 4), .ref (qb 5), .ref (qb 6), .ref (qb 7), .ref (qb 8), .ref (qb 9), .ref (qb 10), .ref (qb 11), .ref (qb 12), .ref (qb 13), .ref (qb 14), .ref (qb 15), .ref (qb 16), .ref (qb 17), .ref (qb 18), .ref (qb 19), .ref (qb 20), .int 0, .int 0, .int 0, .int 0, .long 0, .long 0, .long 0, .long 0, .long 0, .ref (qb 21), .int 0, .int 0, .int 0, .int 0]))] H := hP
  have hD : va_D A [(qo, .inl (cj, 1, .inr (.inl (fun _ => 0)))), (qm, .inr (7, [.int 1, .int 0, .int 0, .int 0, .int 0, .int 0, .int (-1), .int (-1), .int 0, .int 0, .int 0, .int 0, .int 0, .int 0, .int 0, .int 0, .ref (qb 0), .ref (qb 1), .ref (qb 2), .ref (qb 3), .int 0, .ref (qb 4), .ref (qb 5), .ref (qb 6), .ref (qb 7), .ref (qb 8), .ref (qb 9), .ref (qb 10), .ref (qb 11), .ref (qb 12), .ref (qb 13), .ref (qb 14), .ref (qb 15), .ref (qb 16), .ref (qb 17), .ref (qb 18), .ref (qb 19), .ref (qb 20), .int 0, .int 0, .int 0, .int 0, .long 0, .long 0, .long 0, .long 0, .long 0, .ref (qb 21), .int 0, .int 0, .int 0, .int 0]))] := hD
  have hK : va_K D cls [(cj, .long)] s := hK
  refine W.eq (g2 := F0 m 223 ls [.int 0]) rfl ?_
  refine lv_istore (lv' := [(6, .int 0), (5, .int 1), (4, .int 0), (3, .ref qo), (2, .ref qm), (1, .ref qx), (0, .ref b)]) hx hb d_law_223 hl (by decide) rfl (fun ls hl => ?_)
  refine lv_aload_n hx hb d_law_225 rfl (lv_at hl 4 rfl) ?_
  refine xc_V (As := []) (rest := []) (n := 0) (wc := [(qm, .inr (7, [.int 1, .int 0, .int 0, .int 0, .int 0, .int 0, .int (-1), .int (-1), .int 0, .int 0, .int 0, .int 0, .int 0, .int 0, .int 0, .int 0, .ref (qb 0), .ref (qb 1), .ref (qb 2), .ref (qb 3), .int 0, .ref (qb 4), .ref (qb 5), .ref (qb 6), .ref (qb 7), .ref (qb 8), .ref (qb 9), .ref (qb 10), .ref (qb 11), .ref (qb 12), .ref (qb 13), .ref (qb 14), .ref (qb 15), .ref (qb 16), .ref (qb 17), .ref (qb 18), .ref (qb 19), .ref (qb 20), .int 0, .int 0, .int 0, .int 0, .long 0, .long 0, .long 0, .long 0, .long 0, .ref (qb 21), .int 0, .int 0, .int 0, .int 0]))]) (wr := [(qo, .inl (cj, 1, .inr (.inl (fun _ => 0))))]) (tc := []) (tr := [(cj, .long)]) ⟨hx, hb, hml, hown, hts⟩ (c_Mo_thrown_1 l D qm qb H.size) rfl rfl w_445 w_442 w_443 w_444 w_8 (by decide +kernel) ⟨Nat.le_of_ble_eq_true rfl, Nat.le_of_ble_eq_true rfl⟩ hP hD hK hS hA hN hZ [1] [0] rfl rfl (by decide) (by decide) (by decide) [] [0] rfl rfl (ci := 7) (q0 := 0) (q := (R_Mo, F_Mo, 52)) rfl rfl rfl rfl hl.1 rfl (Nat.le_of_ble_eq_true rfl) d_law_226 ⟨Nat.le_of_ble_eq_true rfl, Nat.le_of_ble_eq_true rfl⟩ (fun u5 H locs hP hD hK hS => ?_)
  have hP : va_P D cls [(qo, .inl (cj, 1, .inr (.inl (fun _ => 0)))), (qm, .inr (7, [.int 1, .int 0, .int 0, .int 0, .int 0, .int 0, .int (-1), .int (-1), .int 0, .int 0, .int 0, .int 0, .int 0, .int 0, .int 0, .int 0, .ref (qb 0), .ref (qb 1), .ref (qb 2), .ref (qb 3), .int 0, .ref (qb 4), .ref (qb 5), .ref (qb 6), .ref (qb 7), .ref (qb 8), .ref (qb 9), .ref (qb 10), .ref (qb 11), .ref (qb 12), .ref (qb 13), .ref (qb 14), .ref (qb 15), .ref (qb 16), .ref (qb 17), .ref (qb 18), .ref (qb 19), .ref (qb 20), .int 0, .int 0, .int 0, .int 0, .long 0, .long 0, .long 0, .long 0, .long 0, .ref (qb 21), .int 0, .int 0, .int 0, .int 0]))] H := hP
  have hD : va_D A [(qo, .inl (cj, 1, .inr (.inl (fun _ => 0)))), (qm, .inr (7, [.int 1, .int 0, .int 0, .int 0, .int 0, .int 0, .int (-1), .int (-1), .int 0, .int 0, .int 0, .int 0, .int 0, .int 0, .int 0, .int 0, .ref (qb 0), .ref (qb 1), .ref (qb 2), .ref (qb 3), .int 0, .ref (qb 4), .ref (qb 5), .ref (qb 6), .ref (qb 7), .ref (qb 8), .ref (qb 9), .ref (qb 10), .ref (qb 11), .ref (qb 12), .ref (qb 13), .ref (qb 14), .ref (qb 15), .ref (qb 16), .ref (qb 17), .ref (qb 18), .ref (qb 19), .ref (qb 20), .int 0, .int 0, .int 0, .int 0, .long 0, .long 0, .long 0, .long 0, .long 0, .ref (qb 21), .int 0, .int 0, .int 0, .int 0]))] := hD
  have hK : va_K D cls [(cj, .long)] s := hK
  refine W.eq (g2 := F0 m 229 ls [.int 1]) rfl ?_
  refine lv_iload hx hb d_law_229 (lv_at hl 1 rfl) ?_
  refine lv_icmp_eq (tgt := 236) hx hb d_law_231 (by decide) (fun _ => ?_) (fun q9 => absurd (by decide : ((1 : Int32) = 1)) q9)
  refine lv_iload hx hb d_law_236 (lv_at hl 1 rfl) ?_
  refine lv_if_ne (tgt := 253) hx hb d_law_238 (by decide) (fun _ => ?_) (fun q9 => absurd q9 (by decide : ¬ ((1 : Int32) = 0)))
  refine lv_goto (tgt := 1005) hx hb d_law_253 (by decide) ?_
  exact law_tail C0 hA hAf hS (Nat.le_of_ble_eq_true rfl) (Nat.le_of_ble_eq_true rfl) (lv_sub hl [6, 2] rfl)

set_option maxHeartbeats 4000000 in
set_option maxRecDepth 100000 in
theorem l_end_b {p : Program} {l : Launch} {e : Env} {s : State} {m : MethodId} {below : List Frame} {meth : Method} {c : Code} {b : Nat} {xs : Nat → Int32} (htr : l.stackTraces = false) (C0 : lw_At p s m meth c b 5 xs) {A : Nat → Prop} (hA : ∀ q, s.heap.size ≤ q → A q) (hAf : ∀ q, A q → s.heap.size ≤ q) (hN : xN s) (hZ : xZ A s s.heap) {D : va_G} {qx qm qo : Nat} {cj : ClassId} {qa qb : Nat → Nat} {qk ql : Nat → ClassId} {uf : Nat → Option Nat} {H : Heap} {locs : List Loc} (h1 : ¬ xs 1 < 0) (h2 : 15 < xs 1) (hP : va_P D cls (lawW qx qm qo cj qa qb qk ql uf) H) (hD : va_D A (lawW qx qm qo cj qa qb qk ql uf)) (hK : va_K D cls (lawT cj qk ql) s) (hS : va_S A s.heap H locs) {ls : Array Slot} (hl : lv_has ls 7 [(4, .int 0), (3, .ref qo), (2, .ref qm), (1, .ref qx), (0, .ref b)]) : W p l e room_1 s m #[Value.ref b] below meth c H locs 223 300058 (lw_Z below #[Value.ref b] s) (F0 m 200 ls []) := by
  obtain ⟨hx, hb, hr, hml, hown, hts0, hX, hbl, hlocks, hgv⟩ := id C0
  have hown : s.vm.findClass "ObjectForgeLaw" = some m.cls := hown
  have hbA : ¬ A b := fun h => absurd (hAf b h) (Nat.not_le.mpr hbl)
  have hts : ∀ w ∈ bw, w.before #[Value.ref b] s = true := fun w h => hts0 w (bw_in w h)
  have hP : va_P D cls [(qx, .inr (0, [.ref (qa 0), .ref (qa 1), .ref (qa 2), .int 0])), ((qa 0), .inr (1, [.ref (qa 3), .ref (qa 4), .int 0, .int 0, .int 0, .int 0, .int 0, .int (-1), .long 0, .int 0, .int 0, .int 0, .int 0, .int (-1), .int (-1)])), ((qa 3), .inr (4, [.ref (qa 5), .int 0, .int 0, .int 0, .ref (qa 6), .ref (qa 7), .ref (qa 8)])), (qm, .inr (7, [.int 0, .int 0, .int 0, .int 0, .int 0, .int 0, .int (-1), .int (-1), .int 0, .int 0, .int 0, .int 0, .int 0, .int 0, .int 0, .int 0, .ref (qb 0), .ref (qb 1), .ref (qb 2), .ref (qb 3), .int 0, .ref (qb 4), .ref (qb 5), .ref (qb 6), .ref (qb 7), .ref (qb 8), .ref (qb 9), .ref (qb 10), .ref (qb 11), .ref (qb 12), .ref (qb 13), .ref (qb 14), .ref (qb 15), .ref (qb 16), .ref (qb 17), .ref (qb 18), .ref (qb 19), .ref (qb 20), .int 0, .int 0, .int 0, .int 0, .long 0, .long 0, .long 0, .long 0, .long 0, .ref (qb 21), .int 0, .int 0, .int 0, .int 0])), (qo, .inl (cj, 1, .inr (.inl (fun _ => 0))))] H := hP.sub [0, 1, 2, 10, 15] rfl
  have hD : va_D A [(qx, .inr (0, [.ref (qa 0), .ref (qa 1), .ref (qa 2), .int 0])), ((qa 0), .inr (1, [.ref (qa 3), .ref (qa 4), .int 0, .int 0, .int 0, .int 0, .int 0, .int (-1), .long 0, .int 0, .int 0, .int 0, .int 0, .int (-1), .int (-1)])), ((qa 3), .inr (4, [.ref (qa 5), .int 0, .int 0, .int 0, .ref (qa 6), .ref (qa 7), .ref (qa 8)])), (qm, .inr (7, [.int 0, .int 0, .int 0, .int 0, .int 0, .int 0, .int (-1), .int (-1), .int 0, .int 0, .int 0, .int 0, .int 0, .int 0, .int 0, .int 0, .ref (qb 0), .ref (qb 1), .ref (qb 2), .ref (qb 3), .int 0, .ref (qb 4), .ref (qb 5), .ref (qb 6), .ref (qb 7), .ref (qb 8), .ref (qb 9), .ref (qb 10), .ref (qb 11), .ref (qb 12), .ref (qb 13), .ref (qb 14), .ref (qb 15), .ref (qb 16), .ref (qb 17), .ref (qb 18), .ref (qb 19), .ref (qb 20), .int 0, .int 0, .int 0, .int 0, .long 0, .long 0, .long 0, .long 0, .long 0, .ref (qb 21), .int 0, .int 0, .int 0, .int 0])), (qo, .inl (cj, 1, .inr (.inl (fun _ => 0))))] := hD.sub [0, 1, 2, 10, 15] (by decide) rfl
  have hK : va_K D cls [(cj, .long)] s := hK.sub [7] rfl
  refine lv_aload_n hx hb d_law_200 rfl (lv_at hl 3 rfl) ?_
  refine lv_aload_n hx hb d_law_201 rfl (lv_at hl 4 rfl) ?_
  refine lv_iload hx hb d_law_202 (lv_at hl 0 rfl) ?_
  refine lv_iconst (v := 1) hx hb d_law_204 (by decide) ?_
  refine lv_iadd hx hb d_law_205 ?_
  refine lv_topi (fun z1 ez1 => ?_)
  obtain rfl : z1 = 1 := ez1.trans (by decide)
  refine va_sld hx hb hX hbl hbA hS (by unfold vp_in; decide) d_law_206 ?_
  refine W.eq (g2 := F0 m 207 ls [.int (xs 1), .ref qx]) rfl ?_
  refine lv_aload_n hx hb d_law_207 rfl (lv_at hl 1 rfl) ?_
  refine xc_SW (As := [.ref qx, .int (xs 1), .ref qo]) (rest := []) (n := 3) (wc := [(qx, .inr (0, [.ref (qa 0), .ref (qa 1), .ref (qa 2), .int 0])), ((qa 0), .inr (1, [.ref (qa 3), .ref (qa 4), .int 0, .int 0, .int 0, .int 0, .int 0, .int (-1), .long 0, .int 0, .int 0, .int 0, .int 0, .int (-1), .int (-1)])), ((qa 3), .inr (4, [.ref (qa 5), .int 0, .int 0, .int 0, .ref (qa 6), .ref (qa 7), .ref (qa 8)])), (qo, .inl (cj, 1, .inr (.inl (fun _ => 0))))]) (wr := [(qm, .inr (7, [.int 0, .int 0, .int 0, .int 0, .int 0, .int 0, .int (-1), .int (-1), .int 0, .int 0, .int 0, .int 0, .int 0, .int 0, .int 0, .int 0, .ref (qb 0), .ref (qb 1), .ref (qb 2), .ref (qb 3), .int 0, .ref (qb 4), .ref (qb 5), .ref (qb 6), .ref (qb 7), .ref (qb 8), .ref (qb 9), .ref (qb 10), .ref (qb 11), .ref (qb 12), .ref (qb 13), .ref (qb 14), .ref (qb 15), .ref (qb 16), .ref (qb 17), .ref (qb 18), .ref (qb 19), .ref (qb 20), .int 0, .int 0, .int 0, .int 0, .long 0, .long 0, .long 0, .long 0, .long 0, .ref (qb 21), .int 0, .int 0, .int 0, .int 0]))]) (tc := [(cj, .long)]) (tr := []) ⟨hx, hb, hml, hown, hts⟩ (c_La_end_b l htr D qx qo cj qa qk (xs 1) h1 h2 H.size) rfl rfl w_224 w_222 w_223 w_0 (by decide +kernel) ⟨Nat.le_of_ble_eq_true rfl, Nat.le_of_ble_eq_true rfl⟩ hP hD hK hS hA hN hZ [0, 1, 2, 4] [3] rfl rfl (by decide) (by decide) (by decide) [0] [] rfl rfl rfl hl.1 rfl (Nat.le_of_ble_eq_true rfl) d_law_208 ⟨Nat.le_of_ble_eq_true rfl, Nat.le_of_ble_eq_true rfl⟩ (fun u2 H locs hP hD hK hS => ?_)
  have hP : va_P D cls [(qm, .inr (7, [.int 0, .int 0, .int 0, .int 0, .int 0, .int 0, .int (-1), .int (-1), .int 0, .int 0, .int 0, .int 0, .int 0, .int 0, .int 0, .int 0, .ref (qb 0), .ref (qb 1), .ref (qb 2), .ref (qb 3), .int 0, .ref (qb 4), .ref (qb 5), .ref (qb 6), .ref (qb 7), .ref (qb 8), .ref (qb 9), .ref (qb 10), .ref (qb 11), .ref (qb 12), .ref (qb 13), .ref (qb 14), .ref (qb 15), .ref (qb 16), .ref (qb 17), .ref (qb 18), .ref (qb 19), .ref (qb 20), .int 0, .int 0, .int 0, .int 0, .long 0, .long 0, .long 0, .long 0, .long 0, .ref (qb 21), .int 0, .int 0, .int 0, .int 0])), (qo, .inl (cj, 1, .inr (.inl (fun _ => 0))))] H := hP
  have hD : va_D A [(qm, .inr (7, [.int 0, .int 0, .int 0, .int 0, .int 0, .int 0, .int (-1), .int (-1), .int 0, .int 0, .int 0, .int 0, .int 0, .int 0, .int 0, .int 0, .ref (qb 0), .ref (qb 1), .ref (qb 2), .ref (qb 3), .int 0, .ref (qb 4), .ref (qb 5), .ref (qb 6), .ref (qb 7), .ref (qb 8), .ref (qb 9), .ref (qb 10), .ref (qb 11), .ref (qb 12), .ref (qb 13), .ref (qb 14), .ref (qb 15), .ref (qb 16), .ref (qb 17), .ref (qb 18), .ref (qb 19), .ref (qb 20), .int 0, .int 0, .int 0, .int 0, .long 0, .long 0, .long 0, .long 0, .long 0, .ref (qb 21), .int 0, .int 0, .int 0, .int 0])), (qo, .inl (cj, 1, .inr (.inl (fun _ => 0))))] := hD
  have hK : va_K D cls [(cj, .long)] s := hK
  refine W.widen (k := 224) (n := 300064) (by omega) (by omega) ?_
  refine W.eq (g2 := F0 m 211 ls [.int 1]) rfl ?_
  refine lv_istore (lv' := [(5, .int 1), (4, .int 0), (3, .ref qo), (2, .ref qm), (1, .ref qx), (0, .ref b)]) hx hb d_law_211 hl (by decide) rfl (fun ls hl => ?_)
  refine lv_aload_n hx hb d_law_213 rfl (lv_at hl 3 rfl) ?_
  refine lv_aload_n hx hb d_law_214 rfl (lv_at hl 5 rfl) ?_
  refine lv_iload hx hb d_law_215 (lv_at hl 1 rfl) ?_
  refine lv_iconst (v := 1) hx hb d_law_217 (by decide) ?_
  refine lv_iadd hx hb d_law_218 ?_
  refine lv_topi (fun z3 ez3 => ?_)
  obtain rfl : z3 = 1 := ez3.trans (by decide)
  refine va_sld hx hb hX hbl hbA hS (by unfold vp_in; decide) d_law_219 ?_
  refine W.eq (g2 := F0 m 220 ls [.int (xs 1), .ref qm]) rfl ?_
  refine xc_V (As := [.int (xs 1)]) (rest := []) (n := 1) (wc := [(qm, .inr (7, [.int 0, .int 0, .int 0, .int 0, .int 0, .int 0, .int (-1), .int (-1), .int 0, .int 0, .int 0, .int 0, .int 0, .int 0, .int 0, .int 0, .ref (qb 0), .ref (qb 1), .ref (qb 2), .ref (qb 3), .int 0, .ref (qb 4), .ref (qb 5), .ref (qb 6), .ref (qb 7), .ref (qb 8), .ref (qb 9), .ref (qb 10), .ref (qb 11), .ref (qb 12), .ref (qb 13), .ref (qb 14), .ref (qb 15), .ref (qb 16), .ref (qb 17), .ref (qb 18), .ref (qb 19), .ref (qb 20), .int 0, .int 0, .int 0, .int 0, .long 0, .long 0, .long 0, .long 0, .long 0, .ref (qb 21), .int 0, .int 0, .int 0, .int 0]))]) (wr := [(qo, .inl (cj, 1, .inr (.inl (fun _ => 0))))]) (tc := []) (tr := [(cj, .long)]) ⟨hx, hb, hml, hown, hts⟩ (c_Mo_end_b l D qm qb (xs 1) h1 h2 H.size) rfl rfl w_459 w_456 w_457 w_458 w_8 (by decide +kernel) ⟨Nat.le_of_ble_eq_true rfl, Nat.le_of_ble_eq_true rfl⟩ hP hD hK hS hA hN hZ [0] [1] rfl rfl (by decide) (by decide) (by decide) [] [0] rfl rfl (ci := 7) (q0 := 0) (q := (R_Mo, F_Mo, 52)) rfl rfl rfl rfl hl.1 rfl (Nat.le_of_ble_eq_true rfl) d_law_220 ⟨Nat.le_of_ble_eq_true rfl, Nat.le_of_ble_eq_true rfl⟩ (fun u4 H locs hP hD hK hS => ?_)
  have hP : va_P D cls [(qo, .inl (cj, 1, .inr (.inl (fun _ => 0)))), (qm, .inr (7, [.int 1, .int 0, .int 0, .int 0, .int 0, .int 0, .int (-1), .int (-1), .int 0, .int 0, .int 0, .int 0, .int 0, .int 0, .int 0, .int 0, .ref (qb 0), .ref (qb 1), .ref (qb 2), .ref (qb 3), .int 0, .ref (qb 4), .ref (qb 5), .ref (qb 6), .ref (qb 7), .ref (qb 8), .ref (qb 9), .ref (qb 10), .ref (qb 11), .ref (qb 12), .ref (qb 13), .ref (qb 14), .ref (qb 15), .ref (qb 16), .ref (qb 17), .ref (qb 18), .ref (qb 19), .ref (qb 20), .int 0, .int 0, .int 0, .int 0, .long 0, .long 0, .long 0, .long 0, .long 0, .ref (qb 21), .int 0, .int 0, .int 0, .int 0]))] H := hP
  have hD : va_D A [(qo, .inl (cj, 1, .inr (.inl (fun _ => 0)))), (qm, .inr (7, [.int 1, .int 0, .int 0, .int 0, .int 0, .int 0, .int (-1), .int (-1), .int 0, .int 0, .int 0, .int 0, .int 0, .int 0, .int 0, .int 0, .ref (qb 0), .ref (qb 1), .ref (qb 2), .ref (qb 3), .int 0, .ref (qb 4), .ref (qb 5), .ref (qb 6), .ref (qb 7), .ref (qb 8), .ref (qb 9), .ref (qb 10), .ref (qb 11), .ref (qb 12), .ref (qb 13), .ref (qb 14), .ref (qb 15), .ref (qb 16), .ref (qb 17), .ref (qb 18), .ref (qb 19), .ref (qb 20), .int 0, .int 0, .int 0, .int 0, .long 0, .long 0, .long 0, .long 0, .long 0, .ref (qb 21), .int 0, .int 0, .int 0, .int 0]))] := hD
  have hK : va_K D cls [(cj, .long)] s := hK
  refine W.eq (g2 := F0 m 223 ls [.int 0]) rfl ?_
  refine lv_istore (lv' := [(6, .int 0), (5, .int 1), (4, .int 0), (3, .ref qo), (2, .ref qm), (1, .ref qx), (0, .ref b)]) hx hb d_law_223 hl (by decide) rfl (fun ls hl => ?_)
  refine lv_aload_n hx hb d_law_225 rfl (lv_at hl 4 rfl) ?_
  refine xc_V (As := []) (rest := []) (n := 0) (wc := [(qm, .inr (7, [.int 1, .int 0, .int 0, .int 0, .int 0, .int 0, .int (-1), .int (-1), .int 0, .int 0, .int 0, .int 0, .int 0, .int 0, .int 0, .int 0, .ref (qb 0), .ref (qb 1), .ref (qb 2), .ref (qb 3), .int 0, .ref (qb 4), .ref (qb 5), .ref (qb 6), .ref (qb 7), .ref (qb 8), .ref (qb 9), .ref (qb 10), .ref (qb 11), .ref (qb 12), .ref (qb 13), .ref (qb 14), .ref (qb 15), .ref (qb 16), .ref (qb 17), .ref (qb 18), .ref (qb 19), .ref (qb 20), .int 0, .int 0, .int 0, .int 0, .long 0, .long 0, .long 0, .long 0, .long 0, .ref (qb 21), .int 0, .int 0, .int 0, .int 0]))]) (wr := [(qo, .inl (cj, 1, .inr (.inl (fun _ => 0))))]) (tc := []) (tr := [(cj, .long)]) ⟨hx, hb, hml, hown, hts⟩ (c_Mo_thrown_1 l D qm qb H.size) rfl rfl w_445 w_442 w_443 w_444 w_8 (by decide +kernel) ⟨Nat.le_of_ble_eq_true rfl, Nat.le_of_ble_eq_true rfl⟩ hP hD hK hS hA hN hZ [1] [0] rfl rfl (by decide) (by decide) (by decide) [] [0] rfl rfl (ci := 7) (q0 := 0) (q := (R_Mo, F_Mo, 52)) rfl rfl rfl rfl hl.1 rfl (Nat.le_of_ble_eq_true rfl) d_law_226 ⟨Nat.le_of_ble_eq_true rfl, Nat.le_of_ble_eq_true rfl⟩ (fun u5 H locs hP hD hK hS => ?_)
  have hP : va_P D cls [(qo, .inl (cj, 1, .inr (.inl (fun _ => 0)))), (qm, .inr (7, [.int 1, .int 0, .int 0, .int 0, .int 0, .int 0, .int (-1), .int (-1), .int 0, .int 0, .int 0, .int 0, .int 0, .int 0, .int 0, .int 0, .ref (qb 0), .ref (qb 1), .ref (qb 2), .ref (qb 3), .int 0, .ref (qb 4), .ref (qb 5), .ref (qb 6), .ref (qb 7), .ref (qb 8), .ref (qb 9), .ref (qb 10), .ref (qb 11), .ref (qb 12), .ref (qb 13), .ref (qb 14), .ref (qb 15), .ref (qb 16), .ref (qb 17), .ref (qb 18), .ref (qb 19), .ref (qb 20), .int 0, .int 0, .int 0, .int 0, .long 0, .long 0, .long 0, .long 0, .long 0, .ref (qb 21), .int 0, .int 0, .int 0, .int 0]))] H := hP
  have hD : va_D A [(qo, .inl (cj, 1, .inr (.inl (fun _ => 0)))), (qm, .inr (7, [.int 1, .int 0, .int 0, .int 0, .int 0, .int 0, .int (-1), .int (-1), .int 0, .int 0, .int 0, .int 0, .int 0, .int 0, .int 0, .int 0, .ref (qb 0), .ref (qb 1), .ref (qb 2), .ref (qb 3), .int 0, .ref (qb 4), .ref (qb 5), .ref (qb 6), .ref (qb 7), .ref (qb 8), .ref (qb 9), .ref (qb 10), .ref (qb 11), .ref (qb 12), .ref (qb 13), .ref (qb 14), .ref (qb 15), .ref (qb 16), .ref (qb 17), .ref (qb 18), .ref (qb 19), .ref (qb 20), .int 0, .int 0, .int 0, .int 0, .long 0, .long 0, .long 0, .long 0, .long 0, .ref (qb 21), .int 0, .int 0, .int 0, .int 0]))] := hD
  have hK : va_K D cls [(cj, .long)] s := hK
  refine W.eq (g2 := F0 m 229 ls [.int 1]) rfl ?_
  refine lv_iload hx hb d_law_229 (lv_at hl 1 rfl) ?_
  refine lv_icmp_eq (tgt := 236) hx hb d_law_231 (by decide) (fun _ => ?_) (fun q9 => absurd (by decide : ((1 : Int32) = 1)) q9)
  refine lv_iload hx hb d_law_236 (lv_at hl 1 rfl) ?_
  refine lv_if_ne (tgt := 253) hx hb d_law_238 (by decide) (fun _ => ?_) (fun q9 => absurd q9 (by decide : ¬ ((1 : Int32) = 0)))
  refine lv_goto (tgt := 1005) hx hb d_law_253 (by decide) ?_
  exact law_tail C0 hA hAf hS (Nat.le_of_ble_eq_true rfl) (Nat.le_of_ble_eq_true rfl) (lv_sub hl [6, 2] rfl)

set_option maxHeartbeats 4000000 in
set_option maxRecDepth 100000 in
theorem l_end_g {p : Program} {l : Launch} {e : Env} {s : State} {m : MethodId} {below : List Frame} {meth : Method} {c : Code} {b : Nat} {xs : Nat → Int32} (htr : l.stackTraces = false) (C0 : lw_At p s m meth c b 5 xs) {A : Nat → Prop} (hA : ∀ q, s.heap.size ≤ q → A q) (hAf : ∀ q, A q → s.heap.size ≤ q) (hN : xN s) (hZ : xZ A s s.heap) {D : va_G} {qx qm qo : Nat} {cj : ClassId} {qa qb : Nat → Nat} {qk ql : Nat → ClassId} {uf : Nat → Option Nat} {H : Heap} {locs : List Loc} (h1 : ¬ xs 1 < 0) (h2 : ¬ 15 < xs 1) (h3 : ¬ xs 1 ≤ 0) (hP : va_P D cls (lawW qx qm qo cj qa qb qk ql uf) H) (hD : va_D A (lawW qx qm qo cj qa qb qk ql uf)) (hK : va_K D cls (lawT cj qk ql) s) (hS : va_S A s.heap H locs) {ls : Array Slot} (hl : lv_has ls 7 [(4, .int 0), (3, .ref qo), (2, .ref qm), (1, .ref qx), (0, .ref b)]) : W p l e room_1 s m #[Value.ref b] below meth c H locs 223 300058 (lw_Z below #[Value.ref b] s) (F0 m 200 ls []) := by
  obtain ⟨hx, hb, hr, hml, hown, hts0, hX, hbl, hlocks, hgv⟩ := id C0
  have hown : s.vm.findClass "ObjectForgeLaw" = some m.cls := hown
  have hbA : ¬ A b := fun h => absurd (hAf b h) (Nat.not_le.mpr hbl)
  have hts : ∀ w ∈ bw, w.before #[Value.ref b] s = true := fun w h => hts0 w (bw_in w h)
  have hP : va_P D cls [(qx, .inr (0, [.ref (qa 0), .ref (qa 1), .ref (qa 2), .int 0])), ((qa 0), .inr (1, [.ref (qa 3), .ref (qa 4), .int 0, .int 0, .int 0, .int 0, .int 0, .int (-1), .long 0, .int 0, .int 0, .int 0, .int 0, .int (-1), .int (-1)])), ((qa 3), .inr (4, [.ref (qa 5), .int 0, .int 0, .int 0, .ref (qa 6), .ref (qa 7), .ref (qa 8)])), (qm, .inr (7, [.int 0, .int 0, .int 0, .int 0, .int 0, .int 0, .int (-1), .int (-1), .int 0, .int 0, .int 0, .int 0, .int 0, .int 0, .int 0, .int 0, .ref (qb 0), .ref (qb 1), .ref (qb 2), .ref (qb 3), .int 0, .ref (qb 4), .ref (qb 5), .ref (qb 6), .ref (qb 7), .ref (qb 8), .ref (qb 9), .ref (qb 10), .ref (qb 11), .ref (qb 12), .ref (qb 13), .ref (qb 14), .ref (qb 15), .ref (qb 16), .ref (qb 17), .ref (qb 18), .ref (qb 19), .ref (qb 20), .int 0, .int 0, .int 0, .int 0, .long 0, .long 0, .long 0, .long 0, .long 0, .ref (qb 21), .int 0, .int 0, .int 0, .int 0])), (qo, .inl (cj, 1, .inr (.inl (fun _ => 0))))] H := hP.sub [0, 1, 2, 10, 15] rfl
  have hD : va_D A [(qx, .inr (0, [.ref (qa 0), .ref (qa 1), .ref (qa 2), .int 0])), ((qa 0), .inr (1, [.ref (qa 3), .ref (qa 4), .int 0, .int 0, .int 0, .int 0, .int 0, .int (-1), .long 0, .int 0, .int 0, .int 0, .int 0, .int (-1), .int (-1)])), ((qa 3), .inr (4, [.ref (qa 5), .int 0, .int 0, .int 0, .ref (qa 6), .ref (qa 7), .ref (qa 8)])), (qm, .inr (7, [.int 0, .int 0, .int 0, .int 0, .int 0, .int 0, .int (-1), .int (-1), .int 0, .int 0, .int 0, .int 0, .int 0, .int 0, .int 0, .int 0, .ref (qb 0), .ref (qb 1), .ref (qb 2), .ref (qb 3), .int 0, .ref (qb 4), .ref (qb 5), .ref (qb 6), .ref (qb 7), .ref (qb 8), .ref (qb 9), .ref (qb 10), .ref (qb 11), .ref (qb 12), .ref (qb 13), .ref (qb 14), .ref (qb 15), .ref (qb 16), .ref (qb 17), .ref (qb 18), .ref (qb 19), .ref (qb 20), .int 0, .int 0, .int 0, .int 0, .long 0, .long 0, .long 0, .long 0, .long 0, .ref (qb 21), .int 0, .int 0, .int 0, .int 0])), (qo, .inl (cj, 1, .inr (.inl (fun _ => 0))))] := hD.sub [0, 1, 2, 10, 15] (by decide) rfl
  have hK : va_K D cls [(cj, .long)] s := hK.sub [7] rfl
  refine lv_aload_n hx hb d_law_200 rfl (lv_at hl 3 rfl) ?_
  refine lv_aload_n hx hb d_law_201 rfl (lv_at hl 4 rfl) ?_
  refine lv_iload hx hb d_law_202 (lv_at hl 0 rfl) ?_
  refine lv_iconst (v := 1) hx hb d_law_204 (by decide) ?_
  refine lv_iadd hx hb d_law_205 ?_
  refine lv_topi (fun z1 ez1 => ?_)
  obtain rfl : z1 = 1 := ez1.trans (by decide)
  refine va_sld hx hb hX hbl hbA hS (by unfold vp_in; decide) d_law_206 ?_
  refine W.eq (g2 := F0 m 207 ls [.int (xs 1), .ref qx]) rfl ?_
  refine lv_aload_n hx hb d_law_207 rfl (lv_at hl 1 rfl) ?_
  refine xc_SW (As := [.ref qx, .int (xs 1), .ref qo]) (rest := []) (n := 3) (wc := [(qx, .inr (0, [.ref (qa 0), .ref (qa 1), .ref (qa 2), .int 0])), ((qa 0), .inr (1, [.ref (qa 3), .ref (qa 4), .int 0, .int 0, .int 0, .int 0, .int 0, .int (-1), .long 0, .int 0, .int 0, .int 0, .int 0, .int (-1), .int (-1)])), ((qa 3), .inr (4, [.ref (qa 5), .int 0, .int 0, .int 0, .ref (qa 6), .ref (qa 7), .ref (qa 8)])), (qo, .inl (cj, 1, .inr (.inl (fun _ => 0))))]) (wr := [(qm, .inr (7, [.int 0, .int 0, .int 0, .int 0, .int 0, .int 0, .int (-1), .int (-1), .int 0, .int 0, .int 0, .int 0, .int 0, .int 0, .int 0, .int 0, .ref (qb 0), .ref (qb 1), .ref (qb 2), .ref (qb 3), .int 0, .ref (qb 4), .ref (qb 5), .ref (qb 6), .ref (qb 7), .ref (qb 8), .ref (qb 9), .ref (qb 10), .ref (qb 11), .ref (qb 12), .ref (qb 13), .ref (qb 14), .ref (qb 15), .ref (qb 16), .ref (qb 17), .ref (qb 18), .ref (qb 19), .ref (qb 20), .int 0, .int 0, .int 0, .int 0, .long 0, .long 0, .long 0, .long 0, .long 0, .ref (qb 21), .int 0, .int 0, .int 0, .int 0]))]) (tc := [(cj, .long)]) (tr := []) ⟨hx, hb, hml, hown, hts⟩ (c_La_end_g l htr D qx qo cj qa qk (xs 1) h1 h2 h3 H.size) rfl rfl w_224 w_222 w_223 w_0 (by decide +kernel) ⟨Nat.le_of_ble_eq_true rfl, Nat.le_of_ble_eq_true rfl⟩ hP hD hK hS hA hN hZ [0, 1, 2, 4] [3] rfl rfl (by decide) (by decide) (by decide) [0] [] rfl rfl rfl hl.1 rfl (Nat.le_of_ble_eq_true rfl) d_law_208 ⟨Nat.le_of_ble_eq_true rfl, Nat.le_of_ble_eq_true rfl⟩ (fun u2 H locs hP hD hK hS => ?_)
  have hP : va_P D cls [(qm, .inr (7, [.int 0, .int 0, .int 0, .int 0, .int 0, .int 0, .int (-1), .int (-1), .int 0, .int 0, .int 0, .int 0, .int 0, .int 0, .int 0, .int 0, .ref (qb 0), .ref (qb 1), .ref (qb 2), .ref (qb 3), .int 0, .ref (qb 4), .ref (qb 5), .ref (qb 6), .ref (qb 7), .ref (qb 8), .ref (qb 9), .ref (qb 10), .ref (qb 11), .ref (qb 12), .ref (qb 13), .ref (qb 14), .ref (qb 15), .ref (qb 16), .ref (qb 17), .ref (qb 18), .ref (qb 19), .ref (qb 20), .int 0, .int 0, .int 0, .int 0, .long 0, .long 0, .long 0, .long 0, .long 0, .ref (qb 21), .int 0, .int 0, .int 0, .int 0])), (qo, .inl (cj, 1, .inr (.inl (fun _ => 0))))] H := hP
  have hD : va_D A [(qm, .inr (7, [.int 0, .int 0, .int 0, .int 0, .int 0, .int 0, .int (-1), .int (-1), .int 0, .int 0, .int 0, .int 0, .int 0, .int 0, .int 0, .int 0, .ref (qb 0), .ref (qb 1), .ref (qb 2), .ref (qb 3), .int 0, .ref (qb 4), .ref (qb 5), .ref (qb 6), .ref (qb 7), .ref (qb 8), .ref (qb 9), .ref (qb 10), .ref (qb 11), .ref (qb 12), .ref (qb 13), .ref (qb 14), .ref (qb 15), .ref (qb 16), .ref (qb 17), .ref (qb 18), .ref (qb 19), .ref (qb 20), .int 0, .int 0, .int 0, .int 0, .long 0, .long 0, .long 0, .long 0, .long 0, .ref (qb 21), .int 0, .int 0, .int 0, .int 0])), (qo, .inl (cj, 1, .inr (.inl (fun _ => 0))))] := hD
  have hK : va_K D cls [(cj, .long)] s := hK
  refine W.widen (k := 224) (n := 300064) (by omega) (by omega) ?_
  refine W.eq (g2 := F0 m 211 ls [.int 1]) rfl ?_
  refine lv_istore (lv' := [(5, .int 1), (4, .int 0), (3, .ref qo), (2, .ref qm), (1, .ref qx), (0, .ref b)]) hx hb d_law_211 hl (by decide) rfl (fun ls hl => ?_)
  refine lv_aload_n hx hb d_law_213 rfl (lv_at hl 3 rfl) ?_
  refine lv_aload_n hx hb d_law_214 rfl (lv_at hl 5 rfl) ?_
  refine lv_iload hx hb d_law_215 (lv_at hl 1 rfl) ?_
  refine lv_iconst (v := 1) hx hb d_law_217 (by decide) ?_
  refine lv_iadd hx hb d_law_218 ?_
  refine lv_topi (fun z3 ez3 => ?_)
  obtain rfl : z3 = 1 := ez3.trans (by decide)
  refine va_sld hx hb hX hbl hbA hS (by unfold vp_in; decide) d_law_219 ?_
  refine W.eq (g2 := F0 m 220 ls [.int (xs 1), .ref qm]) rfl ?_
  refine xc_V (As := [.int (xs 1)]) (rest := []) (n := 1) (wc := [(qm, .inr (7, [.int 0, .int 0, .int 0, .int 0, .int 0, .int 0, .int (-1), .int (-1), .int 0, .int 0, .int 0, .int 0, .int 0, .int 0, .int 0, .int 0, .ref (qb 0), .ref (qb 1), .ref (qb 2), .ref (qb 3), .int 0, .ref (qb 4), .ref (qb 5), .ref (qb 6), .ref (qb 7), .ref (qb 8), .ref (qb 9), .ref (qb 10), .ref (qb 11), .ref (qb 12), .ref (qb 13), .ref (qb 14), .ref (qb 15), .ref (qb 16), .ref (qb 17), .ref (qb 18), .ref (qb 19), .ref (qb 20), .int 0, .int 0, .int 0, .int 0, .long 0, .long 0, .long 0, .long 0, .long 0, .ref (qb 21), .int 0, .int 0, .int 0, .int 0]))]) (wr := [(qo, .inl (cj, 1, .inr (.inl (fun _ => 0))))]) (tc := []) (tr := [(cj, .long)]) ⟨hx, hb, hml, hown, hts⟩ (c_Mo_end_g l D qm qb (xs 1) h1 h2 h3 H.size) rfl rfl w_459 w_456 w_457 w_458 w_8 (by decide +kernel) ⟨Nat.le_of_ble_eq_true rfl, Nat.le_of_ble_eq_true rfl⟩ hP hD hK hS hA hN hZ [0] [1] rfl rfl (by decide) (by decide) (by decide) [] [0] rfl rfl (ci := 7) (q0 := 0) (q := (R_Mo, F_Mo, 52)) rfl rfl rfl rfl hl.1 rfl (Nat.le_of_ble_eq_true rfl) d_law_220 ⟨Nat.le_of_ble_eq_true rfl, Nat.le_of_ble_eq_true rfl⟩ (fun u4 H locs hP hD hK hS => ?_)
  have hP : va_P D cls [(qo, .inl (cj, 1, .inr (.inl (fun _ => 0)))), (qm, .inr (7, [.int 1, .int 0, .int 0, .int 0, .int 0, .int 0, .int (-1), .int (-1), .int 0, .int 0, .int 0, .int 0, .int 0, .int 0, .int 0, .int 0, .ref (qb 0), .ref (qb 1), .ref (qb 2), .ref (qb 3), .int 0, .ref (qb 4), .ref (qb 5), .ref (qb 6), .ref (qb 7), .ref (qb 8), .ref (qb 9), .ref (qb 10), .ref (qb 11), .ref (qb 12), .ref (qb 13), .ref (qb 14), .ref (qb 15), .ref (qb 16), .ref (qb 17), .ref (qb 18), .ref (qb 19), .ref (qb 20), .int 0, .int 0, .int 0, .int 0, .long 0, .long 0, .long 0, .long 0, .long 0, .ref (qb 21), .int 0, .int 0, .int 0, .int 0]))] H := hP
  have hD : va_D A [(qo, .inl (cj, 1, .inr (.inl (fun _ => 0)))), (qm, .inr (7, [.int 1, .int 0, .int 0, .int 0, .int 0, .int 0, .int (-1), .int (-1), .int 0, .int 0, .int 0, .int 0, .int 0, .int 0, .int 0, .int 0, .ref (qb 0), .ref (qb 1), .ref (qb 2), .ref (qb 3), .int 0, .ref (qb 4), .ref (qb 5), .ref (qb 6), .ref (qb 7), .ref (qb 8), .ref (qb 9), .ref (qb 10), .ref (qb 11), .ref (qb 12), .ref (qb 13), .ref (qb 14), .ref (qb 15), .ref (qb 16), .ref (qb 17), .ref (qb 18), .ref (qb 19), .ref (qb 20), .int 0, .int 0, .int 0, .int 0, .long 0, .long 0, .long 0, .long 0, .long 0, .ref (qb 21), .int 0, .int 0, .int 0, .int 0]))] := hD
  have hK : va_K D cls [(cj, .long)] s := hK
  refine W.eq (g2 := F0 m 223 ls [.int 0]) rfl ?_
  refine lv_istore (lv' := [(6, .int 0), (5, .int 1), (4, .int 0), (3, .ref qo), (2, .ref qm), (1, .ref qx), (0, .ref b)]) hx hb d_law_223 hl (by decide) rfl (fun ls hl => ?_)
  refine lv_aload_n hx hb d_law_225 rfl (lv_at hl 4 rfl) ?_
  refine xc_V (As := []) (rest := []) (n := 0) (wc := [(qm, .inr (7, [.int 1, .int 0, .int 0, .int 0, .int 0, .int 0, .int (-1), .int (-1), .int 0, .int 0, .int 0, .int 0, .int 0, .int 0, .int 0, .int 0, .ref (qb 0), .ref (qb 1), .ref (qb 2), .ref (qb 3), .int 0, .ref (qb 4), .ref (qb 5), .ref (qb 6), .ref (qb 7), .ref (qb 8), .ref (qb 9), .ref (qb 10), .ref (qb 11), .ref (qb 12), .ref (qb 13), .ref (qb 14), .ref (qb 15), .ref (qb 16), .ref (qb 17), .ref (qb 18), .ref (qb 19), .ref (qb 20), .int 0, .int 0, .int 0, .int 0, .long 0, .long 0, .long 0, .long 0, .long 0, .ref (qb 21), .int 0, .int 0, .int 0, .int 0]))]) (wr := [(qo, .inl (cj, 1, .inr (.inl (fun _ => 0))))]) (tc := []) (tr := [(cj, .long)]) ⟨hx, hb, hml, hown, hts⟩ (c_Mo_thrown_1 l D qm qb H.size) rfl rfl w_445 w_442 w_443 w_444 w_8 (by decide +kernel) ⟨Nat.le_of_ble_eq_true rfl, Nat.le_of_ble_eq_true rfl⟩ hP hD hK hS hA hN hZ [1] [0] rfl rfl (by decide) (by decide) (by decide) [] [0] rfl rfl (ci := 7) (q0 := 0) (q := (R_Mo, F_Mo, 52)) rfl rfl rfl rfl hl.1 rfl (Nat.le_of_ble_eq_true rfl) d_law_226 ⟨Nat.le_of_ble_eq_true rfl, Nat.le_of_ble_eq_true rfl⟩ (fun u5 H locs hP hD hK hS => ?_)
  have hP : va_P D cls [(qo, .inl (cj, 1, .inr (.inl (fun _ => 0)))), (qm, .inr (7, [.int 1, .int 0, .int 0, .int 0, .int 0, .int 0, .int (-1), .int (-1), .int 0, .int 0, .int 0, .int 0, .int 0, .int 0, .int 0, .int 0, .ref (qb 0), .ref (qb 1), .ref (qb 2), .ref (qb 3), .int 0, .ref (qb 4), .ref (qb 5), .ref (qb 6), .ref (qb 7), .ref (qb 8), .ref (qb 9), .ref (qb 10), .ref (qb 11), .ref (qb 12), .ref (qb 13), .ref (qb 14), .ref (qb 15), .ref (qb 16), .ref (qb 17), .ref (qb 18), .ref (qb 19), .ref (qb 20), .int 0, .int 0, .int 0, .int 0, .long 0, .long 0, .long 0, .long 0, .long 0, .ref (qb 21), .int 0, .int 0, .int 0, .int 0]))] H := hP
  have hD : va_D A [(qo, .inl (cj, 1, .inr (.inl (fun _ => 0)))), (qm, .inr (7, [.int 1, .int 0, .int 0, .int 0, .int 0, .int 0, .int (-1), .int (-1), .int 0, .int 0, .int 0, .int 0, .int 0, .int 0, .int 0, .int 0, .ref (qb 0), .ref (qb 1), .ref (qb 2), .ref (qb 3), .int 0, .ref (qb 4), .ref (qb 5), .ref (qb 6), .ref (qb 7), .ref (qb 8), .ref (qb 9), .ref (qb 10), .ref (qb 11), .ref (qb 12), .ref (qb 13), .ref (qb 14), .ref (qb 15), .ref (qb 16), .ref (qb 17), .ref (qb 18), .ref (qb 19), .ref (qb 20), .int 0, .int 0, .int 0, .int 0, .long 0, .long 0, .long 0, .long 0, .long 0, .ref (qb 21), .int 0, .int 0, .int 0, .int 0]))] := hD
  have hK : va_K D cls [(cj, .long)] s := hK
  refine W.eq (g2 := F0 m 229 ls [.int 1]) rfl ?_
  refine lv_iload hx hb d_law_229 (lv_at hl 1 rfl) ?_
  refine lv_icmp_eq (tgt := 236) hx hb d_law_231 (by decide) (fun _ => ?_) (fun q9 => absurd (by decide : ((1 : Int32) = 1)) q9)
  refine lv_iload hx hb d_law_236 (lv_at hl 1 rfl) ?_
  refine lv_if_ne (tgt := 253) hx hb d_law_238 (by decide) (fun _ => ?_) (fun q9 => absurd q9 (by decide : ¬ ((1 : Int32) = 0)))
  refine lv_goto (tgt := 1005) hx hb d_law_253 (by decide) ?_
  exact law_tail C0 hA hAf hS (Nat.le_of_ble_eq_true rfl) (Nat.le_of_ble_eq_true rfl) (lv_sub hl [6, 2] rfl)

theorem d_law_256 : decode code 256 = .ok (.aload_n 1, 1) := by decide +kernel
theorem d_law_257 : decode code 257 = .ok (.aload_n 3, 1) := by decide +kernel
theorem d_law_258 : decode code 258 = .ok (.invokestatic 76, 3) := by decide +kernel
theorem d_law_261 : decode code 261 = .ok (.istore 5, 2) := by decide +kernel
theorem d_law_263 : decode code 263 = .ok (.aload_n 2, 1) := by decide +kernel
theorem d_law_264 : decode code 264 = .ok (.invokevirtual 79, 3) := by decide +kernel
theorem d_law_267 : decode code 267 = .ok (.istore 6, 2) := by decide +kernel
theorem d_law_269 : decode code 269 = .ok (.aload_n 2, 1) := by decide +kernel
theorem d_law_270 : decode code 270 = .ok (.invokevirtual 69, 3) := by decide +kernel
theorem d_law_273 : decode code 273 = .ok (.iload 5, 2) := by decide +kernel
theorem d_law_275 : decode code 275 = .ok (.if_icmp .eq 5, 3) := by decide +kernel
theorem d_law_280 : decode code 280 = .ok (.iload 5, 2) := by decide +kernel
theorem d_law_282 : decode code 282 = .ok (.ifCond .ne 15, 3) := by decide +kernel
theorem d_law_285 : decode code 285 = .ok (.aload_n 3, 1) := by decide +kernel
theorem d_law_286 : decode code 286 = .ok (.iconst 0, 1) := by decide +kernel
theorem d_law_287 : decode code 287 = .ok (.laload, 1) := by decide +kernel
theorem d_law_288 : decode code 288 = .ok (.iload 6, 2) := by decide +kernel
theorem d_law_290 : decode code 290 = .ok (.i2l, 1) := by decide +kernel
theorem d_law_291 : decode code 291 = .ok (.lcmp, 1) := by decide +kernel
theorem d_law_292 : decode code 292 = .ok (.ifCond .eq 5, 3) := by decide +kernel
theorem d_law_297 : decode code 297 = .ok (.goto 708, 3) := by decide +kernel
set_option maxHeartbeats 4000000 in
set_option maxRecDepth 100000 in
theorem l_assemble {p : Program} {l : Launch} {e : Env} {s : State} {m : MethodId} {below : List Frame} {meth : Method} {c : Code} {b : Nat} {xs : Nat → Int32} (htr : l.stackTraces = false) (C0 : lw_At p s m meth c b 5 xs) {A : Nat → Prop} (hA : ∀ q, s.heap.size ≤ q → A q) (hAf : ∀ q, A q → s.heap.size ≤ q) (hN : xN s) (hZ : xZ A s s.heap) {D : va_G} {qx qm qo : Nat} {cj : ClassId} {qa qb : Nat → Nat} {qk ql : Nat → ClassId} {uf : Nat → Option Nat} {H : Heap} {locs : List Loc} (hP : va_P D cls (lawW qx qm qo cj qa qb qk ql uf) H) (hD : va_D A (lawW qx qm qo cj qa qb qk ql uf)) (hK : va_K D cls (lawT cj qk ql) s) (hS : va_S A s.heap H locs) {ls : Array Slot} (hl : lv_has ls 7 [(4, .int 0), (3, .ref qo), (2, .ref qm), (1, .ref qx), (0, .ref b)]) : W p l e room_1 s m #[Value.ref b] below meth c H locs 223 300058 (lw_Z below #[Value.ref b] s) (F0 m 256 ls []) := by
  obtain ⟨hx, hb, hr, hml, hown, hts0, hX, hbl, hlocks, hgv⟩ := id C0
  have hown : s.vm.findClass "ObjectForgeLaw" = some m.cls := hown
  have hbA : ¬ A b := fun h => absurd (hAf b h) (Nat.not_le.mpr hbl)
  have hts : ∀ w ∈ bw, w.before #[Value.ref b] s = true := fun w h => hts0 w (bw_in w h)
  have hP : va_P D cls [(qx, .inr (0, [.ref (qa 0), .ref (qa 1), .ref (qa 2), .int 0])), ((qa 0), .inr (1, [.ref (qa 3), .ref (qa 4), .int 0, .int 0, .int 0, .int 0, .int 0, .int (-1), .long 0, .int 0, .int 0, .int 0, .int 0, .int (-1), .int (-1)])), ((qa 3), .inr (4, [.ref (qa 5), .int 0, .int 0, .int 0, .ref (qa 6), .ref (qa 7), .ref (qa 8)])), ((qa 4), .inr (6, [.ref (qa 9), .ref (qa 10), .ref (qa 11), .ref (qa 12), .ref (qa 13)])), ((qa 10), .inl ((qk 1), 3, .inl (fun _ => 0))), ((qa 12), .inr (5, [.ref (qa 14), .ref (qa 15), .ref (qa 16), .ref (qa 17), .ref (qa 18), .ref (qa 19), .ref (qa 20), .int 0])), ((qa 13), .inr (3, [.ref (qa 21), .ref (qa 22), .ref (qa 23), .ref (qa 24), .ref (qa 25), .ref (qa 26), .int 0])), ((qa 2), .inl ((qk 2), 8, .inr (.inr (.inr (.inr uf))))), (qm, .inr (7, [.int 0, .int 0, .int 0, .int 0, .int 0, .int 0, .int (-1), .int (-1), .int 0, .int 0, .int 0, .int 0, .int 0, .int 0, .int 0, .int 0, .ref (qb 0), .ref (qb 1), .ref (qb 2), .ref (qb 3), .int 0, .ref (qb 4), .ref (qb 5), .ref (qb 6), .ref (qb 7), .ref (qb 8), .ref (qb 9), .ref (qb 10), .ref (qb 11), .ref (qb 12), .ref (qb 13), .ref (qb 14), .ref (qb 15), .ref (qb 16), .ref (qb 17), .ref (qb 18), .ref (qb 19), .ref (qb 20), .int 0, .int 0, .int 0, .int 0, .long 0, .long 0, .long 0, .long 0, .long 0, .ref (qb 21), .int 0, .int 0, .int 0, .int 0])), ((qb 1), .inl ((ql 1), 24, .inl (fun _ => 0))), ((qb 2), .inl ((ql 2), 8, .inl (fun _ => 0))), ((qb 3), .inl ((ql 3), 8, .inl (fun _ => 0))), (qo, .inl (cj, 1, .inr (.inl (fun _ => 0))))] H := hP.sub [0, 1, 2, 5, 6, 7, 8, 9, 10, 12, 13, 14, 15] rfl
  have hD : va_D A [(qx, .inr (0, [.ref (qa 0), .ref (qa 1), .ref (qa 2), .int 0])), ((qa 0), .inr (1, [.ref (qa 3), .ref (qa 4), .int 0, .int 0, .int 0, .int 0, .int 0, .int (-1), .long 0, .int 0, .int 0, .int 0, .int 0, .int (-1), .int (-1)])), ((qa 3), .inr (4, [.ref (qa 5), .int 0, .int 0, .int 0, .ref (qa 6), .ref (qa 7), .ref (qa 8)])), ((qa 4), .inr (6, [.ref (qa 9), .ref (qa 10), .ref (qa 11), .ref (qa 12), .ref (qa 13)])), ((qa 10), .inl ((qk 1), 3, .inl (fun _ => 0))), ((qa 12), .inr (5, [.ref (qa 14), .ref (qa 15), .ref (qa 16), .ref (qa 17), .ref (qa 18), .ref (qa 19), .ref (qa 20), .int 0])), ((qa 13), .inr (3, [.ref (qa 21), .ref (qa 22), .ref (qa 23), .ref (qa 24), .ref (qa 25), .ref (qa 26), .int 0])), ((qa 2), .inl ((qk 2), 8, .inr (.inr (.inr (.inr uf))))), (qm, .inr (7, [.int 0, .int 0, .int 0, .int 0, .int 0, .int 0, .int (-1), .int (-1), .int 0, .int 0, .int 0, .int 0, .int 0, .int 0, .int 0, .int 0, .ref (qb 0), .ref (qb 1), .ref (qb 2), .ref (qb 3), .int 0, .ref (qb 4), .ref (qb 5), .ref (qb 6), .ref (qb 7), .ref (qb 8), .ref (qb 9), .ref (qb 10), .ref (qb 11), .ref (qb 12), .ref (qb 13), .ref (qb 14), .ref (qb 15), .ref (qb 16), .ref (qb 17), .ref (qb 18), .ref (qb 19), .ref (qb 20), .int 0, .int 0, .int 0, .int 0, .long 0, .long 0, .long 0, .long 0, .long 0, .ref (qb 21), .int 0, .int 0, .int 0, .int 0])), ((qb 1), .inl ((ql 1), 24, .inl (fun _ => 0))), ((qb 2), .inl ((ql 2), 8, .inl (fun _ => 0))), ((qb 3), .inl ((ql 3), 8, .inl (fun _ => 0))), (qo, .inl (cj, 1, .inr (.inl (fun _ => 0))))] := hD.sub [0, 1, 2, 5, 6, 7, 8, 9, 10, 12, 13, 14, 15] (by decide) rfl
  have hK : va_K D cls [((qk 1), .int), ((qk 2), .object "ObjectForge$Unit"), ((ql 1), .int), ((ql 2), .int), ((ql 3), .int), (cj, .long)] s := hK.sub [1, 2, 4, 5, 6, 7] rfl
  refine lv_aload_n hx hb d_law_256 rfl (lv_at hl 3 rfl) ?_
  refine lv_aload_n hx hb d_law_257 rfl (lv_at hl 1 rfl) ?_
  refine xc_SW (As := [.ref qx, .ref qo]) (rest := []) (n := 2) (wc := [(qx, .inr (0, [.ref (qa 0), .ref (qa 1), .ref (qa 2), .int 0])), ((qa 0), .inr (1, [.ref (qa 3), .ref (qa 4), .int 0, .int 0, .int 0, .int 0, .int 0, .int (-1), .long 0, .int 0, .int 0, .int 0, .int 0, .int (-1), .int (-1)])), ((qa 3), .inr (4, [.ref (qa 5), .int 0, .int 0, .int 0, .ref (qa 6), .ref (qa 7), .ref (qa 8)])), ((qa 4), .inr (6, [.ref (qa 9), .ref (qa 10), .ref (qa 11), .ref (qa 12), .ref (qa 13)])), ((qa 10), .inl ((qk 1), 3, .inl (fun _ => 0))), ((qa 12), .inr (5, [.ref (qa 14), .ref (qa 15), .ref (qa 16), .ref (qa 17), .ref (qa 18), .ref (qa 19), .ref (qa 20), .int 0])), ((qa 13), .inr (3, [.ref (qa 21), .ref (qa 22), .ref (qa 23), .ref (qa 24), .ref (qa 25), .ref (qa 26), .int 0])), ((qa 2), .inl ((qk 2), 8, .inr (.inr (.inr (.inr uf))))), (qo, .inl (cj, 1, .inr (.inl (fun _ => 0))))]) (wr := [(qm, .inr (7, [.int 0, .int 0, .int 0, .int 0, .int 0, .int 0, .int (-1), .int (-1), .int 0, .int 0, .int 0, .int 0, .int 0, .int 0, .int 0, .int 0, .ref (qb 0), .ref (qb 1), .ref (qb 2), .ref (qb 3), .int 0, .ref (qb 4), .ref (qb 5), .ref (qb 6), .ref (qb 7), .ref (qb 8), .ref (qb 9), .ref (qb 10), .ref (qb 11), .ref (qb 12), .ref (qb 13), .ref (qb 14), .ref (qb 15), .ref (qb 16), .ref (qb 17), .ref (qb 18), .ref (qb 19), .ref (qb 20), .int 0, .int 0, .int 0, .int 0, .long 0, .long 0, .long 0, .long 0, .long 0, .ref (qb 21), .int 0, .int 0, .int 0, .int 0])), ((qb 1), .inl ((ql 1), 24, .inl (fun _ => 0))), ((qb 2), .inl ((ql 2), 8, .inl (fun _ => 0))), ((qb 3), .inl ((ql 3), 8, .inl (fun _ => 0)))]) (tc := [((qk 1), .int), ((qk 2), .object "ObjectForge$Unit"), (cj, .long)]) (tr := [((ql 1), .int), ((ql 2), .int), ((ql 3), .int)]) ⟨hx, hb, hml, hown, hts⟩ (c_La_assemble l htr D qx qo cj qa qk uf H.size) rfl rfl w_246 w_244 w_245 w_0 (by decide +kernel) ⟨Nat.le_of_ble_eq_true rfl, Nat.le_of_ble_eq_true rfl⟩ hP hD hK hS hA hN hZ [0, 1, 2, 3, 4, 5, 6, 7, 12] [8, 9, 10, 11] rfl rfl (by decide) (by decide) (by decide) [0, 1, 5] [2, 3, 4] rfl rfl rfl hl.1 rfl (Nat.le_of_ble_eq_true rfl) d_law_258 ⟨Nat.le_of_ble_eq_true rfl, Nat.le_of_ble_eq_true rfl⟩ (fun u1 H locs hP hD hK hS => ?_)
  have hP : va_P D cls [(qm, .inr (7, [.int 0, .int 0, .int 0, .int 0, .int 0, .int 0, .int (-1), .int (-1), .int 0, .int 0, .int 0, .int 0, .int 0, .int 0, .int 0, .int 0, .ref (qb 0), .ref (qb 1), .ref (qb 2), .ref (qb 3), .int 0, .ref (qb 4), .ref (qb 5), .ref (qb 6), .ref (qb 7), .ref (qb 8), .ref (qb 9), .ref (qb 10), .ref (qb 11), .ref (qb 12), .ref (qb 13), .ref (qb 14), .ref (qb 15), .ref (qb 16), .ref (qb 17), .ref (qb 18), .ref (qb 19), .ref (qb 20), .int 0, .int 0, .int 0, .int 0, .long 0, .long 0, .long 0, .long 0, .long 0, .ref (qb 21), .int 0, .int 0, .int 0, .int 0])), ((qb 1), .inl ((ql 1), 24, .inl (fun _ => 0))), ((qb 2), .inl ((ql 2), 8, .inl (fun _ => 0))), ((qb 3), .inl ((ql 3), 8, .inl (fun _ => 0))), (qo, .inl (cj, 1, .inr (.inl (vp_updL (fun _ => 0) (0 : Int32).toNatClampNeg 0))))] H := hP
  have hD : va_D A [(qm, .inr (7, [.int 0, .int 0, .int 0, .int 0, .int 0, .int 0, .int (-1), .int (-1), .int 0, .int 0, .int 0, .int 0, .int 0, .int 0, .int 0, .int 0, .ref (qb 0), .ref (qb 1), .ref (qb 2), .ref (qb 3), .int 0, .ref (qb 4), .ref (qb 5), .ref (qb 6), .ref (qb 7), .ref (qb 8), .ref (qb 9), .ref (qb 10), .ref (qb 11), .ref (qb 12), .ref (qb 13), .ref (qb 14), .ref (qb 15), .ref (qb 16), .ref (qb 17), .ref (qb 18), .ref (qb 19), .ref (qb 20), .int 0, .int 0, .int 0, .int 0, .long 0, .long 0, .long 0, .long 0, .long 0, .ref (qb 21), .int 0, .int 0, .int 0, .int 0])), ((qb 1), .inl ((ql 1), 24, .inl (fun _ => 0))), ((qb 2), .inl ((ql 2), 8, .inl (fun _ => 0))), ((qb 3), .inl ((ql 3), 8, .inl (fun _ => 0))), (qo, .inl (cj, 1, .inr (.inl (vp_updL (fun _ => 0) (0 : Int32).toNatClampNeg 0))))] := hD
  have hK : va_K D cls [((ql 1), .int), ((ql 2), .int), ((ql 3), .int), (cj, .long)] s := hK
  refine W.eq (g2 := F0 m 261 ls [.int 0]) rfl ?_
  refine lv_istore (lv' := [(5, .int 0), (4, .int 0), (3, .ref qo), (2, .ref qm), (1, .ref qx), (0, .ref b)]) hx hb d_law_261 hl (by decide) rfl (fun ls hl => ?_)
  refine lv_aload_n hx hb d_law_263 rfl (lv_at hl 3 rfl) ?_
  refine xc_V (As := []) (rest := []) (n := 0) (wc := [(qm, .inr (7, [.int 0, .int 0, .int 0, .int 0, .int 0, .int 0, .int (-1), .int (-1), .int 0, .int 0, .int 0, .int 0, .int 0, .int 0, .int 0, .int 0, .ref (qb 0), .ref (qb 1), .ref (qb 2), .ref (qb 3), .int 0, .ref (qb 4), .ref (qb 5), .ref (qb 6), .ref (qb 7), .ref (qb 8), .ref (qb 9), .ref (qb 10), .ref (qb 11), .ref (qb 12), .ref (qb 13), .ref (qb 14), .ref (qb 15), .ref (qb 16), .ref (qb 17), .ref (qb 18), .ref (qb 19), .ref (qb 20), .int 0, .int 0, .int 0, .int 0, .long 0, .long 0, .long 0, .long 0, .long 0, .ref (qb 21), .int 0, .int 0, .int 0, .int 0])), ((qb 1), .inl ((ql 1), 24, .inl (fun _ => 0))), ((qb 2), .inl ((ql 2), 8, .inl (fun _ => 0))), ((qb 3), .inl ((ql 3), 8, .inl (fun _ => 0)))]) (wr := [(qo, .inl (cj, 1, .inr (.inl (vp_updL (fun _ => 0) (0 : Int32).toNatClampNeg 0))))]) (tc := [((ql 1), .int), ((ql 2), .int), ((ql 3), .int)]) (tr := [(cj, .long)]) ⟨hx, hb, hml, hown, hts⟩ (c_Mo_assemble l D qm qb ql H.size) rfl rfl w_463 w_460 w_461 w_462 w_8 (by decide +kernel) ⟨Nat.le_of_ble_eq_true rfl, Nat.le_of_ble_eq_true rfl⟩ hP hD hK hS hA hN hZ [0, 1, 2, 3] [4] rfl rfl (by decide) (by decide) (by decide) [0, 1, 2] [3] rfl rfl (ci := 7) (q0 := 0) (q := (R_Mo, F_Mo, 52)) rfl rfl rfl rfl hl.1 rfl (Nat.le_of_ble_eq_true rfl) d_law_264 ⟨Nat.le_of_ble_eq_true rfl, Nat.le_of_ble_eq_true rfl⟩ (fun u2 H locs hP hD hK hS => ?_)
  have hP : va_P D cls [(qo, .inl (cj, 1, .inr (.inl (vp_updL (fun _ => 0) (0 : Int32).toNatClampNeg 0)))), (qm, .inr (7, [.int 0, .int 0, .int 1, .int 0, .int 0, .int 0, .int (-1), .int (-1), .int 0, .int 0, .int 0, .int 0, .int 0, .int 0, .int 1, .int 0, .ref (qb 0), .ref (qb 1), .ref (qb 2), .ref (qb 3), .int 0, .ref (qb 4), .ref (qb 5), .ref (qb 6), .ref (qb 7), .ref (qb 8), .ref (qb 9), .ref (qb 10), .ref (qb 11), .ref (qb 12), .ref (qb 13), .ref (qb 14), .ref (qb 15), .ref (qb 16), .ref (qb 17), .ref (qb 18), .ref (qb 19), .ref (qb 20), .int 0, .int 0, .int 0, .int 0, .long 0, .long 0, .long 0, .long 0, .long 0, .ref (qb 21), .int 0, .int 0, .int 0, .int 0]))] H := hP
  have hD : va_D A [(qo, .inl (cj, 1, .inr (.inl (vp_updL (fun _ => 0) (0 : Int32).toNatClampNeg 0)))), (qm, .inr (7, [.int 0, .int 0, .int 1, .int 0, .int 0, .int 0, .int (-1), .int (-1), .int 0, .int 0, .int 0, .int 0, .int 0, .int 0, .int 1, .int 0, .ref (qb 0), .ref (qb 1), .ref (qb 2), .ref (qb 3), .int 0, .ref (qb 4), .ref (qb 5), .ref (qb 6), .ref (qb 7), .ref (qb 8), .ref (qb 9), .ref (qb 10), .ref (qb 11), .ref (qb 12), .ref (qb 13), .ref (qb 14), .ref (qb 15), .ref (qb 16), .ref (qb 17), .ref (qb 18), .ref (qb 19), .ref (qb 20), .int 0, .int 0, .int 0, .int 0, .long 0, .long 0, .long 0, .long 0, .long 0, .ref (qb 21), .int 0, .int 0, .int 0, .int 0]))] := hD
  have hK : va_K D cls [(cj, .long)] s := hK
  refine W.eq (g2 := F0 m 267 ls [.int 0]) rfl ?_
  refine lv_istore (lv' := [(6, .int 0), (5, .int 0), (4, .int 0), (3, .ref qo), (2, .ref qm), (1, .ref qx), (0, .ref b)]) hx hb d_law_267 hl (by decide) rfl (fun ls hl => ?_)
  refine lv_aload_n hx hb d_law_269 rfl (lv_at hl 4 rfl) ?_
  refine xc_V (As := []) (rest := []) (n := 0) (wc := [(qm, .inr (7, [.int 0, .int 0, .int 1, .int 0, .int 0, .int 0, .int (-1), .int (-1), .int 0, .int 0, .int 0, .int 0, .int 0, .int 0, .int 1, .int 0, .ref (qb 0), .ref (qb 1), .ref (qb 2), .ref (qb 3), .int 0, .ref (qb 4), .ref (qb 5), .ref (qb 6), .ref (qb 7), .ref (qb 8), .ref (qb 9), .ref (qb 10), .ref (qb 11), .ref (qb 12), .ref (qb 13), .ref (qb 14), .ref (qb 15), .ref (qb 16), .ref (qb 17), .ref (qb 18), .ref (qb 19), .ref (qb 20), .int 0, .int 0, .int 0, .int 0, .long 0, .long 0, .long 0, .long 0, .long 0, .ref (qb 21), .int 0, .int 0, .int 0, .int 0]))]) (wr := [(qo, .inl (cj, 1, .inr (.inl (vp_updL (fun _ => 0) (0 : Int32).toNatClampNeg 0))))]) (tc := []) (tr := [(cj, .long)]) ⟨hx, hb, hml, hown, hts⟩ (c_Mo_thrown_a l D qm qb H.size) rfl rfl w_445 w_442 w_443 w_444 w_8 (by decide +kernel) ⟨Nat.le_of_ble_eq_true rfl, Nat.le_of_ble_eq_true rfl⟩ hP hD hK hS hA hN hZ [1] [0] rfl rfl (by decide) (by decide) (by decide) [] [0] rfl rfl (ci := 7) (q0 := 0) (q := (R_Mo, F_Mo, 52)) rfl rfl rfl rfl hl.1 rfl (Nat.le_of_ble_eq_true rfl) d_law_270 ⟨Nat.le_of_ble_eq_true rfl, Nat.le_of_ble_eq_true rfl⟩ (fun u3 H locs hP hD hK hS => ?_)
  have hP : va_P D cls [(qo, .inl (cj, 1, .inr (.inl (vp_updL (fun _ => 0) (0 : Int32).toNatClampNeg 0)))), (qm, .inr (7, [.int 0, .int 0, .int 1, .int 0, .int 0, .int 0, .int (-1), .int (-1), .int 0, .int 0, .int 0, .int 0, .int 0, .int 0, .int 1, .int 0, .ref (qb 0), .ref (qb 1), .ref (qb 2), .ref (qb 3), .int 0, .ref (qb 4), .ref (qb 5), .ref (qb 6), .ref (qb 7), .ref (qb 8), .ref (qb 9), .ref (qb 10), .ref (qb 11), .ref (qb 12), .ref (qb 13), .ref (qb 14), .ref (qb 15), .ref (qb 16), .ref (qb 17), .ref (qb 18), .ref (qb 19), .ref (qb 20), .int 0, .int 0, .int 0, .int 0, .long 0, .long 0, .long 0, .long 0, .long 0, .ref (qb 21), .int 0, .int 0, .int 0, .int 0]))] H := hP
  have hD : va_D A [(qo, .inl (cj, 1, .inr (.inl (vp_updL (fun _ => 0) (0 : Int32).toNatClampNeg 0)))), (qm, .inr (7, [.int 0, .int 0, .int 1, .int 0, .int 0, .int 0, .int (-1), .int (-1), .int 0, .int 0, .int 0, .int 0, .int 0, .int 0, .int 1, .int 0, .ref (qb 0), .ref (qb 1), .ref (qb 2), .ref (qb 3), .int 0, .ref (qb 4), .ref (qb 5), .ref (qb 6), .ref (qb 7), .ref (qb 8), .ref (qb 9), .ref (qb 10), .ref (qb 11), .ref (qb 12), .ref (qb 13), .ref (qb 14), .ref (qb 15), .ref (qb 16), .ref (qb 17), .ref (qb 18), .ref (qb 19), .ref (qb 20), .int 0, .int 0, .int 0, .int 0, .long 0, .long 0, .long 0, .long 0, .long 0, .ref (qb 21), .int 0, .int 0, .int 0, .int 0]))] := hD
  have hK : va_K D cls [(cj, .long)] s := hK
  refine W.eq (g2 := F0 m 273 ls [.int 0]) rfl ?_
  refine lv_iload hx hb d_law_273 (lv_at hl 1 rfl) ?_
  refine lv_icmp_eq (tgt := 280) hx hb d_law_275 (by decide) (fun _ => ?_) (fun q9 => absurd (by decide : ((0 : Int32) = 0)) q9)
  refine lv_iload hx hb d_law_280 (lv_at hl 1 rfl) ?_
  refine lv_if_ne (tgt := 297) hx hb d_law_282 (by decide) (fun q9 => absurd (by decide : ((0 : Int32) = 0)) q9) (fun _ => ?_)
  refine lv_aload_n hx hb d_law_285 rfl (lv_at hl 3 rfl) ?_
  refine lv_iconst (v := 0) hx hb d_law_286 (by decide) ?_
  refine va_lald hx hb hK hP 0 0 rfl rfl (by unfold vp_in; decide) d_law_287 ?_
  refine lv_topl (fun z4 ez4 => ?_)
  obtain rfl : z4 = 0 := ez4.trans (by decide)
  refine lv_iload hx hb d_law_288 (lv_at hl 0 rfl) ?_
  refine lv_i2l (v := 0) hx hb d_law_290 (by first | rfl | decide) ?_
  refine W.lcmp hx hb d_law_291 ?_
  refine lv_topi (fun z5 ez5 => ?_)
  obtain rfl : z5 = 0 := ez5.trans (by decide)
  refine lv_if_eq (tgt := 297) hx hb d_law_292 (by decide) (fun _ => ?_) (fun q9 => absurd (by decide : ((0 : Int32) = 0)) q9)
  refine lv_goto (tgt := 1005) hx hb d_law_297 (by decide) ?_
  exact law_tail C0 hA hAf hS (Nat.le_of_ble_eq_true rfl) (Nat.le_of_ble_eq_true rfl) (lv_sub hl [6, 2] rfl)

theorem d_law_300 : decode code 300 = .ok (.aload_n 1, 1) := by decide +kernel
theorem d_law_301 : decode code 301 = .ok (.aload_n 0, 1) := by decide +kernel
theorem d_law_302 : decode code 302 = .ok (.iload 4, 2) := by decide +kernel
theorem d_law_304 : decode code 304 = .ok (.iconst 1, 1) := by decide +kernel
theorem d_law_305 : decode code 305 = .ok (.iadd, 1) := by decide +kernel
theorem d_law_306 : decode code 306 = .ok (.iaload, 1) := by decide +kernel
theorem d_law_307 : decode code 307 = .ok (.aload_n 3, 1) := by decide +kernel
theorem d_law_308 : decode code 308 = .ok (.invokestatic 80, 3) := by decide +kernel
theorem d_law_311 : decode code 311 = .ok (.istore 5, 2) := by decide +kernel
theorem d_law_313 : decode code 313 = .ok (.aload_n 2, 1) := by decide +kernel
theorem d_law_314 : decode code 314 = .ok (.aload_n 0, 1) := by decide +kernel
theorem d_law_315 : decode code 315 = .ok (.iload 4, 2) := by decide +kernel
theorem d_law_317 : decode code 317 = .ok (.iconst 1, 1) := by decide +kernel
theorem d_law_318 : decode code 318 = .ok (.iadd, 1) := by decide +kernel
theorem d_law_319 : decode code 319 = .ok (.iaload, 1) := by decide +kernel
theorem d_law_320 : decode code 320 = .ok (.invokevirtual 82, 3) := by decide +kernel
theorem d_law_323 : decode code 323 = .ok (.istore 6, 2) := by decide +kernel
theorem d_law_325 : decode code 325 = .ok (.aload_n 2, 1) := by decide +kernel
theorem d_law_326 : decode code 326 = .ok (.invokevirtual 69, 3) := by decide +kernel
theorem d_law_329 : decode code 329 = .ok (.iload 5, 2) := by decide +kernel
theorem d_law_331 : decode code 331 = .ok (.if_icmp .eq 5, 3) := by decide +kernel
theorem d_law_336 : decode code 336 = .ok (.iload 5, 2) := by decide +kernel
theorem d_law_338 : decode code 338 = .ok (.ifCond .ne 15, 3) := by decide +kernel
theorem d_law_341 : decode code 341 = .ok (.aload_n 3, 1) := by decide +kernel
theorem d_law_342 : decode code 342 = .ok (.iconst 0, 1) := by decide +kernel
theorem d_law_343 : decode code 343 = .ok (.laload, 1) := by decide +kernel
theorem d_law_344 : decode code 344 = .ok (.iload 6, 2) := by decide +kernel
theorem d_law_346 : decode code 346 = .ok (.i2l, 1) := by decide +kernel
theorem d_law_347 : decode code 347 = .ok (.lcmp, 1) := by decide +kernel
theorem d_law_348 : decode code 348 = .ok (.ifCond .eq 5, 3) := by decide +kernel
theorem d_law_353 : decode code 353 = .ok (.goto 652, 3) := by decide +kernel
set_option maxHeartbeats 4000000 in
set_option maxRecDepth 100000 in
theorem l_fault_0 {p : Program} {l : Launch} {e : Env} {s : State} {m : MethodId} {below : List Frame} {meth : Method} {c : Code} {b : Nat} {xs : Nat → Int32} (htr : l.stackTraces = false) (C0 : lw_At p s m meth c b 5 xs) {A : Nat → Prop} (hA : ∀ q, s.heap.size ≤ q → A q) (hAf : ∀ q, A q → s.heap.size ≤ q) (hN : xN s) (hZ : xZ A s s.heap) {D : va_G} {qx qm qo : Nat} {cj : ClassId} {qa qb : Nat → Nat} {qk ql : Nat → ClassId} {uf : Nat → Option Nat} {H : Heap} {locs : List Loc} (h0 : xs 1 = 0) (hP : va_P D cls (lawW qx qm qo cj qa qb qk ql uf) H) (hD : va_D A (lawW qx qm qo cj qa qb qk ql uf)) (hK : va_K D cls (lawT cj qk ql) s) (hS : va_S A s.heap H locs) {ls : Array Slot} (hl : lv_has ls 7 [(4, .int 0), (3, .ref qo), (2, .ref qm), (1, .ref qx), (0, .ref b)]) : W p l e room_1 s m #[Value.ref b] below meth c H locs 223 300058 (lw_Z below #[Value.ref b] s) (F0 m 300 ls []) := by
  obtain ⟨hx, hb, hr, hml, hown, hts0, hX, hbl, hlocks, hgv⟩ := id C0
  have hown : s.vm.findClass "ObjectForgeLaw" = some m.cls := hown
  have hbA : ¬ A b := fun h => absurd (hAf b h) (Nat.not_le.mpr hbl)
  have hts : ∀ w ∈ bw, w.before #[Value.ref b] s = true := fun w h => hts0 w (bw_in w h)
  have hP : va_P D cls [(qx, .inr (0, [.ref (qa 0), .ref (qa 1), .ref (qa 2), .int 0])), ((qa 0), .inr (1, [.ref (qa 3), .ref (qa 4), .int 0, .int 0, .int 0, .int 0, .int 0, .int (-1), .long 0, .int 0, .int 0, .int 0, .int 0, .int (-1), .int (-1)])), ((qa 1), .inr (2, [.ref (qa 27), .int 0, .int 0, .int 0, .int 0, .int (-1), .int (-1)])), (qm, .inr (7, [.int 0, .int 0, .int 0, .int 0, .int 0, .int 0, .int (-1), .int (-1), .int 0, .int 0, .int 0, .int 0, .int 0, .int 0, .int 0, .int 0, .ref (qb 0), .ref (qb 1), .ref (qb 2), .ref (qb 3), .int 0, .ref (qb 4), .ref (qb 5), .ref (qb 6), .ref (qb 7), .ref (qb 8), .ref (qb 9), .ref (qb 10), .ref (qb 11), .ref (qb 12), .ref (qb 13), .ref (qb 14), .ref (qb 15), .ref (qb 16), .ref (qb 17), .ref (qb 18), .ref (qb 19), .ref (qb 20), .int 0, .int 0, .int 0, .int 0, .long 0, .long 0, .long 0, .long 0, .long 0, .ref (qb 21), .int 0, .int 0, .int 0, .int 0])), (qo, .inl (cj, 1, .inr (.inl (fun _ => 0))))] H := hP.sub [0, 1, 4, 10, 15] rfl
  have hD : va_D A [(qx, .inr (0, [.ref (qa 0), .ref (qa 1), .ref (qa 2), .int 0])), ((qa 0), .inr (1, [.ref (qa 3), .ref (qa 4), .int 0, .int 0, .int 0, .int 0, .int 0, .int (-1), .long 0, .int 0, .int 0, .int 0, .int 0, .int (-1), .int (-1)])), ((qa 1), .inr (2, [.ref (qa 27), .int 0, .int 0, .int 0, .int 0, .int (-1), .int (-1)])), (qm, .inr (7, [.int 0, .int 0, .int 0, .int 0, .int 0, .int 0, .int (-1), .int (-1), .int 0, .int 0, .int 0, .int 0, .int 0, .int 0, .int 0, .int 0, .ref (qb 0), .ref (qb 1), .ref (qb 2), .ref (qb 3), .int 0, .ref (qb 4), .ref (qb 5), .ref (qb 6), .ref (qb 7), .ref (qb 8), .ref (qb 9), .ref (qb 10), .ref (qb 11), .ref (qb 12), .ref (qb 13), .ref (qb 14), .ref (qb 15), .ref (qb 16), .ref (qb 17), .ref (qb 18), .ref (qb 19), .ref (qb 20), .int 0, .int 0, .int 0, .int 0, .long 0, .long 0, .long 0, .long 0, .long 0, .ref (qb 21), .int 0, .int 0, .int 0, .int 0])), (qo, .inl (cj, 1, .inr (.inl (fun _ => 0))))] := hD.sub [0, 1, 4, 10, 15] (by decide) rfl
  have hK : va_K D cls [(cj, .long)] s := hK.sub [7] rfl
  refine lv_aload_n hx hb d_law_300 rfl (lv_at hl 3 rfl) ?_
  refine lv_aload_n hx hb d_law_301 rfl (lv_at hl 4 rfl) ?_
  refine lv_iload hx hb d_law_302 (lv_at hl 0 rfl) ?_
  refine lv_iconst (v := 1) hx hb d_law_304 (by decide) ?_
  refine lv_iadd hx hb d_law_305 ?_
  refine lv_topi (fun z1 ez1 => ?_)
  obtain rfl : z1 = 1 := ez1.trans (by decide)
  refine va_sld hx hb hX hbl hbA hS (by unfold vp_in; decide) d_law_306 ?_
  refine W.eq (g2 := F0 m 307 ls [.int (xs 1), .ref qx]) rfl ?_
  refine lv_topi (fun z2 ez2 => ?_)
  obtain rfl : z2 = 0 := ez2.trans h0
  refine lv_aload_n hx hb d_law_307 rfl (lv_at hl 1 rfl) ?_
  refine xc_SW (As := [.ref qx, .int 0, .ref qo]) (rest := []) (n := 3) (wc := [(qx, .inr (0, [.ref (qa 0), .ref (qa 1), .ref (qa 2), .int 0])), ((qa 0), .inr (1, [.ref (qa 3), .ref (qa 4), .int 0, .int 0, .int 0, .int 0, .int 0, .int (-1), .long 0, .int 0, .int 0, .int 0, .int 0, .int (-1), .int (-1)])), ((qa 1), .inr (2, [.ref (qa 27), .int 0, .int 0, .int 0, .int 0, .int (-1), .int (-1)])), (qo, .inl (cj, 1, .inr (.inl (fun _ => 0))))]) (wr := [(qm, .inr (7, [.int 0, .int 0, .int 0, .int 0, .int 0, .int 0, .int (-1), .int (-1), .int 0, .int 0, .int 0, .int 0, .int 0, .int 0, .int 0, .int 0, .ref (qb 0), .ref (qb 1), .ref (qb 2), .ref (qb 3), .int 0, .ref (qb 4), .ref (qb 5), .ref (qb 6), .ref (qb 7), .ref (qb 8), .ref (qb 9), .ref (qb 10), .ref (qb 11), .ref (qb 12), .ref (qb 13), .ref (qb 14), .ref (qb 15), .ref (qb 16), .ref (qb 17), .ref (qb 18), .ref (qb 19), .ref (qb 20), .int 0, .int 0, .int 0, .int 0, .long 0, .long 0, .long 0, .long 0, .long 0, .ref (qb 21), .int 0, .int 0, .int 0, .int 0]))]) (tc := [(cj, .long)]) (tr := []) ⟨hx, hb, hml, hown, hts⟩ (c_La_fault_0 l htr D qx qo cj qa qk H.size) rfl rfl w_297 w_295 w_296 w_0 (by decide +kernel) ⟨Nat.le_of_ble_eq_true rfl, Nat.le_of_ble_eq_true rfl⟩ hP hD hK hS hA hN hZ [0, 1, 2, 4] [3] rfl rfl (by decide) (by decide) (by decide) [0] [] rfl rfl rfl hl.1 rfl (Nat.le_of_ble_eq_true rfl) d_law_308 ⟨Nat.le_of_ble_eq_true rfl, Nat.le_of_ble_eq_true rfl⟩ (fun u3 H locs hP hD hK hS => ?_)
  have hP : va_P D cls [(qm, .inr (7, [.int 0, .int 0, .int 0, .int 0, .int 0, .int 0, .int (-1), .int (-1), .int 0, .int 0, .int 0, .int 0, .int 0, .int 0, .int 0, .int 0, .ref (qb 0), .ref (qb 1), .ref (qb 2), .ref (qb 3), .int 0, .ref (qb 4), .ref (qb 5), .ref (qb 6), .ref (qb 7), .ref (qb 8), .ref (qb 9), .ref (qb 10), .ref (qb 11), .ref (qb 12), .ref (qb 13), .ref (qb 14), .ref (qb 15), .ref (qb 16), .ref (qb 17), .ref (qb 18), .ref (qb 19), .ref (qb 20), .int 0, .int 0, .int 0, .int 0, .long 0, .long 0, .long 0, .long 0, .long 0, .ref (qb 21), .int 0, .int 0, .int 0, .int 0])), (qo, .inl (cj, 1, .inr (.inl (vp_updL (fun _ => 0) (0 : Int32).toNatClampNeg 0))))] H := hP
  have hD : va_D A [(qm, .inr (7, [.int 0, .int 0, .int 0, .int 0, .int 0, .int 0, .int (-1), .int (-1), .int 0, .int 0, .int 0, .int 0, .int 0, .int 0, .int 0, .int 0, .ref (qb 0), .ref (qb 1), .ref (qb 2), .ref (qb 3), .int 0, .ref (qb 4), .ref (qb 5), .ref (qb 6), .ref (qb 7), .ref (qb 8), .ref (qb 9), .ref (qb 10), .ref (qb 11), .ref (qb 12), .ref (qb 13), .ref (qb 14), .ref (qb 15), .ref (qb 16), .ref (qb 17), .ref (qb 18), .ref (qb 19), .ref (qb 20), .int 0, .int 0, .int 0, .int 0, .long 0, .long 0, .long 0, .long 0, .long 0, .ref (qb 21), .int 0, .int 0, .int 0, .int 0])), (qo, .inl (cj, 1, .inr (.inl (vp_updL (fun _ => 0) (0 : Int32).toNatClampNeg 0))))] := hD
  have hK : va_K D cls [(cj, .long)] s := hK
  refine W.eq (g2 := F0 m 311 ls [.int 0]) rfl ?_
  refine lv_istore (lv' := [(5, .int 0), (4, .int 0), (3, .ref qo), (2, .ref qm), (1, .ref qx), (0, .ref b)]) hx hb d_law_311 hl (by decide) rfl (fun ls hl => ?_)
  refine lv_aload_n hx hb d_law_313 rfl (lv_at hl 3 rfl) ?_
  refine lv_aload_n hx hb d_law_314 rfl (lv_at hl 5 rfl) ?_
  refine lv_iload hx hb d_law_315 (lv_at hl 1 rfl) ?_
  refine lv_iconst (v := 1) hx hb d_law_317 (by decide) ?_
  refine lv_iadd hx hb d_law_318 ?_
  refine lv_topi (fun z4 ez4 => ?_)
  obtain rfl : z4 = 1 := ez4.trans (by decide)
  refine va_sld hx hb hX hbl hbA hS (by unfold vp_in; decide) d_law_319 ?_
  refine W.eq (g2 := F0 m 320 ls [.int (xs 1), .ref qm]) rfl ?_
  refine lv_topi (fun z5 ez5 => ?_)
  obtain rfl : z5 = 0 := ez5.trans h0
  refine xc_V (As := [.int 0]) (rest := []) (n := 1) (wc := [(qm, .inr (7, [.int 0, .int 0, .int 0, .int 0, .int 0, .int 0, .int (-1), .int (-1), .int 0, .int 0, .int 0, .int 0, .int 0, .int 0, .int 0, .int 0, .ref (qb 0), .ref (qb 1), .ref (qb 2), .ref (qb 3), .int 0, .ref (qb 4), .ref (qb 5), .ref (qb 6), .ref (qb 7), .ref (qb 8), .ref (qb 9), .ref (qb 10), .ref (qb 11), .ref (qb 12), .ref (qb 13), .ref (qb 14), .ref (qb 15), .ref (qb 16), .ref (qb 17), .ref (qb 18), .ref (qb 19), .ref (qb 20), .int 0, .int 0, .int 0, .int 0, .long 0, .long 0, .long 0, .long 0, .long 0, .ref (qb 21), .int 0, .int 0, .int 0, .int 0]))]) (wr := [(qo, .inl (cj, 1, .inr (.inl (vp_updL (fun _ => 0) (0 : Int32).toNatClampNeg 0))))]) (tc := []) (tr := [(cj, .long)]) ⟨hx, hb, hml, hown, hts⟩ (c_Mo_fault_0 l D qm qb H.size) rfl rfl w_503 w_500 w_501 w_502 w_8 (by decide +kernel) ⟨Nat.le_of_ble_eq_true rfl, Nat.le_of_ble_eq_true rfl⟩ hP hD hK hS hA hN hZ [0] [1] rfl rfl (by decide) (by decide) (by decide) [] [0] rfl rfl (ci := 7) (q0 := 0) (q := (R_Mo, F_Mo, 52)) rfl rfl rfl rfl hl.1 rfl (Nat.le_of_ble_eq_true rfl) d_law_320 ⟨Nat.le_of_ble_eq_true rfl, Nat.le_of_ble_eq_true rfl⟩ (fun u6 H locs hP hD hK hS => ?_)
  have hP : va_P D cls [(qo, .inl (cj, 1, .inr (.inl (vp_updL (fun _ => 0) (0 : Int32).toNatClampNeg 0)))), (qm, .inr (7, [.int 0, .int 0, .int 0, .int 0, .int 0, .int 0, .int (-1), .int (-1), .int 0, .int 0, .int 0, .int 0, .int 0, .int 0, .int 0, .int 0, .ref (qb 0), .ref (qb 1), .ref (qb 2), .ref (qb 3), .int 0, .ref (qb 4), .ref (qb 5), .ref (qb 6), .ref (qb 7), .ref (qb 8), .ref (qb 9), .ref (qb 10), .ref (qb 11), .ref (qb 12), .ref (qb 13), .ref (qb 14), .ref (qb 15), .ref (qb 16), .ref (qb 17), .ref (qb 18), .ref (qb 19), .ref (qb 20), .int 0, .int 0, .int 0, .int 0, .long 0, .long 0, .long 0, .long 0, .long 0, .ref (qb 21), .int 0, .int 0, .int 0, .int 0]))] H := hP
  have hD : va_D A [(qo, .inl (cj, 1, .inr (.inl (vp_updL (fun _ => 0) (0 : Int32).toNatClampNeg 0)))), (qm, .inr (7, [.int 0, .int 0, .int 0, .int 0, .int 0, .int 0, .int (-1), .int (-1), .int 0, .int 0, .int 0, .int 0, .int 0, .int 0, .int 0, .int 0, .ref (qb 0), .ref (qb 1), .ref (qb 2), .ref (qb 3), .int 0, .ref (qb 4), .ref (qb 5), .ref (qb 6), .ref (qb 7), .ref (qb 8), .ref (qb 9), .ref (qb 10), .ref (qb 11), .ref (qb 12), .ref (qb 13), .ref (qb 14), .ref (qb 15), .ref (qb 16), .ref (qb 17), .ref (qb 18), .ref (qb 19), .ref (qb 20), .int 0, .int 0, .int 0, .int 0, .long 0, .long 0, .long 0, .long 0, .long 0, .ref (qb 21), .int 0, .int 0, .int 0, .int 0]))] := hD
  have hK : va_K D cls [(cj, .long)] s := hK
  refine W.eq (g2 := F0 m 323 ls [.int 0]) rfl ?_
  refine lv_istore (lv' := [(6, .int 0), (5, .int 0), (4, .int 0), (3, .ref qo), (2, .ref qm), (1, .ref qx), (0, .ref b)]) hx hb d_law_323 hl (by decide) rfl (fun ls hl => ?_)
  refine lv_aload_n hx hb d_law_325 rfl (lv_at hl 4 rfl) ?_
  refine xc_V (As := []) (rest := []) (n := 0) (wc := [(qm, .inr (7, [.int 0, .int 0, .int 0, .int 0, .int 0, .int 0, .int (-1), .int (-1), .int 0, .int 0, .int 0, .int 0, .int 0, .int 0, .int 0, .int 0, .ref (qb 0), .ref (qb 1), .ref (qb 2), .ref (qb 3), .int 0, .ref (qb 4), .ref (qb 5), .ref (qb 6), .ref (qb 7), .ref (qb 8), .ref (qb 9), .ref (qb 10), .ref (qb 11), .ref (qb 12), .ref (qb 13), .ref (qb 14), .ref (qb 15), .ref (qb 16), .ref (qb 17), .ref (qb 18), .ref (qb 19), .ref (qb 20), .int 0, .int 0, .int 0, .int 0, .long 0, .long 0, .long 0, .long 0, .long 0, .ref (qb 21), .int 0, .int 0, .int 0, .int 0]))]) (wr := [(qo, .inl (cj, 1, .inr (.inl (vp_updL (fun _ => 0) (0 : Int32).toNatClampNeg 0))))]) (tc := []) (tr := [(cj, .long)]) ⟨hx, hb, hml, hown, hts⟩ (c_Mo_thrown_0 l D qm qb H.size) rfl rfl w_445 w_442 w_443 w_444 w_8 (by decide +kernel) ⟨Nat.le_of_ble_eq_true rfl, Nat.le_of_ble_eq_true rfl⟩ hP hD hK hS hA hN hZ [1] [0] rfl rfl (by decide) (by decide) (by decide) [] [0] rfl rfl (ci := 7) (q0 := 0) (q := (R_Mo, F_Mo, 52)) rfl rfl rfl rfl hl.1 rfl (Nat.le_of_ble_eq_true rfl) d_law_326 ⟨Nat.le_of_ble_eq_true rfl, Nat.le_of_ble_eq_true rfl⟩ (fun u7 H locs hP hD hK hS => ?_)
  have hP : va_P D cls [(qo, .inl (cj, 1, .inr (.inl (vp_updL (fun _ => 0) (0 : Int32).toNatClampNeg 0)))), (qm, .inr (7, [.int 0, .int 0, .int 0, .int 0, .int 0, .int 0, .int (-1), .int (-1), .int 0, .int 0, .int 0, .int 0, .int 0, .int 0, .int 0, .int 0, .ref (qb 0), .ref (qb 1), .ref (qb 2), .ref (qb 3), .int 0, .ref (qb 4), .ref (qb 5), .ref (qb 6), .ref (qb 7), .ref (qb 8), .ref (qb 9), .ref (qb 10), .ref (qb 11), .ref (qb 12), .ref (qb 13), .ref (qb 14), .ref (qb 15), .ref (qb 16), .ref (qb 17), .ref (qb 18), .ref (qb 19), .ref (qb 20), .int 0, .int 0, .int 0, .int 0, .long 0, .long 0, .long 0, .long 0, .long 0, .ref (qb 21), .int 0, .int 0, .int 0, .int 0]))] H := hP
  have hD : va_D A [(qo, .inl (cj, 1, .inr (.inl (vp_updL (fun _ => 0) (0 : Int32).toNatClampNeg 0)))), (qm, .inr (7, [.int 0, .int 0, .int 0, .int 0, .int 0, .int 0, .int (-1), .int (-1), .int 0, .int 0, .int 0, .int 0, .int 0, .int 0, .int 0, .int 0, .ref (qb 0), .ref (qb 1), .ref (qb 2), .ref (qb 3), .int 0, .ref (qb 4), .ref (qb 5), .ref (qb 6), .ref (qb 7), .ref (qb 8), .ref (qb 9), .ref (qb 10), .ref (qb 11), .ref (qb 12), .ref (qb 13), .ref (qb 14), .ref (qb 15), .ref (qb 16), .ref (qb 17), .ref (qb 18), .ref (qb 19), .ref (qb 20), .int 0, .int 0, .int 0, .int 0, .long 0, .long 0, .long 0, .long 0, .long 0, .ref (qb 21), .int 0, .int 0, .int 0, .int 0]))] := hD
  have hK : va_K D cls [(cj, .long)] s := hK
  refine W.eq (g2 := F0 m 329 ls [.int 0]) rfl ?_
  refine lv_iload hx hb d_law_329 (lv_at hl 1 rfl) ?_
  refine lv_icmp_eq (tgt := 336) hx hb d_law_331 (by decide) (fun _ => ?_) (fun q9 => absurd (by decide : ((0 : Int32) = 0)) q9)
  refine lv_iload hx hb d_law_336 (lv_at hl 1 rfl) ?_
  refine lv_if_ne (tgt := 353) hx hb d_law_338 (by decide) (fun q9 => absurd (by decide : ((0 : Int32) = 0)) q9) (fun _ => ?_)
  refine lv_aload_n hx hb d_law_341 rfl (lv_at hl 3 rfl) ?_
  refine lv_iconst (v := 0) hx hb d_law_342 (by decide) ?_
  refine va_lald hx hb hK hP 0 0 rfl rfl (by unfold vp_in; decide) d_law_343 ?_
  refine lv_topl (fun z8 ez8 => ?_)
  obtain rfl : z8 = 0 := ez8.trans (by decide)
  refine lv_iload hx hb d_law_344 (lv_at hl 0 rfl) ?_
  refine lv_i2l (v := 0) hx hb d_law_346 (by first | rfl | decide) ?_
  refine W.lcmp hx hb d_law_347 ?_
  refine lv_topi (fun z9 ez9 => ?_)
  obtain rfl : z9 = 0 := ez9.trans (by decide)
  refine lv_if_eq (tgt := 353) hx hb d_law_348 (by decide) (fun _ => ?_) (fun q9 => absurd (by decide : ((0 : Int32) = 0)) q9)
  refine lv_goto (tgt := 1005) hx hb d_law_353 (by decide) ?_
  exact law_tail C0 hA hAf hS (Nat.le_of_ble_eq_true rfl) (Nat.le_of_ble_eq_true rfl) (lv_sub hl [6, 2] rfl)

set_option maxHeartbeats 4000000 in
set_option maxRecDepth 100000 in
theorem l_fault_1 {p : Program} {l : Launch} {e : Env} {s : State} {m : MethodId} {below : List Frame} {meth : Method} {c : Code} {b : Nat} {xs : Nat → Int32} (htr : l.stackTraces = false) (C0 : lw_At p s m meth c b 5 xs) {A : Nat → Prop} (hA : ∀ q, s.heap.size ≤ q → A q) (hAf : ∀ q, A q → s.heap.size ≤ q) (hN : xN s) (hZ : xZ A s s.heap) {D : va_G} {qx qm qo : Nat} {cj : ClassId} {qa qb : Nat → Nat} {qk ql : Nat → ClassId} {uf : Nat → Option Nat} {H : Heap} {locs : List Loc} (h0 : xs 1 = 1) (hP : va_P D cls (lawW qx qm qo cj qa qb qk ql uf) H) (hD : va_D A (lawW qx qm qo cj qa qb qk ql uf)) (hK : va_K D cls (lawT cj qk ql) s) (hS : va_S A s.heap H locs) {ls : Array Slot} (hl : lv_has ls 7 [(4, .int 0), (3, .ref qo), (2, .ref qm), (1, .ref qx), (0, .ref b)]) : W p l e room_1 s m #[Value.ref b] below meth c H locs 223 300058 (lw_Z below #[Value.ref b] s) (F0 m 300 ls []) := by
  obtain ⟨hx, hb, hr, hml, hown, hts0, hX, hbl, hlocks, hgv⟩ := id C0
  have hown : s.vm.findClass "ObjectForgeLaw" = some m.cls := hown
  have hbA : ¬ A b := fun h => absurd (hAf b h) (Nat.not_le.mpr hbl)
  have hts : ∀ w ∈ bw, w.before #[Value.ref b] s = true := fun w h => hts0 w (bw_in w h)
  have hP : va_P D cls [(qx, .inr (0, [.ref (qa 0), .ref (qa 1), .ref (qa 2), .int 0])), ((qa 0), .inr (1, [.ref (qa 3), .ref (qa 4), .int 0, .int 0, .int 0, .int 0, .int 0, .int (-1), .long 0, .int 0, .int 0, .int 0, .int 0, .int (-1), .int (-1)])), ((qa 1), .inr (2, [.ref (qa 27), .int 0, .int 0, .int 0, .int 0, .int (-1), .int (-1)])), (qm, .inr (7, [.int 0, .int 0, .int 0, .int 0, .int 0, .int 0, .int (-1), .int (-1), .int 0, .int 0, .int 0, .int 0, .int 0, .int 0, .int 0, .int 0, .ref (qb 0), .ref (qb 1), .ref (qb 2), .ref (qb 3), .int 0, .ref (qb 4), .ref (qb 5), .ref (qb 6), .ref (qb 7), .ref (qb 8), .ref (qb 9), .ref (qb 10), .ref (qb 11), .ref (qb 12), .ref (qb 13), .ref (qb 14), .ref (qb 15), .ref (qb 16), .ref (qb 17), .ref (qb 18), .ref (qb 19), .ref (qb 20), .int 0, .int 0, .int 0, .int 0, .long 0, .long 0, .long 0, .long 0, .long 0, .ref (qb 21), .int 0, .int 0, .int 0, .int 0])), (qo, .inl (cj, 1, .inr (.inl (fun _ => 0))))] H := hP.sub [0, 1, 4, 10, 15] rfl
  have hD : va_D A [(qx, .inr (0, [.ref (qa 0), .ref (qa 1), .ref (qa 2), .int 0])), ((qa 0), .inr (1, [.ref (qa 3), .ref (qa 4), .int 0, .int 0, .int 0, .int 0, .int 0, .int (-1), .long 0, .int 0, .int 0, .int 0, .int 0, .int (-1), .int (-1)])), ((qa 1), .inr (2, [.ref (qa 27), .int 0, .int 0, .int 0, .int 0, .int (-1), .int (-1)])), (qm, .inr (7, [.int 0, .int 0, .int 0, .int 0, .int 0, .int 0, .int (-1), .int (-1), .int 0, .int 0, .int 0, .int 0, .int 0, .int 0, .int 0, .int 0, .ref (qb 0), .ref (qb 1), .ref (qb 2), .ref (qb 3), .int 0, .ref (qb 4), .ref (qb 5), .ref (qb 6), .ref (qb 7), .ref (qb 8), .ref (qb 9), .ref (qb 10), .ref (qb 11), .ref (qb 12), .ref (qb 13), .ref (qb 14), .ref (qb 15), .ref (qb 16), .ref (qb 17), .ref (qb 18), .ref (qb 19), .ref (qb 20), .int 0, .int 0, .int 0, .int 0, .long 0, .long 0, .long 0, .long 0, .long 0, .ref (qb 21), .int 0, .int 0, .int 0, .int 0])), (qo, .inl (cj, 1, .inr (.inl (fun _ => 0))))] := hD.sub [0, 1, 4, 10, 15] (by decide) rfl
  have hK : va_K D cls [(cj, .long)] s := hK.sub [7] rfl
  refine lv_aload_n hx hb d_law_300 rfl (lv_at hl 3 rfl) ?_
  refine lv_aload_n hx hb d_law_301 rfl (lv_at hl 4 rfl) ?_
  refine lv_iload hx hb d_law_302 (lv_at hl 0 rfl) ?_
  refine lv_iconst (v := 1) hx hb d_law_304 (by decide) ?_
  refine lv_iadd hx hb d_law_305 ?_
  refine lv_topi (fun z1 ez1 => ?_)
  obtain rfl : z1 = 1 := ez1.trans (by decide)
  refine va_sld hx hb hX hbl hbA hS (by unfold vp_in; decide) d_law_306 ?_
  refine W.eq (g2 := F0 m 307 ls [.int (xs 1), .ref qx]) rfl ?_
  refine lv_topi (fun z2 ez2 => ?_)
  obtain rfl : z2 = 1 := ez2.trans h0
  refine lv_aload_n hx hb d_law_307 rfl (lv_at hl 1 rfl) ?_
  refine xc_SW (As := [.ref qx, .int 1, .ref qo]) (rest := []) (n := 3) (wc := [(qx, .inr (0, [.ref (qa 0), .ref (qa 1), .ref (qa 2), .int 0])), ((qa 0), .inr (1, [.ref (qa 3), .ref (qa 4), .int 0, .int 0, .int 0, .int 0, .int 0, .int (-1), .long 0, .int 0, .int 0, .int 0, .int 0, .int (-1), .int (-1)])), ((qa 1), .inr (2, [.ref (qa 27), .int 0, .int 0, .int 0, .int 0, .int (-1), .int (-1)])), (qo, .inl (cj, 1, .inr (.inl (fun _ => 0))))]) (wr := [(qm, .inr (7, [.int 0, .int 0, .int 0, .int 0, .int 0, .int 0, .int (-1), .int (-1), .int 0, .int 0, .int 0, .int 0, .int 0, .int 0, .int 0, .int 0, .ref (qb 0), .ref (qb 1), .ref (qb 2), .ref (qb 3), .int 0, .ref (qb 4), .ref (qb 5), .ref (qb 6), .ref (qb 7), .ref (qb 8), .ref (qb 9), .ref (qb 10), .ref (qb 11), .ref (qb 12), .ref (qb 13), .ref (qb 14), .ref (qb 15), .ref (qb 16), .ref (qb 17), .ref (qb 18), .ref (qb 19), .ref (qb 20), .int 0, .int 0, .int 0, .int 0, .long 0, .long 0, .long 0, .long 0, .long 0, .ref (qb 21), .int 0, .int 0, .int 0, .int 0]))]) (tc := [(cj, .long)]) (tr := []) ⟨hx, hb, hml, hown, hts⟩ (c_La_fault_1 l htr D qx qo cj qa qk H.size) rfl rfl w_297 w_295 w_296 w_0 (by decide +kernel) ⟨Nat.le_of_ble_eq_true rfl, Nat.le_of_ble_eq_true rfl⟩ hP hD hK hS hA hN hZ [0, 1, 2, 4] [3] rfl rfl (by decide) (by decide) (by decide) [0] [] rfl rfl rfl hl.1 rfl (Nat.le_of_ble_eq_true rfl) d_law_308 ⟨Nat.le_of_ble_eq_true rfl, Nat.le_of_ble_eq_true rfl⟩ (fun u3 H locs hP hD hK hS => ?_)
  have hP : va_P D cls [(qm, .inr (7, [.int 0, .int 0, .int 0, .int 0, .int 0, .int 0, .int (-1), .int (-1), .int 0, .int 0, .int 0, .int 0, .int 0, .int 0, .int 0, .int 0, .ref (qb 0), .ref (qb 1), .ref (qb 2), .ref (qb 3), .int 0, .ref (qb 4), .ref (qb 5), .ref (qb 6), .ref (qb 7), .ref (qb 8), .ref (qb 9), .ref (qb 10), .ref (qb 11), .ref (qb 12), .ref (qb 13), .ref (qb 14), .ref (qb 15), .ref (qb 16), .ref (qb 17), .ref (qb 18), .ref (qb 19), .ref (qb 20), .int 0, .int 0, .int 0, .int 0, .long 0, .long 0, .long 0, .long 0, .long 0, .ref (qb 21), .int 0, .int 0, .int 0, .int 0])), (qo, .inl (cj, 1, .inr (.inl (vp_updL (fun _ => 0) (0 : Int32).toNatClampNeg 0))))] H := hP
  have hD : va_D A [(qm, .inr (7, [.int 0, .int 0, .int 0, .int 0, .int 0, .int 0, .int (-1), .int (-1), .int 0, .int 0, .int 0, .int 0, .int 0, .int 0, .int 0, .int 0, .ref (qb 0), .ref (qb 1), .ref (qb 2), .ref (qb 3), .int 0, .ref (qb 4), .ref (qb 5), .ref (qb 6), .ref (qb 7), .ref (qb 8), .ref (qb 9), .ref (qb 10), .ref (qb 11), .ref (qb 12), .ref (qb 13), .ref (qb 14), .ref (qb 15), .ref (qb 16), .ref (qb 17), .ref (qb 18), .ref (qb 19), .ref (qb 20), .int 0, .int 0, .int 0, .int 0, .long 0, .long 0, .long 0, .long 0, .long 0, .ref (qb 21), .int 0, .int 0, .int 0, .int 0])), (qo, .inl (cj, 1, .inr (.inl (vp_updL (fun _ => 0) (0 : Int32).toNatClampNeg 0))))] := hD
  have hK : va_K D cls [(cj, .long)] s := hK
  refine W.eq (g2 := F0 m 311 ls [.int 0]) rfl ?_
  refine lv_istore (lv' := [(5, .int 0), (4, .int 0), (3, .ref qo), (2, .ref qm), (1, .ref qx), (0, .ref b)]) hx hb d_law_311 hl (by decide) rfl (fun ls hl => ?_)
  refine lv_aload_n hx hb d_law_313 rfl (lv_at hl 3 rfl) ?_
  refine lv_aload_n hx hb d_law_314 rfl (lv_at hl 5 rfl) ?_
  refine lv_iload hx hb d_law_315 (lv_at hl 1 rfl) ?_
  refine lv_iconst (v := 1) hx hb d_law_317 (by decide) ?_
  refine lv_iadd hx hb d_law_318 ?_
  refine lv_topi (fun z4 ez4 => ?_)
  obtain rfl : z4 = 1 := ez4.trans (by decide)
  refine va_sld hx hb hX hbl hbA hS (by unfold vp_in; decide) d_law_319 ?_
  refine W.eq (g2 := F0 m 320 ls [.int (xs 1), .ref qm]) rfl ?_
  refine lv_topi (fun z5 ez5 => ?_)
  obtain rfl : z5 = 1 := ez5.trans h0
  refine xc_V (As := [.int 1]) (rest := []) (n := 1) (wc := [(qm, .inr (7, [.int 0, .int 0, .int 0, .int 0, .int 0, .int 0, .int (-1), .int (-1), .int 0, .int 0, .int 0, .int 0, .int 0, .int 0, .int 0, .int 0, .ref (qb 0), .ref (qb 1), .ref (qb 2), .ref (qb 3), .int 0, .ref (qb 4), .ref (qb 5), .ref (qb 6), .ref (qb 7), .ref (qb 8), .ref (qb 9), .ref (qb 10), .ref (qb 11), .ref (qb 12), .ref (qb 13), .ref (qb 14), .ref (qb 15), .ref (qb 16), .ref (qb 17), .ref (qb 18), .ref (qb 19), .ref (qb 20), .int 0, .int 0, .int 0, .int 0, .long 0, .long 0, .long 0, .long 0, .long 0, .ref (qb 21), .int 0, .int 0, .int 0, .int 0]))]) (wr := [(qo, .inl (cj, 1, .inr (.inl (vp_updL (fun _ => 0) (0 : Int32).toNatClampNeg 0))))]) (tc := []) (tr := [(cj, .long)]) ⟨hx, hb, hml, hown, hts⟩ (c_Mo_fault_1 l D qm qb H.size) rfl rfl w_503 w_500 w_501 w_502 w_8 (by decide +kernel) ⟨Nat.le_of_ble_eq_true rfl, Nat.le_of_ble_eq_true rfl⟩ hP hD hK hS hA hN hZ [0] [1] rfl rfl (by decide) (by decide) (by decide) [] [0] rfl rfl (ci := 7) (q0 := 0) (q := (R_Mo, F_Mo, 52)) rfl rfl rfl rfl hl.1 rfl (Nat.le_of_ble_eq_true rfl) d_law_320 ⟨Nat.le_of_ble_eq_true rfl, Nat.le_of_ble_eq_true rfl⟩ (fun u6 H locs hP hD hK hS => ?_)
  have hP : va_P D cls [(qo, .inl (cj, 1, .inr (.inl (vp_updL (fun _ => 0) (0 : Int32).toNatClampNeg 0)))), (qm, .inr (7, [.int 0, .int 0, .int 0, .int 0, .int 0, .int 0, .int (-1), .int (-1), .int 0, .int 0, .int 0, .int 0, .int 0, .int 0, .int 0, .int 0, .ref (qb 0), .ref (qb 1), .ref (qb 2), .ref (qb 3), .int 0, .ref (qb 4), .ref (qb 5), .ref (qb 6), .ref (qb 7), .ref (qb 8), .ref (qb 9), .ref (qb 10), .ref (qb 11), .ref (qb 12), .ref (qb 13), .ref (qb 14), .ref (qb 15), .ref (qb 16), .ref (qb 17), .ref (qb 18), .ref (qb 19), .ref (qb 20), .int 0, .int 0, .int 0, .int 0, .long 0, .long 0, .long 0, .long 0, .long 0, .ref (qb 21), .int 0, .int 0, .int 0, .int 0]))] H := hP
  have hD : va_D A [(qo, .inl (cj, 1, .inr (.inl (vp_updL (fun _ => 0) (0 : Int32).toNatClampNeg 0)))), (qm, .inr (7, [.int 0, .int 0, .int 0, .int 0, .int 0, .int 0, .int (-1), .int (-1), .int 0, .int 0, .int 0, .int 0, .int 0, .int 0, .int 0, .int 0, .ref (qb 0), .ref (qb 1), .ref (qb 2), .ref (qb 3), .int 0, .ref (qb 4), .ref (qb 5), .ref (qb 6), .ref (qb 7), .ref (qb 8), .ref (qb 9), .ref (qb 10), .ref (qb 11), .ref (qb 12), .ref (qb 13), .ref (qb 14), .ref (qb 15), .ref (qb 16), .ref (qb 17), .ref (qb 18), .ref (qb 19), .ref (qb 20), .int 0, .int 0, .int 0, .int 0, .long 0, .long 0, .long 0, .long 0, .long 0, .ref (qb 21), .int 0, .int 0, .int 0, .int 0]))] := hD
  have hK : va_K D cls [(cj, .long)] s := hK
  refine W.eq (g2 := F0 m 323 ls [.int 0]) rfl ?_
  refine lv_istore (lv' := [(6, .int 0), (5, .int 0), (4, .int 0), (3, .ref qo), (2, .ref qm), (1, .ref qx), (0, .ref b)]) hx hb d_law_323 hl (by decide) rfl (fun ls hl => ?_)
  refine lv_aload_n hx hb d_law_325 rfl (lv_at hl 4 rfl) ?_
  refine xc_V (As := []) (rest := []) (n := 0) (wc := [(qm, .inr (7, [.int 0, .int 0, .int 0, .int 0, .int 0, .int 0, .int (-1), .int (-1), .int 0, .int 0, .int 0, .int 0, .int 0, .int 0, .int 0, .int 0, .ref (qb 0), .ref (qb 1), .ref (qb 2), .ref (qb 3), .int 0, .ref (qb 4), .ref (qb 5), .ref (qb 6), .ref (qb 7), .ref (qb 8), .ref (qb 9), .ref (qb 10), .ref (qb 11), .ref (qb 12), .ref (qb 13), .ref (qb 14), .ref (qb 15), .ref (qb 16), .ref (qb 17), .ref (qb 18), .ref (qb 19), .ref (qb 20), .int 0, .int 0, .int 0, .int 0, .long 0, .long 0, .long 0, .long 0, .long 0, .ref (qb 21), .int 0, .int 0, .int 0, .int 0]))]) (wr := [(qo, .inl (cj, 1, .inr (.inl (vp_updL (fun _ => 0) (0 : Int32).toNatClampNeg 0))))]) (tc := []) (tr := [(cj, .long)]) ⟨hx, hb, hml, hown, hts⟩ (c_Mo_thrown_0 l D qm qb H.size) rfl rfl w_445 w_442 w_443 w_444 w_8 (by decide +kernel) ⟨Nat.le_of_ble_eq_true rfl, Nat.le_of_ble_eq_true rfl⟩ hP hD hK hS hA hN hZ [1] [0] rfl rfl (by decide) (by decide) (by decide) [] [0] rfl rfl (ci := 7) (q0 := 0) (q := (R_Mo, F_Mo, 52)) rfl rfl rfl rfl hl.1 rfl (Nat.le_of_ble_eq_true rfl) d_law_326 ⟨Nat.le_of_ble_eq_true rfl, Nat.le_of_ble_eq_true rfl⟩ (fun u7 H locs hP hD hK hS => ?_)
  have hP : va_P D cls [(qo, .inl (cj, 1, .inr (.inl (vp_updL (fun _ => 0) (0 : Int32).toNatClampNeg 0)))), (qm, .inr (7, [.int 0, .int 0, .int 0, .int 0, .int 0, .int 0, .int (-1), .int (-1), .int 0, .int 0, .int 0, .int 0, .int 0, .int 0, .int 0, .int 0, .ref (qb 0), .ref (qb 1), .ref (qb 2), .ref (qb 3), .int 0, .ref (qb 4), .ref (qb 5), .ref (qb 6), .ref (qb 7), .ref (qb 8), .ref (qb 9), .ref (qb 10), .ref (qb 11), .ref (qb 12), .ref (qb 13), .ref (qb 14), .ref (qb 15), .ref (qb 16), .ref (qb 17), .ref (qb 18), .ref (qb 19), .ref (qb 20), .int 0, .int 0, .int 0, .int 0, .long 0, .long 0, .long 0, .long 0, .long 0, .ref (qb 21), .int 0, .int 0, .int 0, .int 0]))] H := hP
  have hD : va_D A [(qo, .inl (cj, 1, .inr (.inl (vp_updL (fun _ => 0) (0 : Int32).toNatClampNeg 0)))), (qm, .inr (7, [.int 0, .int 0, .int 0, .int 0, .int 0, .int 0, .int (-1), .int (-1), .int 0, .int 0, .int 0, .int 0, .int 0, .int 0, .int 0, .int 0, .ref (qb 0), .ref (qb 1), .ref (qb 2), .ref (qb 3), .int 0, .ref (qb 4), .ref (qb 5), .ref (qb 6), .ref (qb 7), .ref (qb 8), .ref (qb 9), .ref (qb 10), .ref (qb 11), .ref (qb 12), .ref (qb 13), .ref (qb 14), .ref (qb 15), .ref (qb 16), .ref (qb 17), .ref (qb 18), .ref (qb 19), .ref (qb 20), .int 0, .int 0, .int 0, .int 0, .long 0, .long 0, .long 0, .long 0, .long 0, .ref (qb 21), .int 0, .int 0, .int 0, .int 0]))] := hD
  have hK : va_K D cls [(cj, .long)] s := hK
  refine W.eq (g2 := F0 m 329 ls [.int 0]) rfl ?_
  refine lv_iload hx hb d_law_329 (lv_at hl 1 rfl) ?_
  refine lv_icmp_eq (tgt := 336) hx hb d_law_331 (by decide) (fun _ => ?_) (fun q9 => absurd (by decide : ((0 : Int32) = 0)) q9)
  refine lv_iload hx hb d_law_336 (lv_at hl 1 rfl) ?_
  refine lv_if_ne (tgt := 353) hx hb d_law_338 (by decide) (fun q9 => absurd (by decide : ((0 : Int32) = 0)) q9) (fun _ => ?_)
  refine lv_aload_n hx hb d_law_341 rfl (lv_at hl 3 rfl) ?_
  refine lv_iconst (v := 0) hx hb d_law_342 (by decide) ?_
  refine va_lald hx hb hK hP 0 0 rfl rfl (by unfold vp_in; decide) d_law_343 ?_
  refine lv_topl (fun z8 ez8 => ?_)
  obtain rfl : z8 = 0 := ez8.trans (by decide)
  refine lv_iload hx hb d_law_344 (lv_at hl 0 rfl) ?_
  refine lv_i2l (v := 0) hx hb d_law_346 (by first | rfl | decide) ?_
  refine W.lcmp hx hb d_law_347 ?_
  refine lv_topi (fun z9 ez9 => ?_)
  obtain rfl : z9 = 0 := ez9.trans (by decide)
  refine lv_if_eq (tgt := 353) hx hb d_law_348 (by decide) (fun _ => ?_) (fun q9 => absurd (by decide : ((0 : Int32) = 0)) q9)
  refine lv_goto (tgt := 1005) hx hb d_law_353 (by decide) ?_
  exact law_tail C0 hA hAf hS (Nat.le_of_ble_eq_true rfl) (Nat.le_of_ble_eq_true rfl) (lv_sub hl [6, 2] rfl)
