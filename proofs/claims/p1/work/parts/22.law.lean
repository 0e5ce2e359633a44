set_option maxHeartbeats 4000000 in
set_option maxRecDepth 100000 in
theorem c_Mo_thrown_f (l : Launch) (D : va_G) (h0 : Nat) (qa : Nat → Nat) (sz : Nat) : Met l y_Mo_thrown (Cond.code y_Mo_thrown b_Mo_thrown 1 (some .int) :: bw) (xR 1 0 0) (va_Pc [.ref h0] (xP D [] sz [(h0, .inr (7, [.int 0, .int 16, .int 0, .int 0, .int 0, .int 0, .int (-1), .int (-1), .int 0, .int 0, .int 0, .int 0, .int 0, .int 0, .int 0, .int 0, .ref (qa 0), .ref (qa 1), .ref (qa 2), .ref (qa 3), .int 0, .ref (qa 4), .ref (qa 5), .ref (qa 6), .ref (qa 7), .ref (qa 8), .ref (qa 9), .ref (qa 10), .ref (qa 11), .ref (qa 12), .ref (qa 13), .ref (qa 14), .ref (qa 15), .ref (qa 16), .ref (qa 17), .ref (qa 18), .ref (qa 19), .ref (qa 20), .int 0, .int 0, .int 0, .int 0, .long 0, .long 0, .long 0, .long 0, .long 0, .ref (qa 21), .int 0, .int 0, .int 0, .int 0]))])) (xQ (S := Unit) (fun _ => some (.int 0)) (fun _ => [(h0, .inr (7, [.int 0, .int 16, .int 0, .int 0, .int 0, .int 0, .int (-1), .int (-1), .int 0, .int 0, .int 0, .int 0, .int 0, .int 0, .int 0, .int 0, .ref (qa 0), .ref (qa 1), .ref (qa 2), .ref (qa 3), .int 0, .ref (qa 4), .ref (qa 5), .ref (qa 6), .ref (qa 7), .ref (qa 8), .ref (qa 9), .ref (qa 10), .ref (qa 11), .ref (qa 12), .ref (qa 13), .ref (qa 14), .ref (qa 15), .ref (qa 16), .ref (qa 17), .ref (qa 18), .ref (qa 19), .ref (qa 20), .int 0, .int 0, .int 0, .int 0, .long 0, .long 0, .long 0, .long 0, .long 0, .ref (qa 21), .int 0, .int 0, .int 0, .int 0]))]) (fun _ => []) D (va_A [(h0, .inr (7, [.int 0, .int 16, .int 0, .int 0, .int 0, .int 0, .int (-1), .int (-1), .int 0, .int 0, .int 0, .int 0, .int 0, .int 0, .int 0, .int 0, .ref (qa 0), .ref (qa 1), .ref (qa 2), .ref (qa 3), .int 0, .ref (qa 4), .ref (qa 5), .ref (qa 6), .ref (qa 7), .ref (qa 8), .ref (qa 9), .ref (qa 10), .ref (qa 11), .ref (qa 12), .ref (qa 13), .ref (qa 14), .ref (qa 15), .ref (qa 16), .ref (qa 17), .ref (qa 18), .ref (qa 19), .ref (qa 20), .int 0, .int 0, .int 0, .int 0, .long 0, .long 0, .long 0, .long 0, .long 0, .ref (qa 21), .int 0, .int 0, .int 0, .int 0]))] sz)) 0 0 (va_A [(h0, .inr (7, [.int 0, .int 16, .int 0, .int 0, .int 0, .int 0, .int (-1), .int (-1), .int 0, .int 0, .int 0, .int 0, .int 0, .int 0, .int 0, .int 0, .ref (qa 0), .ref (qa 1), .ref (qa 2), .ref (qa 3), .int 0, .ref (qa 4), .ref (qa 5), .ref (qa 6), .ref (qa 7), .ref (qa 8), .ref (qa 9), .ref (qa 10), .ref (qa 11), .ref (qa 12), .ref (qa 13), .ref (qa 14), .ref (qa 15), .ref (qa 16), .ref (qa 17), .ref (qa 18), .ref (qa 19), .ref (qa 20), .int 0, .int 0, .int 0, .int 0, .long 0, .long 0, .long 0, .long 0, .long 0, .ref (qa 21), .int 0, .int 0, .int 0, .int 0]))] sz) := by
  refine Met.ofW (cc := b_Mo_thrown) (maxL := 1) (ret := (some .int)) (by decide) rfl ?_
  intro p e s m args below meth c s₁ B hml hv
  obtain ⟨rfl, hsz, hP, hK, hD0, hN, hZ⟩ := hv
  have hx := B.exec
  have hb := B.bytes
  have hr := B.returns
  have hlocks := B.notSynchronized
  have hts : ∀ w ∈ bw, w.before _ s = true := fun w h => atoms_spec (ws := Cond.code y_Mo_thrown b_Mo_thrown 1 (some .int) :: bw) B.pre w (List.mem_cons_of_mem _ h)
  have hown : s.vm.findClass "ObjectForgeModel" = some m.cls := findClass_of_methodNamed B.named
  subst hsz
  have hP0 := hP
  have hD := hD0.self (sz := s.heap.size)
  generalize hAe : va_A [(h0, .inr (7, [.int 0, .int 16, .int 0, .int 0, .int 0, .int 0, .int (-1), .int (-1), .int 0, .int 0, .int 0, .int 0, .int 0, .int 0, .int 0, .int 0, .ref (qa 0), .ref (qa 1), .ref (qa 2), .ref (qa 3), .int 0, .ref (qa 4), .ref (qa 5), .ref (qa 6), .ref (qa 7), .ref (qa 8), .ref (qa 9), .ref (qa 10), .ref (qa 11), .ref (qa 12), .ref (qa 13), .ref (qa 14), .ref (qa 15), .ref (qa 16), .ref (qa 17), .ref (qa 18), .ref (qa 19), .ref (qa 20), .int 0, .int 0, .int 0, .int 0, .long 0, .long 0, .long 0, .long 0, .long 0, .ref (qa 21), .int 0, .int 0, .int 0, .int 0]))] s.heap.size = A at hD hZ ⊢
  have hA : ∀ q : Nat, s.heap.size ≤ q → A q := fun q h => by rw [← hAe]; exact Or.inr h
  have hS : va_S A s.heap s.heap [] := va_S.rf
  have hl := lv_entry ([.ref h0]) (n := 1) (Nat.le_of_ble_eq_true rfl)
  rw [lg_entry_eq]
  generalize (lg_sl ([.ref h0]) ++ List.replicate (1 - (lg_sl ([.ref h0])).length) Slot.unset).toArray = ls at hl ⊢
  have hl : lv_has ls 1 [(0, .ref h0)] := hl
  refine lv_aload_n hx hb d_Mo_thrown_0 rfl (lv_at hl 0 rfl) ?_
  refine va_get (D := D) (ci := 7) (v := .int 0) (C := R_Mo) (T := F_Mo) (N := 52) hx hb hts i_Mo hown hK hP 0 rfl rfl 0 (by decide) (hts _ w_397) (fun _ h9 => h9) rfl d_Mo_thrown_1 ?_
  exact xr_i hx hb hr hlocks hP hD hK hS (()) [0] rfl rfl (by decide) [] rfl rfl d_Mo_thrown_4

set_option maxHeartbeats 4000000 in
set_option maxRecDepth 100000 in
theorem c_Mo_thrown_a (l : Launch) (D : va_G) (h0 : Nat) (qa : Nat → Nat) (sz : Nat) : Met l y_Mo_thrown (Cond.code y_Mo_thrown b_Mo_thrown 1 (some .int) :: bw) (xR 1 0 0) (va_Pc [.ref h0] (xP D [] sz [(h0, .inr (7, [.int 0, .int 0, .int 1, .int 0, .int 0, .int 0, .int (-1), .int (-1), .int 0, .int 0, .int 0, .int 0, .int 0, .int 0, .int 1, .int 0, .ref (qa 0), .ref (qa 1), .ref (qa 2), .ref (qa 3), .int 0, .ref (qa 4), .ref (qa 5), .ref (qa 6), .ref (qa 7), .ref (qa 8), .ref (qa 9), .ref (qa 10), .ref (qa 11), .ref (qa 12), .ref (qa 13), .ref (qa 14), .ref (qa 15), .ref (qa 16), .ref (qa 17), .ref (qa 18), .ref (qa 19), .ref (qa 20), .int 0, .int 0, .int 0, .int 0, .long 0, .long 0, .long 0, .long 0, .long 0, .ref (qa 21), .int 0, .int 0, .int 0, .int 0]))])) (xQ (S := Unit) (fun _ => some (.int 0)) (fun _ => [(h0, .inr (7, [.int 0, .int 0, .int 1, .int 0, .int 0, .int 0, .int (-1), .int (-1), .int 0, .int 0, .int 0, .int 0, .int 0, .int 0, .int 1, .int 0, .ref (qa 0), .ref (qa 1), .ref (qa 2), .ref (qa 3), .int 0, .ref (qa 4), .ref (qa 5), .ref (qa 6), .ref (qa 7), .ref (qa 8), .ref (qa 9), .ref (qa 10), .ref (qa 11), .ref (qa 12), .ref (qa 13), .ref (qa 14), .ref (qa 15), .ref (qa 16), .ref (qa 17), .ref (qa 18), .ref (qa 19), .ref (qa 20), .int 0, .int 0, .int 0, .int 0, .long 0, .long 0, .long 0, .long 0, .long 0, .ref (qa 21), .int 0, .int 0, .int 0, .int 0]))]) (fun _ => []) D (va_A [(h0, .inr (7, [.int 0, .int 0, .int 1, .int 0, .int 0, .int 0, .int (-1), .int (-1), .int 0, .int 0, .int 0, .int 0, .int 0, .int 0, .int 1, .int 0, .ref (qa 0), .ref (qa 1), .ref (qa 2), .ref (qa 3), .int 0, .ref (qa 4), .ref (qa 5), .ref (qa 6), .ref (qa 7), .ref (qa 8), .ref (qa 9), .ref (qa 10), .ref (qa 11), .ref (qa 12), .ref (qa 13), .ref (qa 14), .ref (qa 15), .ref (qa 16), .ref (qa 17), .ref (qa 18), .ref (qa 19), .ref (qa 20), .int 0, .int 0, .int 0, .int 0, .long 0, .long 0, .long 0, .long 0, .long 0, .ref (qa 21), .int 0, .int 0, .int 0, .int 0]))] sz)) 0 0 (va_A [(h0, .inr (7, [.int 0, .int 0, .int 1, .int 0, .int 0, .int 0, .int (-1), .int (-1), .int 0, .int 0, .int 0, .int 0, .int 0, .int 0, .int 1, .int 0, .ref (qa 0), .ref (qa 1), .ref (qa 2), .ref (qa 3), .int 0, .ref (qa 4), .ref (qa 5), .ref (qa 6), .ref (qa 7), .ref (qa 8), .ref (qa 9), .ref (qa 10), .ref (qa 11), .ref (qa 12), .ref (qa 13), .ref (qa 14), .ref (qa 15), .ref (qa 16), .ref (qa 17), .ref (qa 18), .ref (qa 19), .ref (qa 20), .int 0, .int 0, .int 0, .int 0, .long 0, .long 0, .long 0, .long 0, .long 0, .ref (qa 21), .int 0, .int 0, .int 0, .int 0]))] sz) := by
  refine Met.ofW (cc := b_Mo_thrown) (maxL := 1) (ret := (some .int)) (by decide) rfl ?_
  intro p e s m args below meth c s₁ B hml hv
  obtain ⟨rfl, hsz, hP, hK, hD0, hN, hZ⟩ := hv
  have hx := B.exec
  have hb := B.bytes
  have hr := B.returns
  have hlocks := B.notSynchronized
  have hts : ∀ w ∈ bw, w.before _ s = true := fun w h => atoms_spec (ws := Cond.code y_Mo_thrown b_Mo_thrown 1 (some .int) :: bw) B.pre w (List.mem_cons_of_mem _ h)
  have hown : s.vm.findClass "ObjectForgeModel" = some m.cls := findClass_of_methodNamed B.named
  subst hsz
  have hP0 := hP
  have hD := hD0.self (sz := s.heap.size)
  generalize hAe : va_A [(h0, .inr (7, [.int 0, .int 0, .int 1, .int 0, .int 0, .int 0, .int (-1), .int (-1), .int 0, .int 0, .int 0, .int 0, .int 0, .int 0, .int 1, .int 0, .ref (qa 0), .ref (qa 1), .ref (qa 2), .ref (qa 3), .int 0, .ref (qa 4), .ref (qa 5), .ref (qa 6), .ref (qa 7), .ref (qa 8), .ref (qa 9), .ref (qa 10), .ref (qa 11), .ref (qa 12), .ref (qa 13), .ref (qa 14), .ref (qa 15), .ref (qa 16), .ref (qa 17), .ref (qa 18), .ref (qa 19), .ref (qa 20), .int 0, .int 0, .int 0, .int 0, .long 0, .long 0, .long 0, .long 0, .long 0, .ref (qa 21), .int 0, .int 0, .int 0, .int 0]))] s.heap.size = A at hD hZ ⊢
  have hA : ∀ q : Nat, s.heap.size ≤ q → A q := fun q h => by rw [← hAe]; exact Or.inr h
  have hS : va_S A s.heap s.heap [] := va_S.rf
  have hl := lv_entry ([.ref h0]) (n := 1) (Nat.le_of_ble_eq_true rfl)
  rw [lg_entry_eq]
  generalize (lg_sl ([.ref h0]) ++ List.replicate (1 - (lg_sl ([.ref h0])).length) Slot.unset).toArray = ls at hl ⊢
  have hl : lv_has ls 1 [(0, .ref h0)] := hl
  refine lv_aload_n hx hb d_Mo_thrown_0 rfl (lv_at hl 0 rfl) ?_
  refine va_get (D := D) (ci := 7) (v := .int 0) (C := R_Mo) (T := F_Mo) (N := 52) hx hb hts i_Mo hown hK hP 0 rfl rfl 0 (by decide) (hts _ w_397) (fun _ h9 => h9) rfl d_Mo_thrown_1 ?_
  exact xr_i hx hb hr hlocks hP hD hK hS (()) [0] rfl rfl (by decide) [] rfl rfl d_Mo_thrown_4
theorem x_neg {x : Int32} (h : x < 0) : x.toInt < 0 := Int32.lt_iff_toInt_lt.mp h
theorem x_ge {x : Int32} (h : ¬ x < 0) : 0 ≤ x := Int32.not_lt.mp h
theorem x_gt {x : Int32} (h : ¬ x ≤ 4) : 4 < x.toInt := by
  have h2 : (4 : Int32) < x := Int32.not_le.mp h
  exact Int32.lt_iff_toInt_lt.mp h2
theorem x_gt3 {x : Int32} (h : 4 ≤ x) : 3 < x.toInt := by
  have h2 : (4 : Int32).toInt ≤ x.toInt := Int32.le_iff_toInt_le.mp h
  have h3 : (4 : Int32).toInt = 4 := by decide
  omega
abbrev lawW (qx qm qo : Nat) (cj : ClassId) (qa qb : Nat → Nat) (qk ql : Nat → ClassId) (uf : Nat → Option Nat) : va_W := [(qx, .inr (0, [.ref (qa 0), .ref (qa 1), .ref (qa 2), .int 0])), ((qa 0), .inr (1, [.ref (qa 3), .ref (qa 4), .int 0, .int 0, .int 0, .int 0, .int 0, .int (-1), .long 0, .int 0, .int 0, .int 0, .int 0, .int (-1), .int (-1)])), ((qa 3), .inr (4, [.ref (qa 5), .int 0, .int 0, .int 0, .ref (qa 6), .ref (qa 7), .ref (qa 8)])), ((qa 5), .inl ((qk 0), 8192, .inl (fun _ => 0))), ((qa 1), .inr (2, [.ref (qa 27), .int 0, .int 0, .int 0, .int 0, .int (-1), .int (-1)])), ((qa 4), .inr (6, [.ref (qa 9), .ref (qa 10), .ref (qa 11), .ref (qa 12), .ref (qa 13)])), ((qa 10), .inl ((qk 1), 3, .inl (fun _ => 0))), ((qa 12), .inr (5, [.ref (qa 14), .ref (qa 15), .ref (qa 16), .ref (qa 17), .ref (qa 18), .ref (qa 19), .ref (qa 20), .int 0])), ((qa 13), .inr (3, [.ref (qa 21), .ref (qa 22), .ref (qa 23), .ref (qa 24), .ref (qa 25), .ref (qa 26), .int 0])), ((qa 2), .inl ((qk 2), 8, .inr (.inr (.inr (.inr uf))))), (qm, .inr (7, [.int 0, .int 0, .int 0, .int 0, .int 0, .int 0, .int (-1), .int (-1), .int 0, .int 0, .int 0, .int 0, .int 0, .int 0, .int 0, .int 0, .ref (qb 0), .ref (qb 1), .ref (qb 2), .ref (qb 3), .int 0, .ref (qb 4), .ref (qb 5), .ref (qb 6), .ref (qb 7), .ref (qb 8), .ref (qb 9), .ref (qb 10), .ref (qb 11), .ref (qb 12), .ref (qb 13), .ref (qb 14), .ref (qb 15), .ref (qb 16), .ref (qb 17), .ref (qb 18), .ref (qb 19), .ref (qb 20), .int 0, .int 0, .int 0, .int 0, .long 0, .long 0, .long 0, .long 0, .long 0, .ref (qb 21), .int 0, .int 0, .int 0, .int 0])), ((qb 0), .inl ((ql 0), 8192, .inl (fun _ => 0))), ((qb 1), .inl ((ql 1), 24, .inl (fun _ => 0))), ((qb 2), .inl ((ql 2), 8, .inl (fun _ => 0))), ((qb 3), .inl ((ql 3), 8, .inl (fun _ => 0))), (qo, .inl (cj, 1, .inr (.inl (fun _ => 0))))]
abbrev lawT (cj : ClassId) (qk ql : Nat → ClassId) : List (ClassId × FieldType) := [((qk 0), .byte), ((qk 1), .int), ((qk 2), .object "ObjectForge$Unit"), ((ql 0), .byte), ((ql 1), .int), ((ql 2), .int), ((ql 3), .int), (cj, .long)]
theorem d_law_23 : decode code 23 = .ok (.iload 4, 2) := by decide +kernel
theorem d_law_25 : decode code 25 = .ok (.aload_n 0, 1) := by decide +kernel
theorem d_law_26 : decode code 26 = .ok (.arraylength, 1) := by decide +kernel
theorem d_law_27 : decode code 27 = .ok (.iconst 5, 1) := by decide +kernel
theorem d_law_28 : decode code 28 = .ok (.isub, 1) := by decide +kernel
theorem d_law_29 : decode code 29 = .ok (.if_icmp .gt 982, 3) := by decide +kernel
theorem d_law_1005 : decode code 1005 = .ok (.iinc 4 5, 3) := by decide +kernel
theorem d_law_1008 : decode code 1008 = .ok (.goto (-985), 3) := by decide +kernel
theorem d_law_1011 : decode code 1011 = .ok (.iconst 1, 1) := by decide +kernel
theorem d_law_1012 : decode code 1012 = .ok (.ireturn, 1) := by decide +kernel
set_option maxHeartbeats 4000000 in
set_option maxRecDepth 100000 in
/-- the law's end -/
theorem law_end {p : Program} {l : Launch} {e : Env} {s : State} {m : MethodId} {below : List Frame} {meth : Method} {c : Code} {b L : Nat} {xs : Nat → Int32} (C0 : lw_At p s m meth c b L xs) {A : Nat → Prop} (hAf : ∀ q, A q → s.heap.size ≤ q) {H : Heap} {locs : List Loc} (hS : va_S A s.heap H locs) {cells slots : Nat} (hc : cells ≤ 600002) (hs : slots ≤ 7302232) {ls : Array Slot} : W p l e room_1 s m #[Value.ref b] below meth c H locs cells slots (lw_Z below #[Value.ref b] s) (F0 m 1011 ls []) := by
  obtain ⟨hx, hb, hr, hml, hown, hts0, hX, hbl, hlocks, hgv⟩ := C0
  refine lv_iconst (v := 1) hx hb d_law_1011 (by decide) ?_
  refine va_forget (fun q hq => hAf _ (hS.2.2 q hq)) ?_
  refine W.widen (k := 600002) (n := 7302232) hc hs ?_
  exact lw_ret hx hb hr hlocks d_law_1012
set_option maxHeartbeats 4000000 in
set_option maxRecDepth 100000 in
/-- behind a call's case: the loop's step, its head, and out -/
theorem law_tail {p : Program} {l : Launch} {e : Env} {s : State} {m : MethodId} {below : List Frame} {meth : Method} {c : Code} {b : Nat} {xs : Nat → Int32} (C0 : lw_At p s m meth c b 5 xs) {A : Nat → Prop} (hA : ∀ q, s.heap.size ≤ q → A q) (hAf : ∀ q, A q → s.heap.size ≤ q) {H : Heap} {locs : List Loc} (hS : va_S A s.heap H locs) {cells slots : Nat} (hc : cells ≤ 600002) (hs : slots ≤ 7302232) {ls : Array Slot} (hl : lv_has ls 7 [(0, .ref b), (4, .int 0)]) : W p l e room_1 s m #[Value.ref b] below meth c H locs cells slots (lw_Z below #[Value.ref b] s) (F0 m 1005 ls []) := by
  obtain ⟨hx, hb, hr, hml, hown, hts0, hX, hbl, hlocks, hgv⟩ := id C0
  have hbA : ¬ A b := fun h => absurd (hAf b h) (Nat.not_le.mpr hbl)
  refine lv_iinc (v := 5) (lv' := [(4, .int 5), (0, .ref b)]) hx hb d_law_1005 hl (k := 1) rfl (by decide) (by decide) rfl (fun ls hl => ?_)
  refine lv_goto (tgt := 23) hx hb d_law_1008 (by decide) ?_
  refine lv_iload hx hb d_law_23 (lv_at hl 0 rfl) ?_
  refine lv_aload_n hx hb d_law_25 rfl (lv_at hl 1 rfl) ?_
  refine va_slen hx hb hX hbl hbA hS d_law_26 ?_
  refine lv_iconst (v := 5) hx hb d_law_27 (by decide) ?_
  refine lv_isub hx hb d_law_28 ?_
  refine lv_topi (fun z ez => ?_)
  obtain rfl : z = 0 := ez.trans (by decide)
  refine lv_icmp_gt (tgt := 1011) hx hb d_law_29 (by decide) (fun _ => ?_) (fun q9 => absurd (by decide : (0 : Int32) < 5) q9)
  exact law_end C0 hAf hS hc hs
