theorem x_mask (x : Int32) : ∃ n : Nat, n < 16 ∧ x &&& 15 = Int32.ofNat n := by
  refine ⟨(x &&& 15).toBitVec.toNat, ?_, ?_⟩
  · have h : (x &&& 15).toBitVec = x.toBitVec &&& 15#32 := rfl
    rw [h, BitVec.toNat_and]
    exact Nat.lt_of_le_of_lt Nat.and_le_right (by decide)
  · apply Int32.toBitVec_inj.mp
    show _ = BitVec.ofNat 32 _
    rw [BitVec.ofNat_toNat, BitVec.setWidth_eq]
theorem x_le4 {x : Int32} (h : ¬ x < 0) (h4 : x ≤ 4) : x = 0 ∨ x = 1 ∨ x = 2 ∨ x = 3 ∨ x = 4 := by
  have h1 : (0 : Int32).toInt ≤ x.toInt := Int32.le_iff_toInt_le.mp (x_ge h)
  have h2 : x.toInt ≤ (4 : Int32).toInt := Int32.le_iff_toInt_le.mp h4
  rw [show (0 : Int32).toInt = 0 by decide] at h1
  rw [show (4 : Int32).toInt = 4 by decide] at h2
  have h3 : x.toInt = 0 ∨ x.toInt = 1 ∨ x.toInt = 2 ∨ x.toInt = 3 ∨ x.toInt = 4 := by omega
  rcases h3 with e | e | e | e | e
  · exact Or.inl (Int32.toInt_inj.mp (e.trans (by decide)))
  · exact Or.inr (Or.inl (Int32.toInt_inj.mp (e.trans (by decide))))
  · exact Or.inr (Or.inr (Or.inl (Int32.toInt_inj.mp (e.trans (by decide)))))
  · exact Or.inr (Or.inr (Or.inr (Or.inl (Int32.toInt_inj.mp (e.trans (by decide))))))
  · exact Or.inr (Or.inr (Or.inr (Or.inr (Int32.toInt_inj.mp (e.trans (by decide))))))
theorem x_small (L : Nat) (h : L < 5) : Int32.ofNat L - 5 < (0 : Int32) := by
  have : ∀ L, L < 5 → Int32.ofNat L - 5 < (0 : Int32) := by decide
  exact this L h

theorem s_end {p : Program} {l : Launch} {e : Env} {s : State} {m : MethodId} {below : List Frame} {meth : Method} {c : Code} {b : Nat} {xs : Nat → Int32} (htr : l.stackTraces = false) (C0 : lw_At p s m meth c b 5 xs) {A : Nat → Prop} (hA : ∀ q, s.heap.size ≤ q → A q) (hAf : ∀ q, A q → s.heap.size ≤ q) (hN : xN s) (hZ : xZ A s s.heap) {D : va_G} {qx qm qo : Nat} {cj : ClassId} {qa qb : Nat → Nat} {qk ql : Nat → ClassId} {uf : Nat → Option Nat} {H : Heap} {locs : List Loc} (hP : va_P D cls (lawW qx qm qo cj qa qb qk ql uf) H) (hD : va_D A (lawW qx qm qo cj qa qb qk ql uf)) (hK : va_K D cls (lawT cj qk ql) s) (hS : va_S A s.heap H locs) {ls : Array Slot} (hl : lv_has ls 7 [(4, .int 0), (3, .ref qo), (2, .ref qm), (1, .ref qx), (0, .ref b)]) : W p l e room_1 s m #[Value.ref b] below meth c H locs 223 300058 (lw_Z below #[Value.ref b] s) (F0 m 200 ls []) := by
  by_cases h0 : xs 1 = 0
  · exact l_end_0 htr C0 hA hAf hN hZ h0 hP hD hK hS hl
  by_cases h1 : xs 1 < 0
  · exact l_end_n htr C0 hA hAf hN hZ h1 hP hD hK hS hl
  by_cases h2 : 15 < xs 1
  · exact l_end_b htr C0 hA hAf hN hZ h1 h2 hP hD hK hS hl
  · exact l_end_g htr C0 hA hAf hN hZ h1 h2 (fun h => h0 (Int32.le_antisymm h (x_ge h1))) hP hD hK hS hl

theorem s_fault {p : Program} {l : Launch} {e : Env} {s : State} {m : MethodId} {below : List Frame} {meth : Method} {c : Code} {b : Nat} {xs : Nat → Int32} (htr : l.stackTraces = false) (C0 : lw_At p s m meth c b 5 xs) {A : Nat → Prop} (hA : ∀ q, s.heap.size ≤ q → A q) (hAf : ∀ q, A q → s.heap.size ≤ q) (hN : xN s) (hZ : xZ A s s.heap) {D : va_G} {qx qm qo : Nat} {cj : ClassId} {qa qb : Nat → Nat} {qk ql : Nat → ClassId} {uf : Nat → Option Nat} {H : Heap} {locs : List Loc} (hP : va_P D cls (lawW qx qm qo cj qa qb qk ql uf) H) (hD : va_D A (lawW qx qm qo cj qa qb qk ql uf)) (hK : va_K D cls (lawT cj qk ql) s) (hS : va_S A s.heap H locs) {ls : Array Slot} (hl : lv_has ls 7 [(4, .int 0), (3, .ref qo), (2, .ref qm), (1, .ref qx), (0, .ref b)]) : W p l e room_1 s m #[Value.ref b] below meth c H locs 223 300058 (lw_Z below #[Value.ref b] s) (F0 m 300 ls []) := by
  by_cases h1 : xs 1 < 0
  · exact l_fault_n htr C0 hA hAf hN hZ h1 hP hD hK hS hl
  by_cases h2 : xs 1 ≤ 4
  · rcases x_le4 h1 h2 with h0 | h0 | h0 | h0 | h0
    · exact l_fault_0 htr C0 hA hAf hN hZ h0 hP hD hK hS hl
    · exact l_fault_1 htr C0 hA hAf hN hZ h0 hP hD hK hS hl
    · exact l_fault_2 htr C0 hA hAf hN hZ h0 hP hD hK hS hl
    · exact l_fault_3 htr C0 hA hAf hN hZ h0 hP hD hK hS hl
    · exact l_fault_4 htr C0 hA hAf hN hZ h0 hP hD hK hS hl
  · exact l_fault_b htr C0 hA hAf hN hZ h1 h2 hP hD hK hS hl

theorem s_size {p : Program} {l : Launch} {e : Env} {s : State} {m : MethodId} {below : List Frame} {meth : Method} {c : Code} {b : Nat} {xs : Nat → Int32} (htr : l.stackTraces = false) (C0 : lw_At p s m meth c b 5 xs) {A : Nat → Prop} (hA : ∀ q, s.heap.size ≤ q → A q) (hAf : ∀ q, A q → s.heap.size ≤ q) (hN : xN s) (hZ : xZ A s s.heap) {D : va_G} {qx qm qo : Nat} {cj : ClassId} {qa qb : Nat → Nat} {qk ql : Nat → ClassId} {uf : Nat → Option Nat} {H : Heap} {locs : List Loc} (hP : va_P D cls (lawW qx qm qo cj qa qb qk ql uf) H) (hD : va_D A (lawW qx qm qo cj qa qb qk ql uf)) (hK : va_K D cls (lawT cj qk ql) s) (hS : va_S A s.heap H locs) {ls : Array Slot} (hl : lv_has ls 7 [(4, .int 0), (3, .ref qo), (2, .ref qm), (1, .ref qx), (0, .ref b)]) : W p l e room_1 s m #[Value.ref b] below meth c H locs 223 300058 (lw_Z below #[Value.ref b] s) (F0 m 356 ls []) := by
  by_cases hk : xs 1 < 0
  · exact l_size_n htr C0 hA hAf hN hZ hk hP hD hK hS hl
  · exact l_size_g htr C0 hA hAf hN hZ hk hP hD hK hS hl

theorem s_byteAt {p : Program} {l : Launch} {e : Env} {s : State} {m : MethodId} {below : List Frame} {meth : Method} {c : Code} {b : Nat} {xs : Nat → Int32} (htr : l.stackTraces = false) (C0 : lw_At p s m meth c b 5 xs) {A : Nat → Prop} (hA : ∀ q, s.heap.size ≤ q → A q) (hAf : ∀ q, A q → s.heap.size ≤ q) (hN : xN s) (hZ : xZ A s s.heap) {D : va_G} {qx qm qo : Nat} {cj : ClassId} {qa qb : Nat → Nat} {qk ql : Nat → ClassId} {uf : Nat → Option Nat} {H : Heap} {locs : List Loc} (hP : va_P D cls (lawW qx qm qo cj qa qb qk ql uf) H) (hD : va_D A (lawW qx qm qo cj qa qb qk ql uf)) (hK : va_K D cls (lawT cj qk ql) s) (hS : va_S A s.heap H locs) {ls : Array Slot} (hl : lv_has ls 7 [(4, .int 0), (3, .ref qo), (2, .ref qm), (1, .ref qx), (0, .ref b)]) : W p l e room_1 s m #[Value.ref b] below meth c H locs 223 300058 (lw_Z below #[Value.ref b] s) (F0 m 424 ls []) := by
  by_cases hk : xs 1 < 0
  · exact l_byteAt_n htr C0 hA hAf hN hZ hk hP hD hK hS hl
  · exact l_byteAt_g htr C0 hA hAf hN hZ hk hP hD hK hS hl

theorem s_symbol {p : Program} {l : Launch} {e : Env} {s : State} {m : MethodId} {below : List Frame} {meth : Method} {c : Code} {b : Nat} {xs : Nat → Int32} (htr : l.stackTraces = false) (C0 : lw_At p s m meth c b 5 xs) {A : Nat → Prop} (hA : ∀ q, s.heap.size ≤ q → A q) (hAf : ∀ q, A q → s.heap.size ≤ q) (hN : xN s) (hZ : xZ A s s.heap) {D : va_G} {qx qm qo : Nat} {cj : ClassId} {qa qb : Nat → Nat} {qk ql : Nat → ClassId} {uf : Nat → Option Nat} {H : Heap} {locs : List Loc} (hP : va_P D cls (lawW qx qm qo cj qa qb qk ql uf) H) (hD : va_D A (lawW qx qm qo cj qa qb qk ql uf)) (hK : va_K D cls (lawT cj qk ql) s) (hS : va_S A s.heap H locs) {ls : Array Slot} (hl : lv_has ls 7 [(4, .int 0), (3, .ref qo), (2, .ref qm), (1, .ref qx), (0, .ref b)]) : W p l e room_1 s m #[Value.ref b] below meth c H locs 223 300058 (lw_Z below #[Value.ref b] s) (F0 m 504 ls []) := by
  by_cases hk : xs 1 < 0
  · exact l_symbol_n htr C0 hA hAf hN hZ hk hP hD hK hS hl
  · exact l_symbol_g htr C0 hA hAf hN hZ hk hP hD hK hS hl

theorem s_letter {p : Program} {l : Launch} {e : Env} {s : State} {m : MethodId} {below : List Frame} {meth : Method} {c : Code} {b : Nat} {xs : Nat → Int32} (htr : l.stackTraces = false) (C0 : lw_At p s m meth c b 5 xs) {A : Nat → Prop} (hA : ∀ q, s.heap.size ≤ q → A q) (hAf : ∀ q, A q → s.heap.size ≤ q) (hN : xN s) (hZ : xZ A s s.heap) {D : va_G} {qx qm qo : Nat} {cj : ClassId} {qa qb : Nat → Nat} {qk ql : Nat → ClassId} {uf : Nat → Option Nat} {H : Heap} {locs : List Loc} (hP : va_P D cls (lawW qx qm qo cj qa qb qk ql uf) H) (hD : va_D A (lawW qx qm qo cj qa qb qk ql uf)) (hK : va_K D cls (lawT cj qk ql) s) (hS : va_S A s.heap H locs) {ls : Array Slot} (hl : lv_has ls 7 [(4, .int 0), (3, .ref qo), (2, .ref qm), (1, .ref qx), (0, .ref b)]) : W p l e room_1 s m #[Value.ref b] below meth c H locs 223 300058 (lw_Z below #[Value.ref b] s) (F0 m 584 ls []) := by
  by_cases hk : xs 1 < 0
  · exact l_letter_n htr C0 hA hAf hN hZ hk hP hD hK hS hl
  · exact l_letter_g htr C0 hA hAf hN hZ hk hP hD hK hS hl

theorem s_relocation {p : Program} {l : Launch} {e : Env} {s : State} {m : MethodId} {below : List Frame} {meth : Method} {c : Code} {b : Nat} {xs : Nat → Int32} (htr : l.stackTraces = false) (C0 : lw_At p s m meth c b 5 xs) {A : Nat → Prop} (hA : ∀ q, s.heap.size ≤ q → A q) (hAf : ∀ q, A q → s.heap.size ≤ q) (hN : xN s) (hZ : xZ A s s.heap) {D : va_G} {qx qm qo : Nat} {cj : ClassId} {qa qb : Nat → Nat} {qk ql : Nat → ClassId} {uf : Nat → Option Nat} {H : Heap} {locs : List Loc} (hP : va_P D cls (lawW qx qm qo cj qa qb qk ql uf) H) (hD : va_D A (lawW qx qm qo cj qa qb qk ql uf)) (hK : va_K D cls (lawT cj qk ql) s) (hS : va_S A s.heap H locs) {ls : Array Slot} (hl : lv_has ls 7 [(4, .int 0), (3, .ref qo), (2, .ref qm), (1, .ref qx), (0, .ref b)]) : W p l e room_1 s m #[Value.ref b] below meth c H locs 223 300058 (lw_Z below #[Value.ref b] s) (F0 m 664 ls []) := by
  by_cases hk : xs 1 < 0
  · exact l_relocation_n htr C0 hA hAf hN hZ hk hP hD hK hS hl
  · exact l_relocation_g htr C0 hA hAf hN hZ hk hP hD hK hS hl

theorem s_address {p : Program} {l : Launch} {e : Env} {s : State} {m : MethodId} {below : List Frame} {meth : Method} {c : Code} {b : Nat} {xs : Nat → Int32} (htr : l.stackTraces = false) (C0 : lw_At p s m meth c b 5 xs) {A : Nat → Prop} (hA : ∀ q, s.heap.size ≤ q → A q) (hAf : ∀ q, A q → s.heap.size ≤ q) (hN : xN s) (hZ : xZ A s s.heap) {D : va_G} {qx qm qo : Nat} {cj : ClassId} {qa qb : Nat → Nat} {qk ql : Nat → ClassId} {uf : Nat → Option Nat} {H : Heap} {locs : List Loc} (hP : va_P D cls (lawW qx qm qo cj qa qb qk ql uf) H) (hD : va_D A (lawW qx qm qo cj qa qb qk ql uf)) (hK : va_K D cls (lawT cj qk ql) s) (hS : va_S A s.heap H locs) {ls : Array Slot} (hl : lv_has ls 7 [(4, .int 0), (3, .ref qo), (2, .ref qm), (1, .ref qx), (0, .ref b)]) : W p l e room_1 s m #[Value.ref b] below meth c H locs 223 300058 (lw_Z below #[Value.ref b] s) (F0 m 856 ls []) := by
  by_cases hk : xs 1 < 0
  · exact l_address_n htr C0 hA hAf hN hZ hk hP hD hK hS hl
  · exact l_address_g htr C0 hA hAf hN hZ hk hP hD hK hS hl

theorem s_link {p : Program} {l : Launch} {e : Env} {s : State} {m : MethodId} {below : List Frame} {meth : Method} {c : Code} {b : Nat} {xs : Nat → Int32} (htr : l.stackTraces = false) (C0 : lw_At p s m meth c b 5 xs) {A : Nat → Prop} (hA : ∀ q, s.heap.size ≤ q → A q) (hAf : ∀ q, A q → s.heap.size ≤ q) (hN : xN s) (hZ : xZ A s s.heap) {D : va_G} {qx qm qo : Nat} {cj : ClassId} {qa qb : Nat → Nat} {qk ql : Nat → ClassId} {uf : Nat → Option Nat} {H : Heap} {locs : List Loc} (hP : va_P D cls (lawW qx qm qo cj qa qb qk ql uf) H) (hD : va_D A (lawW qx qm qo cj qa qb qk ql uf)) (hK : va_K D cls (lawT cj qk ql) s) (hS : va_S A s.heap H locs) {ls : Array Slot} (hl : lv_has ls 7 [(4, .int 0), (3, .ref qo), (2, .ref qm), (1, .ref qx), (0, .ref b)]) : W p l e room_1 s m #[Value.ref b] below meth c H locs 223 300058 (lw_Z below #[Value.ref b] s) (F0 m 744 ls []) := by
  by_cases h1 : (xs 1 &&& 7) = 0
  · exact l_link_2 htr C0 hA hAf hN hZ h1 hP hD hK hS hl
  · exact l_link_1 htr C0 hA hAf hN hZ h1 hP hD hK hS hl

theorem s_count {p : Program} {l : Launch} {e : Env} {s : State} {m : MethodId} {below : List Frame} {meth : Method} {c : Code} {b : Nat} {xs : Nat → Int32} (htr : l.stackTraces = false) (C0 : lw_At p s m meth c b 5 xs) {A : Nat → Prop} (hA : ∀ q, s.heap.size ≤ q → A q) (hAf : ∀ q, A q → s.heap.size ≤ q) (hN : xN s) (hZ : xZ A s s.heap) {D : va_G} {qx qm qo : Nat} {cj : ClassId} {qa qb : Nat → Nat} {qk ql : Nat → ClassId} {uf : Nat → Option Nat} {H : Heap} {locs : List Loc} (hP : va_P D cls (lawW qx qm qo cj qa qb qk ql uf) H) (hD : va_D A (lawW qx qm qo cj qa qb qk ql uf)) (hK : va_K D cls (lawT cj qk ql) s) (hS : va_S A s.heap H locs) {ls : Array Slot} (hl : lv_has ls 7 [(4, .int 0), (3, .ref qo), (2, .ref qm), (1, .ref qx), (0, .ref b)]) : W p l e room_1 s m #[Value.ref b] below meth c H locs 223 300058 (lw_Z below #[Value.ref b] s) (F0 m 937 ls []) := by
  by_cases h1 : xs 1 < 0
  · exact l_count_n htr C0 hA hAf hN hZ h1 hP hD hK hS hl
  by_cases h2 : 4 ≤ xs 1
  · exact l_count_b htr C0 hA hAf hN hZ h1 h2 hP hD hK hS hl
  · have h3 : xs 1 ≤ 4 := Int32.le_of_lt (Int32.not_le.mp h2)
    by_cases hk : xs 2 < 0
    · rcases x_le4 h1 h3 with h0 | h0 | h0 | h0 | h0
      · exact l_count_0 htr C0 hA hAf hN hZ h0 hP hD hK hS hl
      · exact l_count_1 htr C0 hA hAf hN hZ h0 hP hD hK hS hl
      · exact l_count_2_n htr C0 hA hAf hN hZ h0 hk hP hD hK hS hl
      · exact l_count_3_n htr C0 hA hAf hN hZ h0 hk hP hD hK hS hl
      · exact absurd (by rw [h0]; decide) h2
    · rcases x_le4 h1 h3 with h0 | h0 | h0 | h0 | h0
      · exact l_count_0 htr C0 hA hAf hN hZ h0 hP hD hK hS hl
      · exact l_count_1 htr C0 hA hAf hN hZ h0 hP hD hK hS hl
      · exact l_count_2_g htr C0 hA hAf hN hZ h0 hk hP hD hK hS hl
      · exact l_count_3_g htr C0 hA hAf hN hZ h0 hk hP hD hK hS hl
      · exact absurd (by rw [h0]; decide) h2

theorem d_law_32 : decode code 32 = .ok (.aload_n 0, 1) := by decide +kernel
theorem d_law_33 : decode code 33 = .ok (.iload 4, 2) := by decide +kernel
theorem d_law_35 : decode code 35 = .ok (.iaload, 1) := by decide +kernel
theorem d_law_36 : decode code 36 = .ok (.bipush 15, 2) := by decide +kernel
theorem d_law_38 : decode code 38 = .ok (.iand, 1) := by decide +kernel
theorem d_law_39 : decode code 39 = .ok (.tableswitch 966 0 13 #[69, 161, 217, 261, 317, 385, 465, 545, 625, 705, 761, 817, 885, 898], 69) := by decide +kernel
set_option maxHeartbeats 4000000 in
set_option maxRecDepth 100000 in
/-- one call: the switch -/
theorem s_switch {p : Program} {l : Launch} {e : Env} {s : State} {m : MethodId} {below : List Frame} {meth : Method} {c : Code} {b : Nat} {xs : Nat → Int32} (htr : l.stackTraces = false) (C0 : lw_At p s m meth c b 5 xs) {A : Nat → Prop} (hA : ∀ q, s.heap.size ≤ q → A q) (hAf : ∀ q, A q → s.heap.size ≤ q) (hN : xN s) (hZ : xZ A s s.heap) {D : va_G} {qx qm qo : Nat} {cj : ClassId} {qa qb : Nat → Nat} {qk ql : Nat → ClassId} {uf : Nat → Option Nat} {H : Heap} {locs : List Loc} (hP : va_P D cls (lawW qx qm qo cj qa qb qk ql uf) H) (hD : va_D A (lawW qx qm qo cj qa qb qk ql uf)) (hK : va_K D cls (lawT cj qk ql) s) (hS : va_S A s.heap H locs) {ls : Array Slot} (hl : lv_has ls 7 [(4, .int 0), (3, .ref qo), (2, .ref qm), (1, .ref qx), (0, .ref b)]) : W p l e room_1 s m #[Value.ref b] below meth c H locs 223 300058 (lw_Z below #[Value.ref b] s) (F0 m 32 ls []) := by
  obtain ⟨hx, hb, hr, hml, hown, hts0, hX, hbl, hlocks, hgv⟩ := id C0
  have hbA : ¬ A b := fun h => absurd (hAf b h) (Nat.not_le.mpr hbl)
  refine lv_aload_n hx hb d_law_32 rfl (lv_at hl 4 rfl) ?_
  refine lv_iload hx hb d_law_33 (lv_at hl 0 rfl) ?_
  refine va_sld hx hb hX hbl hbA hS (by unfold vp_in; decide) d_law_35 ?_
  refine lv_bipush (v := 15) hx hb d_law_36 (by decide) ?_
  refine lv_iand hx hb d_law_38 ?_
  refine lv_topi (fun z ez => ?_)
  obtain ⟨n, hn, en⟩ := x_mask (xs (0 : Int32).toNatClampNeg)
  obtain rfl : z = Int32.ofNat n := ez.trans en
  clear ez en
  have h16 : n = 0 ∨ n = 1 ∨ n = 2 ∨ n = 3 ∨ n = 4 ∨ n = 5 ∨ n = 6 ∨ n = 7 ∨ n = 8 ∨ n = 9 ∨ n = 10 ∨ n = 11 ∨ n = 12 ∨ n = 13 ∨ n = 14 ∨ n = 15 := by omega
  rcases h16 with rfl | rfl | rfl | rfl | rfl | rfl | rfl | rfl | rfl | rfl | rfl | rfl | rfl | rfl | rfl | rfl
  · refine lv_tableIn (off := 69) (tgt := 108) hx hb d_law_39 (by decide) (by decide) (by decide) (by decide) ?_
    exact l_feed htr C0 hA hAf hN hZ hP hD hK hS hl
  · refine lv_tableIn (off := 161) (tgt := 200) hx hb d_law_39 (by decide) (by decide) (by decide) (by decide) ?_
    exact s_end htr C0 hA hAf hN hZ hP hD hK hS hl
  · refine lv_tableIn (off := 217) (tgt := 256) hx hb d_law_39 (by decide) (by decide) (by decide) (by decide) ?_
    exact l_assemble htr C0 hA hAf hN hZ hP hD hK hS hl
  · refine lv_tableIn (off := 261) (tgt := 300) hx hb d_law_39 (by decide) (by decide) (by decide) (by decide) ?_
    exact s_fault htr C0 hA hAf hN hZ hP hD hK hS hl
  · refine lv_tableIn (off := 317) (tgt := 356) hx hb d_law_39 (by decide) (by decide) (by decide) (by decide) ?_
    exact s_size htr C0 hA hAf hN hZ hP hD hK hS hl
  · refine lv_tableIn (off := 385) (tgt := 424) hx hb d_law_39 (by decide) (by decide) (by decide) (by decide) ?_
    exact s_byteAt htr C0 hA hAf hN hZ hP hD hK hS hl
  · refine lv_tableIn (off := 465) (tgt := 504) hx hb d_law_39 (by decide) (by decide) (by decide) (by decide) ?_
    exact s_symbol htr C0 hA hAf hN hZ hP hD hK hS hl
  · refine lv_tableIn (off := 545) (tgt := 584) hx hb d_law_39 (by decide) (by decide) (by decide) (by decide) ?_
    exact s_letter htr C0 hA hAf hN hZ hP hD hK hS hl
  · refine lv_tableIn (off := 625) (tgt := 664) hx hb d_law_39 (by decide) (by decide) (by decide) (by decide) ?_
    exact s_relocation htr C0 hA hAf hN hZ hP hD hK hS hl
  · refine lv_tableIn (off := 705) (tgt := 744) hx hb d_law_39 (by decide) (by decide) (by decide) (by decide) ?_
    exact s_link htr C0 hA hAf hN hZ hP hD hK hS hl
  · refine lv_tableIn (off := 761) (tgt := 800) hx hb d_law_39 (by decide) (by decide) (by decide) (by decide) ?_
    exact l_word htr C0 hA hAf hN hZ hP hD hK hS hl
  · refine lv_tableIn (off := 817) (tgt := 856) hx hb d_law_39 (by decide) (by decide) (by decide) (by decide) ?_
    exact s_address htr C0 hA hAf hN hZ hP hD hK hS hl
  · refine lv_tableIn (off := 885) (tgt := 924) hx hb d_law_39 (by decide) (by decide) (by decide) (by decide) ?_
    exact l_clear htr C0 hA hAf hN hZ hP hD hK hS hl
  · refine lv_tableIn (off := 898) (tgt := 937) hx hb d_law_39 (by decide) (by decide) (by decide) (by decide) ?_
    exact s_count htr C0 hA hAf hN hZ hP hD hK hS hl
  · refine lv_tableOut (tgt := 1005) hx hb d_law_39 (by decide) (by decide) ?_
    exact law_tail C0 hA hAf hS (Nat.le_of_ble_eq_true rfl) (Nat.le_of_ble_eq_true rfl) (lv_sub hl [4, 0] rfl)
  · refine lv_tableOut (tgt := 1005) hx hb d_law_39 (by decide) (by decide) ?_
    exact law_tail C0 hA hAf hS (Nat.le_of_ble_eq_true rfl) (Nat.le_of_ble_eq_true rfl) (lv_sub hl [4, 0] rfl)

set_option maxHeartbeats 4000000 in
set_option maxRecDepth 100000 in
/-- the loop's head, with nothing read yet -/
theorem s_head {p : Program} {l : Launch} {e : Env} {s : State} {m : MethodId} {below : List Frame} {meth : Method} {c : Code} {b L : Nat} {xs : Nat → Int32} (htr : l.stackTraces = false) (C0 : lw_At p s m meth c b L xs) {A : Nat → Prop} (hA : ∀ q, s.heap.size ≤ q → A q) (hAf : ∀ q, A q → s.heap.size ≤ q) (hN : xN s) (hZ : xZ A s s.heap) {D : va_G} {qx qm qo : Nat} {cj : ClassId} {qa qb : Nat → Nat} {qk ql : Nat → ClassId} {uf : Nat → Option Nat} {H : Heap} {locs : List Loc} (hL : L ≤ 5) (hP : va_P D cls (lawW qx qm qo cj qa qb qk ql uf) H) (hD : va_D A (lawW qx qm qo cj qa qb qk ql uf)) (hK : va_K D cls (lawT cj qk ql) s) (hS : va_S A s.heap H locs) {ls : Array Slot} (hl : lv_has ls 7 [(4, .int 0), (3, .ref qo), (2, .ref qm), (1, .ref qx), (0, .ref b)]) : W p l e room_1 s m #[Value.ref b] below meth c H locs 223 300058 (lw_Z below #[Value.ref b] s) (F0 m 23 ls []) := by
  obtain ⟨hx, hb, hr, hml, hown, hts0, hX, hbl, hlocks, hgv⟩ := id C0
  have hbA : ¬ A b := fun h => absurd (hAf b h) (Nat.not_le.mpr hbl)
  refine lv_iload hx hb d_law_23 (lv_at hl 0 rfl) ?_
  refine lv_aload_n hx hb d_law_25 rfl (lv_at hl 4 rfl) ?_
  refine va_slen hx hb hX hbl hbA hS d_law_26 ?_
  refine lv_iconst (v := 5) hx hb d_law_27 (by decide) ?_
  refine lv_isub hx hb d_law_28 ?_
  rcases (show L < 5 ∨ L = 5 by omega) with h | h
  · refine lv_icmp_gt (tgt := 1011) hx hb d_law_29 (by decide) (fun _ => ?_) (fun q9 => absurd (x_small L h) q9)
    exact law_end C0 hAf hS (Nat.le_of_ble_eq_true rfl) (Nat.le_of_ble_eq_true rfl)
  · subst h
    refine lv_icmp_gt (tgt := 1011) hx hb d_law_29 (by decide) (fun q9 => absurd q9 (by decide)) (fun _ => ?_)
    exact s_switch htr C0 hA hAf hN hZ hP hD hK hS hl
