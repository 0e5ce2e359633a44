/-! ===== what stands at the law's entry ===== -/
theorem e_F : ∀ w ∈ xnF, w ∈ lw_tbl := by decide +kernel
theorem e_M : ∀ q ∈ xnM, Cond.methodLinkNest q.1 q.2.1 q.2.2 "ObjectForge" ∈ lw_tbl := by decide +kernel
theorem e_S : ∀ q ∈ xnS, Cond.stringRef "ObjectForge" q.1 q.2 ∈ lw_tbl := by decide +kernel
theorem e_O : Cond.arrayOver (.object "ObjectForge$Unit") ∈ lw_tbl := by decide +kernel
theorem e_B : Cond.arrayOver (.array .byte) ∈ lw_tbl := by decide +kernel
theorem e_C : Cond.arrayClass .byte ∈ lw_tbl := by decide +kernel
theorem e_Z1 : Cond.laysStatic "java/lang/Throwable" "UNASSIGNED_STACK" "[Ljava/lang/StackTraceElement;" ∈ lw_tbl := by decide +kernel
theorem e_Z2 : Cond.laysStatic "java/lang/Throwable" "SUPPRESSED_SENTINEL" "Ljava/util/List;" ∈ lw_tbl := by decide +kernel
theorem e_str {b : Nat} {s : State} (hs : (Jvm.Cond.and given_1 narrow_1).before #[Value.ref b] s = true) : ∀ q ∈ xnS, (Cond.exactly (.string "ObjectForge" q.1) "java/lang/String").before #[Value.ref b] s = true := by
  have h := flat_of_before _ hs
  intro q hq
  simp only [xnS, List.mem_cons, List.not_mem_nil, or_false] at hq
  rcases hq with rfl | rfl | rfl | rfl | rfl | rfl | rfl <;> exact h _ (by decide +kernel)
theorem e_ref {b : Nat} {s : State} (hs : (Jvm.Cond.and given_1 narrow_1).before #[Value.ref b] s = true) : (Cond.isRef (.static "java/lang/Throwable" "UNASSIGNED_STACK" "[Ljava/lang/StackTraceElement;")).before #[Value.ref b] s = true ∧ (Cond.isRef (.static "java/lang/Throwable" "SUPPRESSED_SENTINEL" "Ljava/util/List;")).before #[Value.ref b] s = true ∧ (Cond.not (.castable "java/lang/IllegalStateException" "java/lang/IllegalArgumentException")).before #[Value.ref b] s = true := by
  have h := flat_of_before _ hs
  exact ⟨h _ (by decide +kernel), h _ (by decide +kernel), h _ (by decide +kernel)⟩
theorem e_xN {b : Nat} {s : State} (hts : ∀ w ∈ lw_tbl, w.before #[Value.ref b] s = true) (hs : (Jvm.Cond.and given_1 narrow_1).before #[Value.ref b] s = true) : xN s := by
  refine ⟨fun w hw => va_tabs (xnF_face w hw).2 rfl (hts w (e_F w hw)), fun q hq => va_Nw.of rfl (hts _ (e_M q hq)), fun q hq => ?_, va_Nc.of (e_ref hs).2.2, va_AO.of (hts _ e_O), va_OA.of (hts _ e_B) (hts _ e_C)⟩
  obtain ⟨a, cB, cellB, kB, ha, -⟩ := Cond.exactly_spec (e_str hs q hq)
  exact ⟨a, vk_R.of (hts _ (e_S q hq)) ha⟩
theorem e_xZ {b : Nat} {s : State} (hts : ∀ w ∈ lw_tbl, w.before #[Value.ref b] s = true) (hs : (Jvm.Cond.and given_1 narrow_1).before #[Value.ref b] s = true) {A : Nat → Prop} (hAf : ∀ q, A q → s.heap.size ≤ q) : xZ A s s.heap := by
  obtain ⟨h1, h2, -⟩ := e_ref hs
  exact ⟨xz1.of (hts _ e_Z1) h1 (fun a ha h => absurd (hAf a h) (by omega)), xz1.of (hts _ e_Z2) h2 (fun a ha h => absurd (hAf a h) (by omega))⟩
