/-! ===== a throw of the class's own, calls of methods that throw, calls of methods with an exception table ===== -/
def xnZ : List Cond := [.laysStatic "java/lang/Throwable" "UNASSIGNED_STACK" "[Ljava/lang/StackTraceElement;", .laysStatic "java/lang/Throwable" "SUPPRESSED_SENTINEL" "Ljava/util/List;", .isRef (.static "java/lang/Throwable" "UNASSIGNED_STACK" "[Ljava/lang/StackTraceElement;"), .isRef (.static "java/lang/Throwable" "SUPPRESSED_SENTINEL" "Ljava/util/List;")]
abbrev xUp : List String := ["java/lang/RuntimeException", "java/lang/Exception"]
/-- an exception's words are among mine -/
def xOwn (ic : Nat) (X : String) : Prop := ∀ a ∈ Bundle.ownAtoms "ObjectForge" ic X xUp, a ∈ bw ∨ a ∈ xnF ∨ a ∈ xnZ
theorem xOwn.use {ic : Nat} {X : String} {args : Array Value} {s : State} {A : Nat → Prop} (h : xOwn ic X) (hts : ∀ w ∈ bw, w.before args s = true) (hN : xN s) (hZ : xZ A s s.heap) : ∀ a ∈ Bundle.ownAtoms "ObjectForge" ic X xUp, a.before args s = true := by
  intro a ha
  rcases h a ha with h1 | h1 | h1
  · exact hts a h1
  · exact va_tabs (xnF_face a h1).2 rfl (hN.1 a h1)
  · simp only [xnZ, List.mem_cons, List.not_mem_nil, or_false] at h1
    rcases h1 with rfl | rfl | rfl | rfl
    · exact hZ.1.lays
    · exact hZ.2.lays
    · exact hZ.1.isRef
    · exact hZ.2.isRef
set_option maxRecDepth 100000 in
theorem own_ioobe : xOwn 86 "java/lang/IndexOutOfBoundsException" := by unfold xOwn; decide +kernel
set_option maxRecDepth 100000 in
theorem own_iae : xOwn 58 "java/lang/IllegalArgumentException" := by unfold xOwn; decide +kernel
set_option maxRecDepth 100000 in
theorem own_ise : xOwn 47 "java/lang/IllegalStateException" := by unfold xOwn; decide +kernel
