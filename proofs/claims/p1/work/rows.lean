section
/-! ===== names, fields, words ===== -/
def R_OF : String := "ObjectForge"
def F_OF : u_T := fun k => match k with
  | 0 => ("ObjectForge", "assembler", "LObjectForge$Assembler;", true)
  | 1 => ("ObjectForge", "linker", "LObjectForge$Linker;", true)
  | 2 => ("ObjectForge", "units", "[LObjectForge$Unit;", true)
  | _ => ("ObjectForge", "unitCount", "I", false)
def t_OF : Nat → FieldType := fun k => match k with
  | 0 => .object "ObjectForge$Assembler"
  | 1 => .object "ObjectForge$Linker"
  | 2 => .array (.object "ObjectForge$Unit")
  | _ => .int
theorem n_OF : ∀ a, a < 4 → ∀ b, b < 4 → a ≠ b → (F_OF a).2.1 ≠ (F_OF b).2.1 := by decide +kernel
theorem t_OF_ok : ∀ k, k < 4 → parseFieldDescriptor (F_OF k).2.2.1 = some (t_OF k) := by decide +kernel
def R_As : String := "ObjectForge$Assembler"
def F_As : u_T := fun k => match k with
  | 0 => ("ObjectForge$Assembler", "source", "LObjectForge$Source;", true)
  | 1 => ("ObjectForge$Assembler", "draft", "LObjectForge$Unit;", false)
  | 2 => ("ObjectForge$Assembler", "fault", "I", false)
  | 3 => ("ObjectForge$Assembler", "faultLine", "I", false)
  | 4 => ("ObjectForge$Assembler", "line", "I", false)
  | 5 => ("ObjectForge$Assembler", "section", "I", false)
  | 6 => ("ObjectForge$Assembler", "cursor", "I", false)
  | 7 => ("ObjectForge$Assembler", "nameToken", "I", false)
  | 8 => ("ObjectForge$Assembler", "number", "J", false)
  | 9 => ("ObjectForge$Assembler", "half", "I", false)
  | 10 => ("ObjectForge$Assembler", "sources", "I", false)
  | 11 => ("ObjectForge$Assembler", "others", "I", false)
  | 12 => ("ObjectForge$Assembler", "reference", "I", false)
  | 13 => ("ObjectForge$Assembler", "upperHolder", "I", false)
  | _ => ("ObjectForge$Assembler", "symbolNumber", "I", false)
def t_As : Nat → FieldType := fun k => match k with
  | 0 => .object "ObjectForge$Source"
  | 1 => .object "ObjectForge$Unit"
  | 2 => .int
  | 3 => .int
  | 4 => .int
  | 5 => .int
  | 6 => .int
  | 7 => .int
  | 8 => .long
  | 9 => .int
  | 10 => .int
  | 11 => .int
  | 12 => .int
  | 13 => .int
  | _ => .int
theorem n_As : ∀ a, a < 15 → ∀ b, b < 15 → a ≠ b → (F_As a).2.1 ≠ (F_As b).2.1 := by decide +kernel
theorem t_As_ok : ∀ k, k < 15 → parseFieldDescriptor (F_As k).2.2.1 = some (t_As k) := by decide +kernel
def R_Li : String := "ObjectForge$Linker"
def F_Li : u_T := fun k => match k with
  | 0 => ("ObjectForge$Linker", "image", "[B", true)
  | 1 => ("ObjectForge$Linker", "base", "I", false)
  | 2 => ("ObjectForge$Linker", "imageSize", "I", false)
  | 3 => ("ObjectForge$Linker", "joined", "I", false)
  | 4 => ("ObjectForge$Linker", "fault", "I", false)
  | 5 => ("ObjectForge$Linker", "faultObject", "I", false)
  | _ => ("ObjectForge$Linker", "faultItem", "I", false)
def t_Li : Nat → FieldType := fun k => match k with
  | 0 => .array .byte
  | 1 => .int
  | 2 => .int
  | 3 => .int
  | 4 => .int
  | 5 => .int
  | _ => .int
theorem n_Li : ∀ a, a < 7 → ∀ b, b < 7 → a ≠ b → (F_Li a).2.1 ≠ (F_Li b).2.1 := by decide +kernel
theorem t_Li_ok : ∀ k, k < 7 → parseFieldDescriptor (F_Li k).2.2.1 = some (t_Li k) := by decide +kernel
def R_Re : String := "ObjectForge$Relocations"
def F_Re : u_T := fun k => match k with
  | 0 => ("ObjectForge$Relocations", "sections", "[I", true)
  | 1 => ("ObjectForge$Relocations", "places", "[I", true)
  | 2 => ("ObjectForge$Relocations", "kinds", "[I", true)
  | 3 => ("ObjectForge$Relocations", "symbols", "[I", true)
  | 4 => ("ObjectForge$Relocations", "addends", "[J", true)
  | 5 => ("ObjectForge$Relocations", "lines", "[I", true)
  | _ => ("ObjectForge$Relocations", "number", "I", false)
def t_Re : Nat → FieldType := fun k => match k with
  | 0 => .array .int
  | 1 => .array .int
  | 2 => .array .int
  | 3 => .array .int
  | 4 => .array .long
  | 5 => .array .int
  | _ => .int
theorem n_Re : ∀ a, a < 7 → ∀ b, b < 7 → a ≠ b → (F_Re a).2.1 ≠ (F_Re b).2.1 := by decide +kernel
theorem t_Re_ok : ∀ k, k < 7 → parseFieldDescriptor (F_Re k).2.2.1 = some (t_Re k) := by decide +kernel
def R_So : String := "ObjectForge$Source"
def F_So : u_T := fun k => match k with
  | 0 => ("ObjectForge$Source", "bytes", "[B", true)
  | 1 => ("ObjectForge$Source", "length", "I", false)
  | 2 => ("ObjectForge$Source", "tokens", "I", false)
  | 3 => ("ObjectForge$Source", "lineEnd", "I", false)
  | 4 => ("ObjectForge$Source", "kinds", "[I", true)
  | 5 => ("ObjectForge$Source", "starts", "[I", true)
  | _ => ("ObjectForge$Source", "values", "[I", true)
def t_So : Nat → FieldType := fun k => match k with
  | 0 => .array .byte
  | 1 => .int
  | 2 => .int
  | 3 => .int
  | 4 => .array .int
  | 5 => .array .int
  | _ => .array .int
theorem n_So : ∀ a, a < 7 → ∀ b, b < 7 → a ≠ b → (F_So a).2.1 ≠ (F_So b).2.1 := by decide +kernel
theorem t_So_ok : ∀ k, k < 7 → parseFieldDescriptor (F_So k).2.2.1 = some (t_So k) := by decide +kernel
def R_Sy : String := "ObjectForge$Symbols"
def F_Sy : u_T := fun k => match k with
  | 0 => ("ObjectForge$Symbols", "names", "[B", true)
  | 1 => ("ObjectForge$Symbols", "lengths", "[I", true)
  | 2 => ("ObjectForge$Symbols", "sections", "[I", true)
  | 3 => ("ObjectForge$Symbols", "values", "[I", true)
  | 4 => ("ObjectForge$Symbols", "globals", "[Z", true)
  | 5 => ("ObjectForge$Symbols", "addresses", "[I", true)
  | 6 => ("ObjectForge$Symbols", "sums", "[I", true)
  | _ => ("ObjectForge$Symbols", "number", "I", false)
def t_Sy : Nat → FieldType := fun k => match k with
  | 0 => .array .byte
  | 1 => .array .int
  | 2 => .array .int
  | 3 => .array .int
  | 4 => .array .boolean
  | 5 => .array .int
  | 6 => .array .int
  | _ => .int
theorem n_Sy : ∀ a, a < 8 → ∀ b, b < 8 → a ≠ b → (F_Sy a).2.1 ≠ (F_Sy b).2.1 := by decide +kernel
theorem t_Sy_ok : ∀ k, k < 8 → parseFieldDescriptor (F_Sy k).2.2.1 = some (t_Sy k) := by decide +kernel
def R_Un : String := "ObjectForge$Unit"
def F_Un : u_T := fun k => match k with
  | 0 => ("ObjectForge$Unit", "bytes", "[[B", true)
  | 1 => ("ObjectForge$Unit", "sizes", "[I", true)
  | 2 => ("ObjectForge$Unit", "starts", "[I", true)
  | 3 => ("ObjectForge$Unit", "symbols", "LObjectForge$Symbols;", true)
  | _ => ("ObjectForge$Unit", "relocations", "LObjectForge$Relocations;", true)
def t_Un : Nat → FieldType := fun k => match k with
  | 0 => .array (.array .byte)
  | 1 => .array .int
  | 2 => .array .int
  | 3 => .object "ObjectForge$Symbols"
  | _ => .object "ObjectForge$Relocations"
theorem n_Un : ∀ a, a < 5 → ∀ b, b < 5 → a ≠ b → (F_Un a).2.1 ≠ (F_Un b).2.1 := by decide +kernel
theorem t_Un_ok : ∀ k, k < 5 → parseFieldDescriptor (F_Un k).2.2.1 = some (t_Un k) := by decide +kernel
def R_Mo : String := "ObjectForgeModel"
def F_Mo : u_T := fun k => match k with
  | 0 => ("ObjectForgeModel", "thrown", "I", false)
  | 1 => ("ObjectForgeModel", "length", "I", false)
  | 2 => ("ObjectForgeModel", "objects", "I", false)
  | 3 => ("ObjectForgeModel", "fault", "I", false)
  | 4 => ("ObjectForgeModel", "faultLine", "I", false)
  | 5 => ("ObjectForgeModel", "linkFault", "I", false)
  | 6 => ("ObjectForgeModel", "linkObject", "I", false)
  | 7 => ("ObjectForgeModel", "linkWhich", "I", false)
  | 8 => ("ObjectForgeModel", "hasImage", "Z", false)
  | 9 => ("ObjectForgeModel", "base", "I", false)
  | 10 => ("ObjectForgeModel", "imageSize", "I", false)
  | 11 => ("ObjectForgeModel", "at", "I", false)
  | 12 => ("ObjectForgeModel", "stop", "I", false)
  | 13 => ("ObjectForgeModel", "kind", "I", false)
  | 14 => ("ObjectForgeModel", "line", "I", false)
  | 15 => ("ObjectForgeModel", "here", "I", false)
  | 16 => ("ObjectForgeModel", "text", "[B", true)
  | 17 => ("ObjectForgeModel", "sizes", "[I", true)
  | 18 => ("ObjectForgeModel", "symbolCount", "[I", true)
  | 19 => ("ObjectForgeModel", "referenceCount", "[I", true)
  | 20 => ("ObjectForgeModel", "linked", "I", false)
  | 21 => ("ObjectForgeModel", "bytes", "[B", true)
  | 22 => ("ObjectForgeModel", "nameA", "[J", true)
  | 23 => ("ObjectForgeModel", "nameB", "[J", true)
  | 24 => ("ObjectForgeModel", "nameC", "[J", true)
  | 25 => ("ObjectForgeModel", "nameLength", "[I", true)
  | 26 => ("ObjectForgeModel", "section", "[I", true)
  | 27 => ("ObjectForgeModel", "value", "[I", true)
  | 28 => ("ObjectForgeModel", "global", "[Z", true)
  | 29 => ("ObjectForgeModel", "refSection", "[I", true)
  | 30 => ("ObjectForgeModel", "refPlace", "[I", true)
  | 31 => ("ObjectForgeModel", "refKind", "[I", true)
  | 32 => ("ObjectForgeModel", "refSymbol", "[I", true)
  | 33 => ("ObjectForgeModel", "refAddend", "[I", true)
  | 34 => ("ObjectForgeModel", "refLine", "[I", true)
  | 35 => ("ObjectForgeModel", "image", "[B", true)
  | 36 => ("ObjectForgeModel", "starts", "[I", true)
  | 37 => ("ObjectForgeModel", "addresses", "[I", true)
  | 38 => ("ObjectForgeModel", "sign", "I", false)
  | 39 => ("ObjectForgeModel", "register", "I", false)
  | 40 => ("ObjectForgeModel", "nameSize", "I", false)
  | 41 => ("ObjectForgeModel", "stringSize", "I", false)
  | 42 => ("ObjectForgeModel", "number", "J", false)
  | 43 => ("ObjectForgeModel", "code", "J", false)
  | 44 => ("ObjectForgeModel", "first", "J", false)
  | 45 => ("ObjectForgeModel", "second", "J", false)
  | 46 => ("ObjectForgeModel", "third", "J", false)
  | 47 => ("ObjectForgeModel", "string", "[B", true)
  | 48 => ("ObjectForgeModel", "whose", "I", false)
  | 49 => ("ObjectForgeModel", "more", "I", false)
  | 50 => ("ObjectForgeModel", "half", "I", false)
  | _ => ("ObjectForgeModel", "halfKind", "I", false)
def t_Mo : Nat → FieldType := fun k => match k with
  | 0 => .int
  | 1 => .int
  | 2 => .int
  | 3 => .int
  | 4 => .int
  | 5 => .int
  | 6 => .int
  | 7 => .int
  | 8 => .boolean
  | 9 => .int
  | 10 => .int
  | 11 => .int
  | 12 => .int
  | 13 => .int
  | 14 => .int
  | 15 => .int
  | 16 => .array .byte
  | 17 => .array .int
  | 18 => .array .int
  | 19 => .array .int
  | 20 => .int
  | 21 => .array .byte
  | 22 => .array .long
  | 23 => .array .long
  | 24 => .array .long
  | 25 => .array .int
  | 26 => .array .int
  | 27 => .array .int
  | 28 => .array .boolean
  | 29 => .array .int
  | 30 => .array .int
  | 31 => .array .int
  | 32 => .array .int
  | 33 => .array .int
  | 34 => .array .int
  | 35 => .array .byte
  | 36 => .array .int
  | 37 => .array .int
  | 38 => .int
  | 39 => .int
  | 40 => .int
  | 41 => .int
  | 42 => .long
  | 43 => .long
  | 44 => .long
  | 45 => .long
  | 46 => .long
  | 47 => .array .byte
  | 48 => .int
  | 49 => .int
  | 50 => .int
  | _ => .int
theorem n_Mo : ∀ a, a < 52 → ∀ b, b < 52 → a ≠ b → (F_Mo a).2.1 ≠ (F_Mo b).2.1 := by decide +kernel
theorem t_Mo_ok : ∀ k, k < 52 → parseFieldDescriptor (F_Mo k).2.2.1 = some (t_Mo k) := by decide +kernel
abbrev cls : List vw_C := [(R_OF, F_OF, 4), (R_As, F_As, 15), (R_Li, F_Li, 7), (R_Re, F_Re, 7), (R_So, F_So, 7), (R_Sy, F_Sy, 8), (R_Un, F_Un, 5), (R_Mo, F_Mo, 52)]
def y_OF_init : MethodName := ⟨"ObjectForge", "<init>", "()V"⟩
abbrev b_OF_init : ByteArray := prog_1_method_1_code
def y_OF_feed : MethodName := ⟨"ObjectForge", "feed", "(IIII)I"⟩
abbrev b_OF_feed : ByteArray := prog_1_method_2_code
def y_OF_end : MethodName := ⟨"ObjectForge", "end", "(I)I"⟩
abbrev b_OF_end : ByteArray := prog_1_method_3_code
def y_OF_assemble : MethodName := ⟨"ObjectForge", "assemble", "()I"⟩
abbrev b_OF_assemble : ByteArray := prog_1_method_4_code
def y_OF_fault : MethodName := ⟨"ObjectForge", "fault", "(I)I"⟩
abbrev b_OF_fault : ByteArray := prog_1_method_5_code
def y_OF_size : MethodName := ⟨"ObjectForge", "size", "(II)I"⟩
abbrev b_OF_size : ByteArray := prog_1_method_6_code
def y_OF_byteAt : MethodName := ⟨"ObjectForge", "byteAt", "(III)I"⟩
abbrev b_OF_byteAt : ByteArray := prog_1_method_7_code
def y_OF_symbol : MethodName := ⟨"ObjectForge", "symbol", "(III)I"⟩
abbrev b_OF_symbol : ByteArray := prog_1_method_8_code
def y_OF_letter : MethodName := ⟨"ObjectForge", "letter", "(III)I"⟩
abbrev b_OF_letter : ByteArray := prog_1_method_9_code
def y_OF_relocation : MethodName := ⟨"ObjectForge", "relocation", "(III)I"⟩
abbrev b_OF_relocation : ByteArray := prog_1_method_10_code
def y_OF_link : MethodName := ⟨"ObjectForge", "link", "(I)I"⟩
abbrev b_OF_link : ByteArray := prog_1_method_11_code
def y_OF_word : MethodName := ⟨"ObjectForge", "word", "(I)I"⟩
abbrev b_OF_word : ByteArray := prog_1_method_12_code
def y_OF_address : MethodName := ⟨"ObjectForge", "address", "(II)I"⟩
abbrev b_OF_address : ByteArray := prog_1_method_13_code
def y_OF_clear : MethodName := ⟨"ObjectForge", "clear", "()I"⟩
abbrev b_OF_clear : ByteArray := prog_1_method_14_code
def y_OF_count : MethodName := ⟨"ObjectForge", "count", "(II)I"⟩
abbrev b_OF_count : ByteArray := prog_1_method_15_code
def y_OF_unitNumbered : MethodName := ⟨"ObjectForge", "unitNumbered", "(I)LObjectForge$Unit;"⟩
abbrev b_OF_unitNumbered : ByteArray := prog_1_method_16_code
def y_OF_requireBelow : MethodName := ⟨"ObjectForge", "requireBelow", "(II)V"⟩
abbrev b_OF_requireBelow : ByteArray := prog_1_method_17_code
def y_As_init : MethodName := ⟨"ObjectForge$Assembler", "<init>", "()V"⟩
abbrev b_As_init : ByteArray := prog_2_method_1_code
def y_As_translate : MethodName := ⟨"ObjectForge$Assembler", "translate", "(I)Z"⟩
abbrev b_As_translate : ByteArray := prog_2_method_2_code
def y_As_readLabels : MethodName := ⟨"ObjectForge$Assembler", "readLabels", "()V"⟩
abbrev b_As_readLabels : ByteArray := prog_2_method_3_code
def y_As_readStatement : MethodName := ⟨"ObjectForge$Assembler", "readStatement", "()V"⟩
abbrev b_As_readStatement : ByteArray := prog_2_method_5_code
def y_As_settleBranches : MethodName := ⟨"ObjectForge$Assembler", "settleBranches", "()V"⟩
abbrev b_As_settleBranches : ByteArray := prog_2_method_27_code
def y_So_init : MethodName := ⟨"ObjectForge$Source", "<init>", "()V"⟩
abbrev b_So_init : ByteArray := prog_7_method_1_code
def y_So_appendWord : MethodName := ⟨"ObjectForge$Source", "appendWord", "(I)V"⟩
abbrev b_So_appendWord : ByteArray := prog_7_method_2_code
def y_So_scanLine : MethodName := ⟨"ObjectForge$Source", "scanLine", "(II)I"⟩
abbrev b_So_scanLine : ByteArray := prog_7_method_3_code
def y_So_kindOf : MethodName := ⟨"ObjectForge$Source", "kindOf", "(I)I"⟩
abbrev b_So_kindOf : ByteArray := prog_7_method_4_code
def y_Sy_init : MethodName := ⟨"ObjectForge$Symbols", "<init>", "()V"⟩
abbrev b_Sy_init : ByteArray := prog_8_method_1_code
def y_Re_init : MethodName := ⟨"ObjectForge$Relocations", "<init>", "()V"⟩
abbrev b_Re_init : ByteArray := prog_6_method_1_code
def y_Un_init : MethodName := ⟨"ObjectForge$Unit", "<init>", "()V"⟩
abbrev b_Un_init : ByteArray := prog_9_method_1_code
def y_Un_makeEmpty : MethodName := ⟨"ObjectForge$Unit", "makeEmpty", "()V"⟩
abbrev b_Un_makeEmpty : ByteArray := prog_9_method_2_code
def y_Li_init : MethodName := ⟨"ObjectForge$Linker", "<init>", "()V"⟩
abbrev b_Li_init : ByteArray := prog_4_method_1_code
def y_Li_dropImage : MethodName := ⟨"ObjectForge$Linker", "dropImage", "()V"⟩
abbrev b_Li_dropImage : ByteArray := prog_4_method_2_code
def y_Li_holdsWord : MethodName := ⟨"ObjectForge$Linker", "holdsWord", "(I)Z"⟩
abbrev b_Li_holdsWord : ByteArray := prog_4_method_14_code
def y_Ar_fill : MethodName := ⟨"java/util/Arrays", "fill", "([II)V"⟩
abbrev b_Ar_fill : ByteArray := prog_30_method_103_code
def y_Mo_init : MethodName := ⟨"ObjectForgeModel", "<init>", "()V"⟩
abbrev b_Mo_init : ByteArray := prog_11_method_1_code
def y_Mo_thrown : MethodName := ⟨"ObjectForgeModel", "thrown", "()I"⟩
abbrev b_Mo_thrown : ByteArray := prog_11_method_2_code
def y_Mo_refuse : MethodName := ⟨"ObjectForgeModel", "refuse", "(I)I"⟩
abbrev b_Mo_refuse : ByteArray := prog_11_method_3_code
def y_Mo_four : MethodName := ⟨"ObjectForgeModel", "four", "(I)V"⟩
abbrev b_Mo_four : ByteArray := prog_11_method_4_code
def y_Mo_feed : MethodName := ⟨"ObjectForgeModel", "feed", "(IIII)I"⟩
abbrev b_Mo_feed : ByteArray := prog_11_method_5_code
def y_Mo_end : MethodName := ⟨"ObjectForgeModel", "end", "(I)I"⟩
abbrev b_Mo_end : ByteArray := prog_11_method_6_code
def y_Mo_fine : MethodName := ⟨"ObjectForgeModel", "fine", "()Z"⟩
abbrev b_Mo_fine : ByteArray := prog_11_method_33_code
def y_Mo_read : MethodName := ⟨"ObjectForgeModel", "read", "(II)V"⟩
abbrev b_Mo_read : ByteArray := prog_11_method_69_code
def y_Mo_next : MethodName := ⟨"ObjectForgeModel", "next", "()V"⟩
abbrev b_Mo_next : ByteArray := prog_11_method_11_code
def y_Mo_here : MethodName := ⟨"ObjectForgeModel", "here", "()I"⟩
abbrev b_Mo_here : ByteArray := prog_11_method_7_code
def y_Mo_settle : MethodName := ⟨"ObjectForgeModel", "settle", "()V"⟩
abbrev b_Mo_settle : ByteArray := prog_11_method_71_code
def y_Mo_assemble : MethodName := ⟨"ObjectForgeModel", "assemble", "()I"⟩
abbrev b_Mo_assemble : ByteArray := prog_11_method_72_code
def y_Mo_fault : MethodName := ⟨"ObjectForgeModel", "fault", "(I)I"⟩
abbrev b_Mo_fault : ByteArray := prog_11_method_73_code
def y_Mo_within : MethodName := ⟨"ObjectForgeModel", "within", "(II)Z"⟩
abbrev b_Mo_within : ByteArray := prog_11_method_74_code
def y_Mo_size : MethodName := ⟨"ObjectForgeModel", "size", "(II)I"⟩
abbrev b_Mo_size : ByteArray := prog_11_method_75_code
def y_Mo_byteAt : MethodName := ⟨"ObjectForgeModel", "byteAt", "(III)I"⟩
abbrev b_Mo_byteAt : ByteArray := prog_11_method_76_code
def y_Mo_symbol : MethodName := ⟨"ObjectForgeModel", "symbol", "(III)I"⟩
abbrev b_Mo_symbol : ByteArray := prog_11_method_77_code
def y_Mo_letter : MethodName := ⟨"ObjectForgeModel", "letter", "(III)I"⟩
abbrev b_Mo_letter : ByteArray := prog_11_method_78_code
def y_Mo_relocation : MethodName := ⟨"ObjectForgeModel", "relocation", "(III)I"⟩
abbrev b_Mo_relocation : ByteArray := prog_11_method_79_code
def y_Mo_link : MethodName := ⟨"ObjectForgeModel", "link", "(I)I"⟩
abbrev b_Mo_link : ByteArray := prog_11_method_85_code
def y_Mo_word : MethodName := ⟨"ObjectForgeModel", "word", "(I)I"⟩
abbrev b_Mo_word : ByteArray := prog_11_method_88_code
def y_Mo_address : MethodName := ⟨"ObjectForgeModel", "address", "(II)I"⟩
abbrev b_Mo_address : ByteArray := prog_11_method_89_code
def y_Mo_clear : MethodName := ⟨"ObjectForgeModel", "clear", "()I"⟩
abbrev b_Mo_clear : ByteArray := prog_11_method_90_code
def y_Mo_count : MethodName := ⟨"ObjectForgeModel", "count", "(II)I"⟩
abbrev b_Mo_count : ByteArray := prog_11_method_91_code
def y_La_feed : MethodName := ⟨"ObjectForgeLaw", "feed", "(LObjectForge;IIII[J)I"⟩
abbrev b_La_feed : ByteArray := method_3_code
def y_La_end : MethodName := ⟨"ObjectForgeLaw", "end", "(LObjectForge;I[J)I"⟩
abbrev b_La_end : ByteArray := method_4_code
def y_La_assemble : MethodName := ⟨"ObjectForgeLaw", "assemble", "(LObjectForge;[J)I"⟩
abbrev b_La_assemble : ByteArray := method_5_code
def y_La_fault : MethodName := ⟨"ObjectForgeLaw", "fault", "(LObjectForge;I[J)I"⟩
abbrev b_La_fault : ByteArray := method_6_code
def y_La_size : MethodName := ⟨"ObjectForgeLaw", "size", "(LObjectForge;II[J)I"⟩
abbrev b_La_size : ByteArray := method_7_code
def y_La_byteAt : MethodName := ⟨"ObjectForgeLaw", "byteAt", "(LObjectForge;III[J)I"⟩
abbrev b_La_byteAt : ByteArray := method_8_code
def y_La_symbol : MethodName := ⟨"ObjectForgeLaw", "symbol", "(LObjectForge;III[J)I"⟩
abbrev b_La_symbol : ByteArray := method_9_code
def y_La_letter : MethodName := ⟨"ObjectForgeLaw", "letter", "(LObjectForge;III[J)I"⟩
abbrev b_La_letter : ByteArray := method_10_code
def y_La_relocation : MethodName := ⟨"ObjectForgeLaw", "relocation", "(LObjectForge;III[J)I"⟩
abbrev b_La_relocation : ByteArray := method_11_code
def y_La_link : MethodName := ⟨"ObjectForgeLaw", "link", "(LObjectForge;I[J)I"⟩
abbrev b_La_link : ByteArray := method_12_code
def y_La_word : MethodName := ⟨"ObjectForgeLaw", "word", "(LObjectForge;I[J)I"⟩
abbrev b_La_word : ByteArray := method_13_code
def y_La_address : MethodName := ⟨"ObjectForgeLaw", "address", "(LObjectForge;II[J)I"⟩
abbrev b_La_address : ByteArray := method_14_code
def y_La_count : MethodName := ⟨"ObjectForgeLaw", "count", "(LObjectForge;II[J)I"⟩
abbrev b_La_count : ByteArray := method_15_code
def bw_0 : List Cond := [Cond.initialized "ObjectForgeLaw", Cond.initialized "ObjectForge", Cond.initialized "ObjectForge$Assembler", Cond.initialized "ObjectForge$Source", Cond.initialized "ObjectForge$Unit", Cond.initialized "ObjectForge$Symbols", Cond.initialized "ObjectForge$Relocations", Cond.initialized "ObjectForge$Linker", Cond.initialized "ObjectForgeModel", Cond.initialized "java/lang/Throwable", Cond.initialized "java/lang/Exception", Cond.initialized "java/lang/RuntimeException", Cond.initialized "java/lang/IllegalStateException", Cond.initialized "java/lang/IllegalArgumentException", Cond.initialized "java/util/Arrays", Cond.initialized "java/lang/IndexOutOfBoundsException", Cond.classLink "ObjectForgeLaw" 8 "ObjectForge", Cond.instantiable "ObjectForge" 4, Cond.methodLink "ObjectForgeLaw" 59 y_OF_init, Cond.instanceMethod y_OF_init, Cond.code y_OF_init prog_1_method_1_code 2 none, Cond.methodLink "ObjectForge" 1 ⟨"java/lang/Object", "<init>", "()V"⟩, Cond.instanceMethod ⟨"java/lang/Object", "<init>", "()V"⟩, Cond.code ⟨"java/lang/Object", "<init>", "()V"⟩ object_method_1_code 1 none, Cond.classLink "ObjectForge" 7 "ObjectForge$Assembler"]
def bw_1 : List Cond := [Cond.instantiable "ObjectForge$Assembler" 15, Cond.instanceMethod y_As_init, Cond.code y_As_init prog_2_method_1_code 1 none, Cond.methodLink "ObjectForge$Assembler" 3 ⟨"java/lang/Object", "<init>", "()V"⟩, Cond.classLink "ObjectForge$Assembler" 9 "ObjectForge$Source", Cond.instantiable "ObjectForge$Source" 7, Cond.instanceMethod y_So_init, Cond.code y_So_init prog_7_method_1_code 1 none, Cond.methodLink "ObjectForge$Source" 3 ⟨"java/lang/Object", "<init>", "()V"⟩, Cond.fieldLink "ObjectForge$Source" 9 "ObjectForge$Source" "bytes" "[B", Cond.fieldLink "ObjectForge$Source" 15 "ObjectForge$Source" "length" "I", Cond.fieldLink "ObjectForge" 38 "ObjectForge$Source" "length" "I", Cond.fieldLink "ObjectForge$Source" 19 "ObjectForge$Source" "kinds" "[I", Cond.fieldLink "ObjectForge$Source" 23 "ObjectForge$Source" "starts" "[I", Cond.fieldLink "ObjectForge$Source" 26 "ObjectForge$Source" "values" "[I", Cond.fieldLink "ObjectForge$Source" 29 "ObjectForge$Source" "tokens" "I", Cond.fieldLink "ObjectForge$Source" 32 "ObjectForge$Source" "lineEnd" "I", Cond.arrayClass FieldType.byte, Cond.arrayClass FieldType.int, Cond.classLink "ObjectForge$Assembler" 18 "ObjectForge$Unit", Cond.instantiable "ObjectForge$Unit" 5, Cond.instanceMethod y_Un_init, Cond.code y_Un_init prog_9_method_1_code 1 none, Cond.methodLink "ObjectForge$Unit" 3 ⟨"java/lang/Object", "<init>", "()V"⟩, Cond.classLink "ObjectForge$Unit" 9 "[[B"]
def bw_2 : List Cond := [Cond.classLink "ObjectForge$Unit" 23 "ObjectForge$Symbols", Cond.instantiable "ObjectForge$Symbols" 8, Cond.instanceMethod y_Sy_init, Cond.code y_Sy_init prog_8_method_1_code 1 none, Cond.methodLink "ObjectForge$Symbols" 3 ⟨"java/lang/Object", "<init>", "()V"⟩, Cond.fieldLink "ObjectForge$Symbols" 9 "ObjectForge$Symbols" "names" "[B", Cond.fieldLink "ObjectForge" 127 "ObjectForge$Symbols" "names" "[B", Cond.fieldLink "ObjectForge$Symbols" 15 "ObjectForge$Symbols" "lengths" "[I", Cond.fieldLink "ObjectForge" 122 "ObjectForge$Symbols" "lengths" "[I", Cond.fieldLink "ObjectForge$Symbols" 19 "ObjectForge$Symbols" "sections" "[I", Cond.fieldLink "ObjectForge$Assembler" 93 "ObjectForge$Symbols" "sections" "[I", Cond.fieldLink "ObjectForge" 112 "ObjectForge$Symbols" "sections" "[I", Cond.fieldLink "ObjectForge$Symbols" 22 "ObjectForge$Symbols" "values" "[I", Cond.fieldLink "ObjectForge$Assembler" 99 "ObjectForge$Symbols" "values" "[I", Cond.fieldLink "ObjectForge" 115 "ObjectForge$Symbols" "values" "[I", Cond.fieldLink "ObjectForge$Symbols" 25 "ObjectForge$Symbols" "globals" "[Z", Cond.fieldLink "ObjectForge" 118 "ObjectForge$Symbols" "globals" "[Z", Cond.fieldLink "ObjectForge$Symbols" 29 "ObjectForge$Symbols" "addresses" "[I", Cond.fieldLink "ObjectForge" 173 "ObjectForge$Symbols" "addresses" "[I", Cond.fieldLink "ObjectForge$Symbols" 32 "ObjectForge$Symbols" "sums" "[I", Cond.fieldLink "ObjectForge$Symbols" 35 "ObjectForge$Symbols" "number" "I", Cond.fieldLink "ObjectForge$Unit" 43 "ObjectForge$Symbols" "number" "I", Cond.fieldLink "ObjectForge" 107 "ObjectForge$Symbols" "number" "I", Cond.fieldLink "ObjectForge$Assembler" 333 "ObjectForge$Symbols" "number" "I", Cond.arrayClass FieldType.boolean]
def bw_3 : List Cond := [Cond.classLink "ObjectForge$Unit" 30 "ObjectForge$Relocations", Cond.instantiable "ObjectForge$Relocations" 7, Cond.instanceMethod y_Re_init, Cond.code y_Re_init prog_6_method_1_code 1 none, Cond.methodLink "ObjectForge$Relocations" 3 ⟨"java/lang/Object", "<init>", "()V"⟩, Cond.fieldLink "ObjectForge$Relocations" 9 "ObjectForge$Relocations" "sections" "[I", Cond.fieldLink "ObjectForge" 138 "ObjectForge$Relocations" "sections" "[I", Cond.fieldLink "ObjectForge$Relocations" 15 "ObjectForge$Relocations" "places" "[I", Cond.fieldLink "ObjectForge" 139 "ObjectForge$Relocations" "places" "[I", Cond.fieldLink "ObjectForge$Assembler" 314 "ObjectForge$Relocations" "places" "[I", Cond.fieldLink "ObjectForge$Relocations" 18 "ObjectForge$Relocations" "kinds" "[I", Cond.fieldLink "ObjectForge" 142 "ObjectForge$Relocations" "kinds" "[I", Cond.fieldLink "ObjectForge$Assembler" 317 "ObjectForge$Relocations" "kinds" "[I", Cond.fieldLink "ObjectForge$Relocations" 21 "ObjectForge$Relocations" "symbols" "[I", Cond.fieldLink "ObjectForge" 145 "ObjectForge$Relocations" "symbols" "[I", Cond.fieldLink "ObjectForge$Assembler" 320 "ObjectForge$Relocations" "symbols" "[I", Cond.fieldLink "ObjectForge$Relocations" 24 "ObjectForge$Relocations" "addends" "[J", Cond.fieldLink "ObjectForge" 147 "ObjectForge$Relocations" "addends" "[J", Cond.fieldLink "ObjectForge$Assembler" 322 "ObjectForge$Relocations" "addends" "[J", Cond.fieldLink "ObjectForge$Relocations" 28 "ObjectForge$Relocations" "lines" "[I", Cond.fieldLink "ObjectForge$Assembler" 326 "ObjectForge$Relocations" "lines" "[I", Cond.fieldLink "ObjectForge$Relocations" 31 "ObjectForge$Relocations" "number" "I", Cond.fieldLink "ObjectForge$Unit" 47 "ObjectForge$Relocations" "number" "I", Cond.fieldLink "ObjectForge" 135 "ObjectForge$Relocations" "number" "I", Cond.fieldLink "ObjectForge$Assembler" 309 "ObjectForge$Relocations" "number" "I"]
def bw_4 : List Cond := [Cond.arrayClass FieldType.long, Cond.fieldLink "ObjectForge$Unit" 11 "ObjectForge$Unit" "bytes" "[[B", Cond.fieldLink "ObjectForge" 99 "ObjectForge$Unit" "bytes" "[[B", Cond.fieldLink "ObjectForge$Unit" 16 "ObjectForge$Unit" "sizes" "[I", Cond.fieldLink "ObjectForge$Assembler" 102 "ObjectForge$Unit" "sizes" "[I", Cond.fieldLink "ObjectForge" 95 "ObjectForge$Unit" "sizes" "[I", Cond.fieldLink "ObjectForge$Unit" 20 "ObjectForge$Unit" "starts" "[I", Cond.fieldLink "ObjectForge$Unit" 26 "ObjectForge$Unit" "symbols" "LObjectForge$Symbols;", Cond.fieldLink "ObjectForge$Assembler" 89 "ObjectForge$Unit" "symbols" "LObjectForge$Symbols;", Cond.fieldLink "ObjectForge" 103 "ObjectForge$Unit" "symbols" "LObjectForge$Symbols;", Cond.fieldLink "ObjectForge$Unit" 33 "ObjectForge$Unit" "relocations" "LObjectForge$Relocations;", Cond.fieldLink "ObjectForge" 131 "ObjectForge$Unit" "relocations" "LObjectForge$Relocations;", Cond.fieldLink "ObjectForge$Assembler" 305 "ObjectForge$Unit" "relocations" "LObjectForge$Relocations;", Cond.fieldLink "ObjectForge$Assembler" 12 "ObjectForge$Assembler" "source" "LObjectForge$Source;", Cond.fieldLink "ObjectForge" 34 "ObjectForge$Assembler" "source" "LObjectForge$Source;", Cond.fieldLink "ObjectForge$Assembler" 21 "ObjectForge$Assembler" "draft" "LObjectForge$Unit;", Cond.fieldLink "ObjectForge" 65 "ObjectForge$Assembler" "draft" "LObjectForge$Unit;", Cond.fieldLink "ObjectForge$Assembler" 25 "ObjectForge$Assembler" "fault" "I", Cond.fieldLink "ObjectForge" 69 "ObjectForge$Assembler" "fault" "I", Cond.fieldLink "ObjectForge$Assembler" 29 "ObjectForge$Assembler" "faultLine" "I", Cond.fieldLink "ObjectForge" 72 "ObjectForge$Assembler" "faultLine" "I", Cond.fieldLink "ObjectForge$Assembler" 32 "ObjectForge$Assembler" "line" "I", Cond.fieldLink "ObjectForge$Assembler" 35 "ObjectForge$Assembler" "section" "I", Cond.fieldLink "ObjectForge$Assembler" 38 "ObjectForge$Assembler" "cursor" "I", Cond.fieldLink "ObjectForge$Assembler" 41 "ObjectForge$Assembler" "nameToken" "I"]
def bw_5 : List Cond := [Cond.fieldLink "ObjectForge$Assembler" 44 "ObjectForge$Assembler" "number" "J", Cond.fieldLink "ObjectForge$Assembler" 48 "ObjectForge$Assembler" "half" "I", Cond.fieldLink "ObjectForge$Assembler" 51 "ObjectForge$Assembler" "sources" "I", Cond.fieldLink "ObjectForge$Assembler" 54 "ObjectForge$Assembler" "others" "I", Cond.fieldLink "ObjectForge$Assembler" 57 "ObjectForge$Assembler" "reference" "I", Cond.fieldLink "ObjectForge$Assembler" 60 "ObjectForge$Assembler" "upperHolder" "I", Cond.fieldLink "ObjectForge$Assembler" 63 "ObjectForge$Assembler" "symbolNumber" "I", Cond.classLink "ObjectForge" 16 "ObjectForge$Linker", Cond.instantiable "ObjectForge$Linker" 7, Cond.instanceMethod y_Li_init, Cond.code y_Li_init prog_4_method_1_code 1 none, Cond.methodLink "ObjectForge$Linker" 3 ⟨"java/lang/Object", "<init>", "()V"⟩, Cond.constant "ObjectForge$Linker" 9 (32768 : Int32), Cond.fieldLink "ObjectForge$Linker" 10 "ObjectForge$Linker" "image" "[B", Cond.fieldLink "ObjectForge$Linker" 16 "ObjectForge$Linker" "base" "I", Cond.fieldLink "ObjectForge$Linker" 20 "ObjectForge$Linker" "imageSize" "I", Cond.fieldLink "ObjectForge$Linker" 23 "ObjectForge$Linker" "joined" "I", Cond.fieldLink "ObjectForge" 168 "ObjectForge$Linker" "joined" "I", Cond.fieldLink "ObjectForge$Linker" 26 "ObjectForge$Linker" "fault" "I", Cond.fieldLink "ObjectForge" 75 "ObjectForge$Linker" "fault" "I", Cond.fieldLink "ObjectForge$Linker" 29 "ObjectForge$Linker" "faultObject" "I", Cond.fieldLink "ObjectForge" 76 "ObjectForge$Linker" "faultObject" "I", Cond.fieldLink "ObjectForge$Linker" 32 "ObjectForge$Linker" "faultItem" "I", Cond.fieldLink "ObjectForge" 79 "ObjectForge$Linker" "faultItem" "I", Cond.classLink "ObjectForge" 23 "ObjectForge$Unit"]
def bw_6 : List Cond := [Cond.fieldLink "ObjectForge" 10 "ObjectForge" "assembler" "LObjectForge$Assembler;", Cond.fieldLink "ObjectForge" 19 "ObjectForge" "linker" "LObjectForge$Linker;", Cond.fieldLink "ObjectForge" 25 "ObjectForge" "units" "[LObjectForge$Unit;", Cond.fieldLink "ObjectForge" 29 "ObjectForge" "unitCount" "I", Cond.methodLink "ObjectForgeLaw" 109 y_OF_clear, Cond.instanceMethod y_OF_clear, Cond.selects "ObjectForge" y_OF_clear y_OF_clear, Cond.code y_OF_clear prog_1_method_14_code 2 (some FieldType.int), Cond.methodLink "ObjectForge" 176 y_Li_dropImage, Cond.instanceMethod y_Li_dropImage, Cond.selects "ObjectForge$Linker" y_Li_dropImage y_Li_dropImage, Cond.code y_Li_dropImage prog_4_method_2_code 1 none, Cond.methodLink "ObjectForgeLaw" 63 y_La_feed, Cond.static y_La_feed, Cond.codeWith y_La_feed method_3_code 7 (some FieldType.int) [(0, 14, 17, 13)], Cond.classLink "ObjectForgeLaw" 13 "java/lang/IllegalStateException", Cond.methodLink "ObjectForgeLaw" 7 y_OF_feed, Cond.instanceMethod y_OF_feed, Cond.selects "ObjectForge" y_OF_feed y_OF_feed, Cond.code y_OF_feed prog_1_method_2_code 6 (some FieldType.int), Cond.classLink "ObjectForge" 43 "java/lang/IllegalStateException", Cond.instantiable "java/lang/IllegalStateException" 6, Cond.selects "java/lang/IllegalStateException" ⟨"java/lang/Throwable", "fillInStackTrace", "(I)Ljava/lang/Throwable;"⟩ ⟨"java/lang/Throwable", "fillInStackTrace", "(I)Ljava/lang/Throwable;"⟩, Cond.selects "java/lang/IllegalStateException" ⟨"java/lang/Throwable", "fillInStackTrace", "()Ljava/lang/Throwable;"⟩ ⟨"java/lang/Throwable", "fillInStackTrace", "()Ljava/lang/Throwable;"⟩, Cond.lays "java/lang/IllegalStateException" "java/lang/Throwable" "cause" "Ljava/lang/Throwable;"]
def bw_7 : List Cond := [Cond.lays "java/lang/Throwable" "java/lang/Throwable" "cause" "Ljava/lang/Throwable;", Cond.lays "java/lang/IllegalStateException" "java/lang/Throwable" "stackTrace" "[Ljava/lang/StackTraceElement;", Cond.lays "java/lang/Throwable" "java/lang/Throwable" "stackTrace" "[Ljava/lang/StackTraceElement;", Cond.lays "java/lang/IllegalStateException" "java/lang/Throwable" "suppressedExceptions" "Ljava/util/List;", Cond.lays "java/lang/Throwable" "java/lang/Throwable" "suppressedExceptions" "Ljava/util/List;", Cond.lays "java/lang/IllegalStateException" "java/lang/Throwable" "detailMessage" "Ljava/lang/String;", Cond.lays "java/lang/Throwable" "java/lang/Throwable" "detailMessage" "Ljava/lang/String;", Cond.lays "java/lang/IllegalStateException" "java/lang/Throwable" "backtrace" "Ljava/lang/Object;", Cond.lays "java/lang/Throwable" "java/lang/Throwable" "backtrace" "Ljava/lang/Object;", Cond.fieldLink "java/lang/Throwable" 198 "java/lang/Throwable" "backtrace" "Ljava/lang/Object;", Cond.superclass "java/lang/Throwable" "java/lang/Object", Cond.instanceMethod ⟨"java/lang/Throwable", "<init>", "()V"⟩, Cond.code ⟨"java/lang/Throwable", "<init>", "()V"⟩ prog_29_method_1_code 1 none, Cond.methodLink "java/lang/Throwable" 1 ⟨"java/lang/Object", "<init>", "()V"⟩, Cond.fieldLink "java/lang/Throwable" 13 "java/lang/Throwable" "UNASSIGNED_STACK" "[Ljava/lang/StackTraceElement;", Cond.fieldLink "java/lang/Throwable" 20 "java/lang/Throwable" "SUPPRESSED_SENTINEL" "Ljava/util/List;", Cond.methodLink "java/lang/Throwable" 27 ⟨"java/lang/Throwable", "fillInStackTrace", "()Ljava/lang/Throwable;"⟩, Cond.instanceMethod ⟨"java/lang/Throwable", "fillInStackTrace", "()Ljava/lang/Throwable;"⟩, Cond.selects "java/lang/IllegalArgumentException" ⟨"java/lang/Throwable", "fillInStackTrace", "()Ljava/lang/Throwable;"⟩ ⟨"java/lang/Throwable", "fillInStackTrace", "()Ljava/lang/Throwable;"⟩, Cond.selects "java/lang/IndexOutOfBoundsException" ⟨"java/lang/Throwable", "fillInStackTrace", "()Ljava/lang/Throwable;"⟩ ⟨"java/lang/Throwable", "fillInStackTrace", "()Ljava/lang/Throwable;"⟩, Cond.codeSync ⟨"java/lang/Throwable", "fillInStackTrace", "()Ljava/lang/Throwable;"⟩ prog_29_method_18_code 1 (some (FieldType.object "java/lang/Throwable")), Cond.methodLink "java/lang/Throwable" 202 ⟨"java/lang/Throwable", "fillInStackTrace", "(I)Ljava/lang/Throwable;"⟩, Cond.instanceMethod ⟨"java/lang/Throwable", "fillInStackTrace", "(I)Ljava/lang/Throwable;"⟩, Cond.instantiable "java/lang/Throwable" 6, Cond.native ⟨"java/lang/Throwable", "fillInStackTrace", "(I)Ljava/lang/Throwable;"⟩]
def bw_8 : List Cond := [Cond.methodLink "ObjectForge" 47 ⟨"java/lang/IllegalStateException", "<init>", "(Ljava/lang/String;)V"⟩, Cond.instanceMethod ⟨"java/lang/IllegalStateException", "<init>", "(Ljava/lang/String;)V"⟩, Cond.code ⟨"java/lang/IllegalStateException", "<init>", "(Ljava/lang/String;)V"⟩ prog_19_method_2_code 2 none, Cond.methodLink "java/lang/IllegalStateException" 7 ⟨"java/lang/RuntimeException", "<init>", "(Ljava/lang/String;)V"⟩, Cond.instanceMethod ⟨"java/lang/RuntimeException", "<init>", "(Ljava/lang/String;)V"⟩, Cond.code ⟨"java/lang/RuntimeException", "<init>", "(Ljava/lang/String;)V"⟩ prog_23_method_2_code 2 none, Cond.methodLink "java/lang/RuntimeException" 7 ⟨"java/lang/Exception", "<init>", "(Ljava/lang/String;)V"⟩, Cond.instanceMethod ⟨"java/lang/Exception", "<init>", "(Ljava/lang/String;)V"⟩, Cond.code ⟨"java/lang/Exception", "<init>", "(Ljava/lang/String;)V"⟩ prog_17_method_2_code 2 none, Cond.methodLink "java/lang/Exception" 7 ⟨"java/lang/Throwable", "<init>", "(Ljava/lang/String;)V"⟩, Cond.instanceMethod ⟨"java/lang/Throwable", "<init>", "(Ljava/lang/String;)V"⟩, Cond.code ⟨"java/lang/Throwable", "<init>", "(Ljava/lang/String;)V"⟩ prog_29_method_2_code 2 none, Cond.fieldLink "java/lang/Throwable" 31 "java/lang/Throwable" "detailMessage" "Ljava/lang/String;", Cond.fieldLink "java/lang/Throwable" 7 "java/lang/Throwable" "cause" "Ljava/lang/Throwable;", Cond.fieldLink "java/lang/Throwable" 17 "java/lang/Throwable" "stackTrace" "[Ljava/lang/StackTraceElement;", Cond.fieldLink "java/lang/Throwable" 24 "java/lang/Throwable" "suppressedExceptions" "Ljava/util/List;", Cond.lays "java/lang/IllegalStateException" "java/lang/Throwable" "depth" "I", Cond.superclass "java/lang/IllegalStateException" "java/lang/RuntimeException", Cond.methodLink "ObjectForge" 50 y_So_appendWord, Cond.instanceMethod y_So_appendWord, Cond.selects "ObjectForge$Source" y_So_appendWord y_So_appendWord, Cond.code y_So_appendWord prog_7_method_2_code 3 none, Cond.methodLink "ObjectForgeLaw" 72 y_La_end, Cond.static y_La_end, Cond.codeWith y_La_end method_4_code 4 (some FieldType.int) [(0, 9, 12, 19)]]
def bw_9 : List Cond := [Cond.classLink "ObjectForgeLaw" 19 "java/lang/IllegalArgumentException", Cond.methodLink "ObjectForgeLaw" 15 y_OF_end, Cond.instanceMethod y_OF_end, Cond.selects "ObjectForge" y_OF_end y_OF_end, Cond.code y_OF_end prog_1_method_3_code 3 (some FieldType.int), Cond.classLink "ObjectForge" 54 "java/lang/IllegalArgumentException", Cond.instantiable "java/lang/IllegalArgumentException" 6, Cond.selects "java/lang/IllegalArgumentException" ⟨"java/lang/Throwable", "fillInStackTrace", "(I)Ljava/lang/Throwable;"⟩ ⟨"java/lang/Throwable", "fillInStackTrace", "(I)Ljava/lang/Throwable;"⟩, Cond.lays "java/lang/IllegalArgumentException" "java/lang/Throwable" "cause" "Ljava/lang/Throwable;", Cond.lays "java/lang/IllegalArgumentException" "java/lang/Throwable" "stackTrace" "[Ljava/lang/StackTraceElement;", Cond.lays "java/lang/IllegalArgumentException" "java/lang/Throwable" "suppressedExceptions" "Ljava/util/List;", Cond.lays "java/lang/IllegalArgumentException" "java/lang/Throwable" "detailMessage" "Ljava/lang/String;", Cond.lays "java/lang/IllegalArgumentException" "java/lang/Throwable" "backtrace" "Ljava/lang/Object;", Cond.methodLink "ObjectForge" 58 ⟨"java/lang/IllegalArgumentException", "<init>", "(Ljava/lang/String;)V"⟩, Cond.instanceMethod ⟨"java/lang/IllegalArgumentException", "<init>", "(Ljava/lang/String;)V"⟩, Cond.code ⟨"java/lang/IllegalArgumentException", "<init>", "(Ljava/lang/String;)V"⟩ prog_18_method_2_code 2 none, Cond.methodLink "java/lang/IllegalArgumentException" 7 ⟨"java/lang/RuntimeException", "<init>", "(Ljava/lang/String;)V"⟩, Cond.lays "java/lang/IllegalArgumentException" "java/lang/Throwable" "depth" "I", Cond.superclass "java/lang/IllegalArgumentException" "java/lang/RuntimeException", Cond.methodLink "ObjectForgeLaw" 76 y_La_assemble, Cond.static y_La_assemble, Cond.codeWith y_La_assemble method_5_code 3 (some FieldType.int) [(0, 8, 11, 13)], Cond.methodLink "ObjectForgeLaw" 21 y_OF_assemble, Cond.instanceMethod y_OF_assemble, Cond.selects "ObjectForge" y_OF_assemble y_OF_assemble]
def bw_10 : List Cond := [Cond.code y_OF_assemble prog_1_method_4_code 3 (some FieldType.int), Cond.methodLink "ObjectForge" 61 y_As_translate, Cond.instanceMethod y_As_translate, Cond.selects "ObjectForge$Assembler" y_As_translate y_As_translate, Cond.code y_As_translate prog_2_method_2_code 4 (some FieldType.boolean), Cond.methodLink "ObjectForge$Assembler" 66 y_Un_makeEmpty, Cond.instanceMethod y_Un_makeEmpty, Cond.selects "ObjectForge$Unit" y_Un_makeEmpty y_Un_makeEmpty, Cond.code y_Un_makeEmpty prog_9_method_2_code 1 none, Cond.methodLink "ObjectForge$Unit" 37 y_Ar_fill, Cond.static y_Ar_fill, Cond.code y_Ar_fill prog_30_method_103_code 4 none, Cond.methodLink "ObjectForge$Assembler" 69 y_So_scanLine, Cond.instanceMethod y_So_scanLine, Cond.selects "ObjectForge$Source" y_So_scanLine y_So_scanLine, Cond.code y_So_scanLine prog_7_method_3_code 4 (some FieldType.int), Cond.methodLink "ObjectForge$Source" 35 ⟨"ObjectForge$Source", "scanToken", "(I)I"⟩, Cond.methodLink "ObjectForge$Source" 39 ⟨"java/lang/Math", "max", "(II)I"⟩, Cond.methodLink "ObjectForge$Assembler" 73 y_As_readLabels, Cond.instanceMethod y_As_readLabels, Cond.code y_As_readLabels prog_2_method_3_code 3 none, Cond.methodLink "ObjectForge$Assembler" 82 y_So_kindOf, Cond.instanceMethod y_So_kindOf, Cond.selects "ObjectForge$Source" y_So_kindOf y_So_kindOf, Cond.code y_So_kindOf prog_7_method_4_code 2 (some FieldType.int)]
def bw_11 : List Cond := [Cond.methodLink "ObjectForge$Assembler" 86 ⟨"ObjectForge$Assembler", "numberSymbol", "(I)I"⟩, Cond.methodLink "ObjectForge$Assembler" 76 y_As_readStatement, Cond.instanceMethod y_As_readStatement, Cond.code y_As_readStatement prog_2_method_5_code 5 none, Cond.methodLink "ObjectForge$Assembler" 119 ⟨"ObjectForge$Assembler", "misplaced", "(I)I"⟩, Cond.methodLink "ObjectForge$Assembler" 122 ⟨"ObjectForge$Directive", "named", "(LObjectForge$Source;I)LObjectForge$Directive;"⟩, Cond.methodLink "ObjectForge$Assembler" 128 ⟨"ObjectForge$Operation", "named", "(LObjectForge$Source;I)LObjectForge$Operation;"⟩, Cond.methodLink "ObjectForge$Assembler" 133 ⟨"ObjectForge$Assembler", "readDirective", "(LObjectForge$Directive;)V"⟩, Cond.native ⟨"java/lang/Object", "clone", "()Ljava/lang/Object;"⟩, Cond.instanceMethod ⟨"java/lang/Object", "clone", "()Ljava/lang/Object;"⟩, Cond.instanceMethod ⟨"java/lang/IndexOutOfBoundsException", "<init>", "(Ljava/lang/String;)V"⟩, Cond.code ⟨"java/lang/IndexOutOfBoundsException", "<init>", "(Ljava/lang/String;)V"⟩ prog_20_method_2_code 2 none, Cond.methodLink "java/lang/IndexOutOfBoundsException" 7 ⟨"java/lang/RuntimeException", "<init>", "(Ljava/lang/String;)V"⟩, Cond.methodLink "ObjectForge$Assembler" 137 ⟨"ObjectForge$Operation", "ofOperands", "(LObjectForge$Source;I)LObjectForge$Operation;"⟩, Cond.methodLink "ObjectForge$Assembler" 140 ⟨"ObjectForge$Assembler", "readInstruction", "(LObjectForge$Operation;)V"⟩, Cond.methodLink "ObjectForge$Assembler" 79 y_As_settleBranches, Cond.instanceMethod y_As_settleBranches, Cond.code y_As_settleBranches prog_2_method_27_code 6 none, Cond.methodLink "ObjectForge$Assembler" 334 ⟨"ObjectForge$Assembler", "settleBranch", "(IJI)V"⟩, Cond.methodLink "ObjectForge$Assembler" 338 ⟨"ObjectForge$Relocations", "move", "(II)V"⟩, Cond.methodLink "ObjectForgeLaw" 80 y_La_fault, Cond.static y_La_fault, Cond.codeWith y_La_fault method_6_code 4 (some FieldType.int) [(0, 9, 12, 28)], Cond.classLink "ObjectForgeLaw" 28 "java/lang/IndexOutOfBoundsException", Cond.methodLink "ObjectForgeLaw" 25 y_OF_fault]
def bw_12 : List Cond := [Cond.instanceMethod y_OF_fault, Cond.selects "ObjectForge" y_OF_fault y_OF_fault, Cond.code y_OF_fault prog_1_method_5_code 2 (some FieldType.int), Cond.classLink "ObjectForge" 82 "java/lang/IndexOutOfBoundsException", Cond.instantiable "java/lang/IndexOutOfBoundsException" 6, Cond.selects "java/lang/IndexOutOfBoundsException" ⟨"java/lang/Throwable", "fillInStackTrace", "(I)Ljava/lang/Throwable;"⟩ ⟨"java/lang/Throwable", "fillInStackTrace", "(I)Ljava/lang/Throwable;"⟩, Cond.lays "java/lang/IndexOutOfBoundsException" "java/lang/Throwable" "cause" "Ljava/lang/Throwable;", Cond.lays "java/lang/IndexOutOfBoundsException" "java/lang/Throwable" "stackTrace" "[Ljava/lang/StackTraceElement;", Cond.lays "java/lang/IndexOutOfBoundsException" "java/lang/Throwable" "suppressedExceptions" "Ljava/util/List;", Cond.lays "java/lang/IndexOutOfBoundsException" "java/lang/Throwable" "detailMessage" "Ljava/lang/String;", Cond.lays "java/lang/IndexOutOfBoundsException" "java/lang/Throwable" "backtrace" "Ljava/lang/Object;", Cond.methodLink "ObjectForge" 86 ⟨"java/lang/IndexOutOfBoundsException", "<init>", "(Ljava/lang/String;)V"⟩, Cond.lays "java/lang/IndexOutOfBoundsException" "java/lang/Throwable" "depth" "I", Cond.superclass "java/lang/IndexOutOfBoundsException" "java/lang/RuntimeException", Cond.methodLink "ObjectForgeLaw" 83 y_La_size, Cond.static y_La_size, Cond.codeWith y_La_size method_7_code 5 (some FieldType.int) [(0, 10, 13, 28)], Cond.methodLink "ObjectForgeLaw" 30 y_OF_size, Cond.instanceMethod y_OF_size, Cond.selects "ObjectForge" y_OF_size y_OF_size, Cond.code y_OF_size prog_1_method_6_code 4 (some FieldType.int), Cond.methodLink "ObjectForge" 87 y_OF_unitNumbered, Cond.instanceMethod y_OF_unitNumbered, Cond.code y_OF_unitNumbered prog_1_method_16_code 2 (some (FieldType.object "ObjectForge$Unit")), Cond.methodLink "ObjectForge" 91 y_OF_requireBelow]
def bw_13 : List Cond := [Cond.static y_OF_requireBelow, Cond.code y_OF_requireBelow prog_1_method_17_code 2 none, Cond.methodLink "ObjectForgeLaw" 87 y_La_byteAt, Cond.static y_La_byteAt, Cond.codeWith y_La_byteAt method_8_code 6 (some FieldType.int) [(0, 12, 15, 28)], Cond.methodLink "ObjectForgeLaw" 34 y_OF_byteAt, Cond.instanceMethod y_OF_byteAt, Cond.selects "ObjectForge" y_OF_byteAt y_OF_byteAt, Cond.code y_OF_byteAt prog_1_method_7_code 5 (some FieldType.int), Cond.methodLink "ObjectForgeLaw" 91 y_La_symbol, Cond.static y_La_symbol, Cond.codeWith y_La_symbol method_9_code 6 (some FieldType.int) [(0, 12, 15, 28)], Cond.methodLink "ObjectForgeLaw" 38 y_OF_symbol, Cond.instanceMethod y_OF_symbol, Cond.selects "ObjectForge" y_OF_symbol y_OF_symbol, Cond.code y_OF_symbol prog_1_method_8_code 5 (some FieldType.int), Cond.methodLink "ObjectForgeLaw" 94 y_La_letter, Cond.static y_La_letter, Cond.codeWith y_La_letter method_10_code 6 (some FieldType.int) [(0, 12, 15, 28)], Cond.methodLink "ObjectForgeLaw" 41 y_OF_letter, Cond.instanceMethod y_OF_letter, Cond.selects "ObjectForge" y_OF_letter y_OF_letter, Cond.code y_OF_letter prog_1_method_9_code 5 (some FieldType.int), Cond.methodLink "ObjectForgeLaw" 97 y_La_relocation, Cond.static y_La_relocation]
def bw_14 : List Cond := [Cond.codeWith y_La_relocation method_11_code 6 (some FieldType.int) [(0, 12, 15, 28)], Cond.methodLink "ObjectForgeLaw" 44 y_OF_relocation, Cond.instanceMethod y_OF_relocation, Cond.selects "ObjectForge" y_OF_relocation y_OF_relocation, Cond.code y_OF_relocation prog_1_method_10_code 5 (some FieldType.int), Cond.methodLink "ObjectForgeLaw" 100 y_La_link, Cond.static y_La_link, Cond.codeWith y_La_link method_12_code 4 (some FieldType.int) [(0, 9, 12, 19), (0, 9, 15, 13)], Cond.methodLink "ObjectForgeLaw" 47 y_OF_link, Cond.instanceMethod y_OF_link, Cond.selects "ObjectForge" y_OF_link y_OF_link, Cond.code y_OF_link prog_1_method_11_code 2 (some FieldType.int), Cond.methodLink "ObjectForge" 155 ⟨"ObjectForge$Linker", "join", "([LObjectForge$Unit;II)I"⟩, Cond.methodLink "ObjectForgeLaw" 103 y_La_word, Cond.static y_La_word, Cond.codeWith y_La_word method_13_code 4 (some FieldType.int) [(0, 9, 12, 28)], Cond.methodLink "ObjectForgeLaw" 50 y_OF_word, Cond.instanceMethod y_OF_word, Cond.selects "ObjectForge" y_OF_word y_OF_word, Cond.code y_OF_word prog_1_method_12_code 2 (some FieldType.int), Cond.methodLink "ObjectForge" 159 y_Li_holdsWord, Cond.instanceMethod y_Li_holdsWord, Cond.selects "ObjectForge$Linker" y_Li_holdsWord y_Li_holdsWord, Cond.code y_Li_holdsWord prog_4_method_14_code 3 (some FieldType.boolean), Cond.methodLink "ObjectForge" 164 ⟨"ObjectForge$Linker", "wordFrom", "(I)I"⟩]
def bw_15 : List Cond := [Cond.methodLink "ObjectForgeLaw" 106 y_La_address, Cond.static y_La_address, Cond.codeWith y_La_address method_14_code 5 (some FieldType.int) [(0, 10, 13, 28), (0, 10, 17, 13)], Cond.methodLink "ObjectForgeLaw" 53 y_OF_address, Cond.instanceMethod y_OF_address, Cond.selects "ObjectForge" y_OF_address y_OF_address, Cond.code y_OF_address prog_1_method_13_code 4 (some FieldType.int), Cond.methodLink "ObjectForgeLaw" 113 y_La_count, Cond.static y_La_count, Cond.codeWith y_La_count method_15_code 5 (some FieldType.int) [(0, 10, 13, 28)], Cond.methodLink "ObjectForgeLaw" 56 y_OF_count, Cond.instanceMethod y_OF_count, Cond.selects "ObjectForge" y_OF_count y_OF_count, Cond.code y_OF_count prog_1_method_15_code 3 (some FieldType.int), Cond.classLink "ObjectForgeLaw" 60 "ObjectForgeModel", Cond.instantiable "ObjectForgeModel" 52, Cond.methodLink "ObjectForgeLaw" 62 y_Mo_init, Cond.instanceMethod y_Mo_init, Cond.code y_Mo_init prog_11_method_1_code 1 none, Cond.methodLink "ObjectForgeModel" 1 ⟨"java/lang/Object", "<init>", "()V"⟩, Cond.constant "ObjectForgeModel" 13 (65536 : Int32), Cond.constant "ObjectForgeModel" 75 (32768 : Int32), Cond.fieldLink "ObjectForgeModel" 88 "ObjectForgeModel" "thrown" "I", Cond.fieldLink "ObjectForgeModel" 91 "ObjectForgeModel" "length" "I", Cond.fieldLink "ObjectForgeModel" 7 "ObjectForgeModel" "text" "[B"]
def bw_16 : List Cond := [Cond.fieldLink "ObjectForgeModel" 1010 "ObjectForgeModel" "objects" "I", Cond.fieldLink "ObjectForgeModel" 1214 "ObjectForgeModel" "linked" "I", Cond.fieldLink "ObjectForgeModel" 14 "ObjectForgeModel" "bytes" "[B", Cond.fieldLink "ObjectForgeModel" 17 "ObjectForgeModel" "sizes" "[I", Cond.fieldLink "ObjectForgeModel" 21 "ObjectForgeModel" "symbolCount" "[I", Cond.fieldLink "ObjectForgeModel" 24 "ObjectForgeModel" "referenceCount" "[I", Cond.fieldLink "ObjectForgeModel" 27 "ObjectForgeModel" "nameA" "[J", Cond.fieldLink "ObjectForgeModel" 31 "ObjectForgeModel" "nameB" "[J", Cond.fieldLink "ObjectForgeModel" 34 "ObjectForgeModel" "nameC" "[J", Cond.fieldLink "ObjectForgeModel" 37 "ObjectForgeModel" "nameLength" "[I", Cond.fieldLink "ObjectForgeModel" 40 "ObjectForgeModel" "section" "[I", Cond.fieldLink "ObjectForgeModel" 43 "ObjectForgeModel" "value" "[I", Cond.fieldLink "ObjectForgeModel" 46 "ObjectForgeModel" "global" "[Z", Cond.fieldLink "ObjectForgeModel" 50 "ObjectForgeModel" "refSection" "[I", Cond.fieldLink "ObjectForgeModel" 53 "ObjectForgeModel" "refPlace" "[I", Cond.fieldLink "ObjectForgeModel" 56 "ObjectForgeModel" "refKind" "[I", Cond.fieldLink "ObjectForgeModel" 59 "ObjectForgeModel" "refSymbol" "[I", Cond.fieldLink "ObjectForgeModel" 62 "ObjectForgeModel" "refAddend" "[I", Cond.fieldLink "ObjectForgeModel" 65 "ObjectForgeModel" "refLine" "[I", Cond.fieldLink "ObjectForgeModel" 982 "ObjectForgeModel" "fault" "I", Cond.fieldLink "ObjectForgeModel" 1175 "ObjectForgeModel" "faultLine" "I", Cond.fieldLink "ObjectForgeModel" 1178 "ObjectForgeModel" "linkFault" "I", Cond.fieldLink "ObjectForgeModel" 68 "ObjectForgeModel" "linkObject" "I", Cond.fieldLink "ObjectForgeModel" 72 "ObjectForgeModel" "linkWhich" "I", Cond.fieldLink "ObjectForgeModel" 1191 "ObjectForgeModel" "hasImage" "Z"]
def bw_17 : List Cond := [Cond.fieldLink "ObjectForgeModel" 1188 "ObjectForgeModel" "base" "I", Cond.fieldLink "ObjectForgeModel" 1211 "ObjectForgeModel" "imageSize" "I", Cond.fieldLink "ObjectForgeModel" 76 "ObjectForgeModel" "image" "[B", Cond.fieldLink "ObjectForgeModel" 79 "ObjectForgeModel" "starts" "[I", Cond.fieldLink "ObjectForgeModel" 82 "ObjectForgeModel" "addresses" "[I", Cond.fieldLink "ObjectForgeModel" 102 "ObjectForgeModel" "at" "I", Cond.fieldLink "ObjectForgeModel" 105 "ObjectForgeModel" "stop" "I", Cond.fieldLink "ObjectForgeModel" 119 "ObjectForgeModel" "kind" "I", Cond.fieldLink "ObjectForgeModel" 137 "ObjectForgeModel" "sign" "I", Cond.fieldLink "ObjectForgeModel" 162 "ObjectForgeModel" "nameSize" "I", Cond.fieldLink "ObjectForgeModel" 150 "ObjectForgeModel" "code" "J", Cond.fieldLink "ObjectForgeModel" 140 "ObjectForgeModel" "first" "J", Cond.fieldLink "ObjectForgeModel" 144 "ObjectForgeModel" "second" "J", Cond.fieldLink "ObjectForgeModel" 147 "ObjectForgeModel" "third" "J", Cond.fieldLink "ObjectForgeModel" 85 "ObjectForgeModel" "string" "[B", Cond.fieldLink "ObjectForgeModel" 1050 "ObjectForgeModel" "here" "I", Cond.fieldLink "ObjectForgeModel" 1055 "ObjectForgeModel" "line" "I", Cond.methodLink "ObjectForgeLaw" 69 y_Mo_thrown, Cond.instanceMethod y_Mo_thrown, Cond.selects "ObjectForgeModel" y_Mo_thrown y_Mo_thrown, Cond.code y_Mo_thrown prog_11_method_2_code 1 (some FieldType.int), Cond.methodLink "ObjectForgeLaw" 68 y_Mo_feed, Cond.instanceMethod y_Mo_feed, Cond.selects "ObjectForgeModel" y_Mo_feed y_Mo_feed, Cond.code y_Mo_feed prog_11_method_5_code 5 (some FieldType.int)]
def bw_18 : List Cond := [Cond.methodLink "ObjectForgeModel" 94 y_Mo_refuse, Cond.instanceMethod y_Mo_refuse, Cond.code y_Mo_refuse prog_11_method_3_code 2 (some FieldType.int), Cond.methodLink "ObjectForgeModel" 98 y_Mo_four, Cond.instanceMethod y_Mo_four, Cond.code y_Mo_four prog_11_method_4_code 3 none, Cond.methodLink "ObjectForgeLaw" 75 y_Mo_end, Cond.instanceMethod y_Mo_end, Cond.selects "ObjectForgeModel" y_Mo_end y_Mo_end, Cond.code y_Mo_end prog_11_method_6_code 2 (some FieldType.int), Cond.methodLink "ObjectForgeLaw" 79 y_Mo_assemble, Cond.instanceMethod y_Mo_assemble, Cond.selects "ObjectForgeModel" y_Mo_assemble y_Mo_assemble, Cond.code y_Mo_assemble prog_11_method_72_code 4 (some FieldType.int), Cond.methodLink "ObjectForgeModel" 985 y_Mo_fine, Cond.instanceMethod y_Mo_fine, Cond.code y_Mo_fine prog_11_method_33_code 1 (some FieldType.boolean), Cond.methodLink "ObjectForgeModel" 1169 y_Mo_read, Cond.instanceMethod y_Mo_read, Cond.code y_Mo_read prog_11_method_69_code 15 none, Cond.methodLink "ObjectForgeModel" 998 y_Mo_next, Cond.instanceMethod y_Mo_next, Cond.code y_Mo_next prog_11_method_11_code 2 none, Cond.methodLink "ObjectForgeModel" 108 y_Mo_here, Cond.instanceMethod y_Mo_here]
def bw_19 : List Cond := [Cond.code y_Mo_here prog_11_method_7_code 1 (some FieldType.int), Cond.methodLink "ObjectForgeModel" 112 ⟨"ObjectForgeModel", "isLetter", "(I)Z"⟩, Cond.methodLink "ObjectForgeModel" 122 ⟨"ObjectForgeModel", "named", "()V"⟩, Cond.methodLink "ObjectForgeModel" 116 ⟨"ObjectForgeModel", "isDigit", "(I)Z"⟩, Cond.methodLink "ObjectForgeModel" 125 ⟨"ObjectForgeModel", "counted", "()V"⟩, Cond.methodLink "ObjectForgeModel" 128 ⟨"ObjectForgeModel", "registered", "()V"⟩, Cond.methodLink "ObjectForgeModel" 131 ⟨"ObjectForgeModel", "character", "()V"⟩, Cond.constantLong "ObjectForgeModel" 211 (-1 : Int64), Cond.methodLink "ObjectForgeModel" 134 ⟨"ObjectForgeModel", "quoted", "()V"⟩, Cond.methodLink "ObjectForgeModel" 994 ⟨"ObjectForgeModel", "must", "(Z)Z"⟩, Cond.methodLink "ObjectForgeModel" 988 ⟨"ObjectForgeModel", "wrong", "(I)V"⟩, Cond.methodLink "ObjectForgeModel" 991 ⟨"ObjectForgeModel", "isSign", "(I)Z"⟩, Cond.methodLink "ObjectForgeModel" 1150 ⟨"ObjectForgeModel", "label", "()V"⟩, Cond.methodLink "ObjectForgeModel" 1153 ⟨"ObjectForgeModel", "found", "(J)J"⟩, Cond.methodLink "ObjectForgeModel" 1156 ⟨"ObjectForgeModel", "mayStand", "(I)Z"⟩, Cond.constantLong "ObjectForgeModel" 1159 (40 : Int64), Cond.methodLink "ObjectForgeModel" 1161 ⟨"ObjectForgeModel", "instruction", "(II)V"⟩, Cond.constantLong "ObjectForgeModel" 1108 (-32768 : Int64), Cond.constantLong "ObjectForgeModel" 1110 (32767 : Int64), Cond.methodLink "ObjectForgeModel" 1164 ⟨"ObjectForgeModel", "directive", "(I)V"⟩, Cond.constantLong "ObjectForgeModel" 1144 (255 : Int64), Cond.methodLink "ObjectForgeModel" 1172 y_Mo_settle, Cond.instanceMethod y_Mo_settle, Cond.code y_Mo_settle prog_11_method_71_code 9 none, Cond.constantLong "ObjectForgeModel" 1167 (4 : Int64)]
def bw_20 : List Cond := [Cond.methodLink "ObjectForgeLaw" 82 y_Mo_fault, Cond.instanceMethod y_Mo_fault, Cond.selects "ObjectForgeModel" y_Mo_fault y_Mo_fault, Cond.code y_Mo_fault prog_11_method_73_code 2 (some FieldType.int), Cond.methodLink "ObjectForgeLaw" 86 y_Mo_size, Cond.instanceMethod y_Mo_size, Cond.selects "ObjectForgeModel" y_Mo_size y_Mo_size, Cond.code y_Mo_size prog_11_method_75_code 3 (some FieldType.int), Cond.methodLink "ObjectForgeModel" 1181 y_Mo_within, Cond.static y_Mo_within, Cond.code y_Mo_within prog_11_method_74_code 2 (some FieldType.boolean), Cond.methodLink "ObjectForgeLaw" 90 y_Mo_byteAt, Cond.instanceMethod y_Mo_byteAt, Cond.selects "ObjectForgeModel" y_Mo_byteAt y_Mo_byteAt, Cond.code y_Mo_byteAt prog_11_method_76_code 4 (some FieldType.int), Cond.methodLink "ObjectForgeLaw" 93 y_Mo_symbol, Cond.instanceMethod y_Mo_symbol, Cond.selects "ObjectForgeModel" y_Mo_symbol y_Mo_symbol, Cond.code y_Mo_symbol prog_11_method_77_code 5 (some FieldType.int), Cond.methodLink "ObjectForgeLaw" 96 y_Mo_letter, Cond.instanceMethod y_Mo_letter, Cond.selects "ObjectForgeModel" y_Mo_letter y_Mo_letter, Cond.code y_Mo_letter prog_11_method_78_code 9 (some FieldType.int), Cond.methodLink "ObjectForgeLaw" 99 y_Mo_relocation, Cond.instanceMethod y_Mo_relocation]
def bw_21 : List Cond := [Cond.selects "ObjectForgeModel" y_Mo_relocation y_Mo_relocation, Cond.code y_Mo_relocation prog_11_method_79_code 5 (some FieldType.int), Cond.methodLink "ObjectForgeLaw" 102 y_Mo_link, Cond.instanceMethod y_Mo_link, Cond.selects "ObjectForgeModel" y_Mo_link y_Mo_link, Cond.code y_Mo_link prog_11_method_85_code 7 (some FieldType.int), Cond.methodLink "ObjectForgeModel" 1195 ⟨"ObjectForgeModel", "failed", "(III)I"⟩, Cond.methodLink "ObjectForgeModel" 1199 ⟨"ObjectForgeModel", "lay", "()I"⟩, Cond.methodLink "ObjectForgeModel" 1202 ⟨"ObjectForgeModel", "other", "(III)I"⟩, Cond.methodLink "ObjectForgeModel" 1205 ⟨"ObjectForgeModel", "placeOf", "(I)I"⟩, Cond.methodLink "ObjectForgeModel" 1208 ⟨"ObjectForgeModel", "done", "(II)Z"⟩, Cond.methodLink "ObjectForgeModel" 1217 ⟨"ObjectForgeModel", "wordIn", "(I)I"⟩, Cond.methodLink "ObjectForgeLaw" 105 y_Mo_word, Cond.instanceMethod y_Mo_word, Cond.selects "ObjectForgeModel" y_Mo_word y_Mo_word, Cond.code y_Mo_word prog_11_method_88_code 3 (some FieldType.int), Cond.methodLink "ObjectForgeLaw" 108 y_Mo_address, Cond.instanceMethod y_Mo_address, Cond.selects "ObjectForgeModel" y_Mo_address y_Mo_address, Cond.code y_Mo_address prog_11_method_89_code 3 (some FieldType.int), Cond.methodLink "ObjectForgeLaw" 112 y_Mo_clear, Cond.instanceMethod y_Mo_clear, Cond.selects "ObjectForgeModel" y_Mo_clear y_Mo_clear, Cond.code y_Mo_clear prog_11_method_90_code 2 (some FieldType.int), Cond.methodLink "ObjectForgeLaw" 115 y_Mo_count]
def bw_22 : List Cond := [Cond.instanceMethod y_Mo_count, Cond.selects "ObjectForgeModel" y_Mo_count y_Mo_count, Cond.code y_Mo_count prog_11_method_91_code 3 (some FieldType.int), Cond.selects "ObjectForge$Assembler" y_As_readLabels y_As_readLabels, Cond.selects "ObjectForge$Assembler" y_As_readStatement y_As_readStatement, Cond.selects "ObjectForge$Assembler" y_As_settleBranches y_As_settleBranches, Cond.selects "ObjectForge" y_OF_unitNumbered y_OF_unitNumbered, Cond.selects "ObjectForgeModel" y_Mo_refuse y_Mo_refuse, Cond.selects "ObjectForgeModel" y_Mo_four y_Mo_four, Cond.selects "ObjectForgeModel" y_Mo_fine y_Mo_fine, Cond.selects "ObjectForgeModel" y_Mo_read y_Mo_read, Cond.selects "ObjectForgeModel" y_Mo_next y_Mo_next, Cond.selects "ObjectForgeModel" y_Mo_here y_Mo_here, Cond.selects "ObjectForgeModel" y_Mo_settle y_Mo_settle]
def bw : List Cond := u_ws R_OF F_OF 4 ++ (u_ws R_As F_As 15 ++ (u_ws R_Li F_Li 7 ++ (u_ws R_Re F_Re 7 ++ (u_ws R_So F_So 7 ++ (u_ws R_Sy F_Sy 8 ++ (u_ws R_Un F_Un 5 ++ (u_ws R_Mo F_Mo 52 ++ (bw_0 ++ (bw_1 ++ (bw_2 ++ (bw_3 ++ (bw_4 ++ (bw_5 ++ (bw_6 ++ (bw_7 ++ (bw_8 ++ (bw_9 ++ (bw_10 ++ (bw_11 ++ (bw_12 ++ (bw_13 ++ (bw_14 ++ (bw_15 ++ (bw_16 ++ (bw_17 ++ (bw_18 ++ (bw_19 ++ (bw_20 ++ (bw_21 ++ (bw_22))))))))))))))))))))))))))))))
theorem i_OF : ∀ w ∈ u_ws R_OF F_OF 4, w ∈ bw := fun _ h => List.mem_append_left _ h
theorem i_As : ∀ w ∈ u_ws R_As F_As 15, w ∈ bw := fun _ h => List.mem_append_right _ (List.mem_append_left _ h)
theorem i_Li : ∀ w ∈ u_ws R_Li F_Li 7, w ∈ bw := fun _ h => List.mem_append_right _ (List.mem_append_right _ (List.mem_append_left _ h))
theorem i_Re : ∀ w ∈ u_ws R_Re F_Re 7, w ∈ bw := fun _ h => List.mem_append_right _ (List.mem_append_right _ (List.mem_append_right _ (List.mem_append_left _ h)))
theorem i_So : ∀ w ∈ u_ws R_So F_So 7, w ∈ bw := fun _ h => List.mem_append_right _ (List.mem_append_right _ (List.mem_append_right _ (List.mem_append_right _ (List.mem_append_left _ h))))
theorem i_Sy : ∀ w ∈ u_ws R_Sy F_Sy 8, w ∈ bw := fun _ h => List.mem_append_right _ (List.mem_append_right _ (List.mem_append_right _ (List.mem_append_right _ (List.mem_append_right _ (List.mem_append_left _ h)))))
theorem i_Un : ∀ w ∈ u_ws R_Un F_Un 5, w ∈ bw := fun _ h => List.mem_append_right _ (List.mem_append_right _ (List.mem_append_right _ (List.mem_append_right _ (List.mem_append_right _ (List.mem_append_right _ (List.mem_append_left _ h))))))
theorem i_Mo : ∀ w ∈ u_ws R_Mo F_Mo 52, w ∈ bw := fun _ h => List.mem_append_right _ (List.mem_append_right _ (List.mem_append_right _ (List.mem_append_right _ (List.mem_append_right _ (List.mem_append_right _ (List.mem_append_right _ (List.mem_append_left _ h)))))))
theorem j_0 : ∀ w ∈ bw_0, w ∈ bw := fun _ h => List.mem_append_right _ (List.mem_append_right _ (List.mem_append_right _ (List.mem_append_right _ (List.mem_append_right _ (List.mem_append_right _ (List.mem_append_right _ (List.mem_append_right _ (List.mem_append_left _ h))))))))
theorem j_1 : ∀ w ∈ bw_1, w ∈ bw := fun _ h => List.mem_append_right _ (List.mem_append_right _ (List.mem_append_right _ (List.mem_append_right _ (List.mem_append_right _ (List.mem_append_right _ (List.mem_append_right _ (List.mem_append_right _ (List.mem_append_right _ (List.mem_append_left _ h)))))))))
theorem j_2 : ∀ w ∈ bw_2, w ∈ bw := fun _ h => List.mem_append_right _ (List.mem_append_right _ (List.mem_append_right _ (List.mem_append_right _ (List.mem_append_right _ (List.mem_append_right _ (List.mem_append_right _ (List.mem_append_right _ (List.mem_append_right _ (List.mem_append_right _ (List.mem_append_left _ h))))))))))
theorem j_3 : ∀ w ∈ bw_3, w ∈ bw := fun _ h => List.mem_append_right _ (List.mem_append_right _ (List.mem_append_right _ (List.mem_append_right _ (List.mem_append_right _ (List.mem_append_right _ (List.mem_append_right _ (List.mem_append_right _ (List.mem_append_right _ (List.mem_append_right _ (List.mem_append_right _ (List.mem_append_left _ h)))))))))))
theorem j_4 : ∀ w ∈ bw_4, w ∈ bw := fun _ h => List.mem_append_right _ (List.mem_append_right _ (List.mem_append_right _ (List.mem_append_right _ (List.mem_append_right _ (List.mem_append_right _ (List.mem_append_right _ (List.mem_append_right _ (List.mem_append_right _ (List.mem_append_right _ (List.mem_append_right _ (List.mem_append_right _ (List.mem_append_left _ h))))))))))))
theorem j_5 : ∀ w ∈ bw_5, w ∈ bw := fun _ h => List.mem_append_right _ (List.mem_append_right _ (List.mem_append_right _ (List.mem_append_right _ (List.mem_append_right _ (List.mem_append_right _ (List.mem_append_right _ (List.mem_append_right _ (List.mem_append_right _ (List.mem_append_right _ (List.mem_append_right _ (List.mem_append_right _ (List.mem_append_right _ (List.mem_append_left _ h)))))))))))))
theorem j_6 : ∀ w ∈ bw_6, w ∈ bw := fun _ h => List.mem_append_right _ (List.mem_append_right _ (List.mem_append_right _ (List.mem_append_right _ (List.mem_append_right _ (List.mem_append_right _ (List.mem_append_right _ (List.mem_append_right _ (List.mem_append_right _ (List.mem_append_right _ (List.mem_append_right _ (List.mem_append_right _ (List.mem_append_right _ (List.mem_append_right _ (List.mem_append_left _ h))))))))))))))
theorem j_7 : ∀ w ∈ bw_7, w ∈ bw := fun _ h => List.mem_append_right _ (List.mem_append_right _ (List.mem_append_right _ (List.mem_append_right _ (List.mem_append_right _ (List.mem_append_right _ (List.mem_append_right _ (List.mem_append_right _ (List.mem_append_right _ (List.mem_append_right _ (List.mem_append_right _ (List.mem_append_right _ (List.mem_append_right _ (List.mem_append_right _ (List.mem_append_right _ (List.mem_append_left _ h)))))))))))))))
theorem j_8 : ∀ w ∈ bw_8, w ∈ bw := fun _ h => List.mem_append_right _ (List.mem_append_right _ (List.mem_append_right _ (List.mem_append_right _ (List.mem_append_right _ (List.mem_append_right _ (List.mem_append_right _ (List.mem_append_right _ (List.mem_append_right _ (List.mem_append_right _ (List.mem_append_right _ (List.mem_append_right _ (List.mem_append_right _ (List.mem_append_right _ (List.mem_append_right _ (List.mem_append_right _ (List.mem_append_left _ h))))))))))))))))
theorem j_9 : ∀ w ∈ bw_9, w ∈ bw := fun _ h => List.mem_append_right _ (List.mem_append_right _ (List.mem_append_right _ (List.mem_append_right _ (List.mem_append_right _ (List.mem_append_right _ (List.mem_append_right _ (List.mem_append_right _ (List.mem_append_right _ (List.mem_append_right _ (List.mem_append_right _ (List.mem_append_right _ (List.mem_append_right _ (List.mem_append_right _ (List.mem_append_right _ (List.mem_append_right _ (List.mem_append_right _ (List.mem_append_left _ h)))))))))))))))))
theorem j_10 : ∀ w ∈ bw_10, w ∈ bw := fun _ h => List.mem_append_right _ (List.mem_append_right _ (List.mem_append_right _ (List.mem_append_right _ (List.mem_append_right _ (List.mem_append_right _ (List.mem_append_right _ (List.mem_append_right _ (List.mem_append_right _ (List.mem_append_right _ (List.mem_append_right _ (List.mem_append_right _ (List.mem_append_right _ (List.mem_append_right _ (List.mem_append_right _ (List.mem_append_right _ (List.mem_append_right _ (List.mem_append_right _ (List.mem_append_left _ h))))))))))))))))))
theorem j_11 : ∀ w ∈ bw_11, w ∈ bw := fun _ h => List.mem_append_right _ (List.mem_append_right _ (List.mem_append_right _ (List.mem_append_right _ (List.mem_append_right _ (List.mem_append_right _ (List.mem_append_right _ (List.mem_append_right _ (List.mem_append_right _ (List.mem_append_right _ (List.mem_append_right _ (List.mem_append_right _ (List.mem_append_right _ (List.mem_append_right _ (List.mem_append_right _ (List.mem_append_right _ (List.mem_append_right _ (List.mem_append_right _ (List.mem_append_right _ (List.mem_append_left _ h)))))))))))))))))))
theorem j_12 : ∀ w ∈ bw_12, w ∈ bw := fun _ h => List.mem_append_right _ (List.mem_append_right _ (List.mem_append_right _ (List.mem_append_right _ (List.mem_append_right _ (List.mem_append_right _ (List.mem_append_right _ (List.mem_append_right _ (List.mem_append_right _ (List.mem_append_right _ (List.mem_append_right _ (List.mem_append_right _ (List.mem_append_right _ (List.mem_append_right _ (List.mem_append_right _ (List.mem_append_right _ (List.mem_append_right _ (List.mem_append_right _ (List.mem_append_right _ (List.mem_append_right _ (List.mem_append_left _ h))))))))))))))))))))
theorem j_13 : ∀ w ∈ bw_13, w ∈ bw := fun _ h => List.mem_append_right _ (List.mem_append_right _ (List.mem_append_right _ (List.mem_append_right _ (List.mem_append_right _ (List.mem_append_right _ (List.mem_append_right _ (List.mem_append_right _ (List.mem_append_right _ (List.mem_append_right _ (List.mem_append_right _ (List.mem_append_right _ (List.mem_append_right _ (List.mem_append_right _ (List.mem_append_right _ (List.mem_append_right _ (List.mem_append_right _ (List.mem_append_right _ (List.mem_append_right _ (List.mem_append_right _ (List.mem_append_right _ (List.mem_append_left _ h)))))))))))))))))))))
theorem j_14 : ∀ w ∈ bw_14, w ∈ bw := fun _ h => List.mem_append_right _ (List.mem_append_right _ (List.mem_append_right _ (List.mem_append_right _ (List.mem_append_right _ (List.mem_append_right _ (List.mem_append_right _ (List.mem_append_right _ (List.mem_append_right _ (List.mem_append_right _ (List.mem_append_right _ (List.mem_append_right _ (List.mem_append_right _ (List.mem_append_right _ (List.mem_append_right _ (List.mem_append_right _ (List.mem_append_right _ (List.mem_append_right _ (List.mem_append_right _ (List.mem_append_right _ (List.mem_append_right _ (List.mem_append_right _ (List.mem_append_left _ h))))))))))))))))))))))
theorem j_15 : ∀ w ∈ bw_15, w ∈ bw := fun _ h => List.mem_append_right _ (List.mem_append_right _ (List.mem_append_right _ (List.mem_append_right _ (List.mem_append_right _ (List.mem_append_right _ (List.mem_append_right _ (List.mem_append_right _ (List.mem_append_right _ (List.mem_append_right _ (List.mem_append_right _ (List.mem_append_right _ (List.mem_append_right _ (List.mem_append_right _ (List.mem_append_right _ (List.mem_append_right _ (List.mem_append_right _ (List.mem_append_right _ (List.mem_append_right _ (List.mem_append_right _ (List.mem_append_right _ (List.mem_append_right _ (List.mem_append_right _ (List.mem_append_left _ h)))))))))))))))))))))))
theorem j_16 : ∀ w ∈ bw_16, w ∈ bw := fun _ h => List.mem_append_right _ (List.mem_append_right _ (List.mem_append_right _ (List.mem_append_right _ (List.mem_append_right _ (List.mem_append_right _ (List.mem_append_right _ (List.mem_append_right _ (List.mem_append_right _ (List.mem_append_right _ (List.mem_append_right _ (List.mem_append_right _ (List.mem_append_right _ (List.mem_append_right _ (List.mem_append_right _ (List.mem_append_right _ (List.mem_append_right _ (List.mem_append_right _ (List.mem_append_right _ (List.mem_append_right _ (List.mem_append_right _ (List.mem_append_right _ (List.mem_append_right _ (List.mem_append_right _ (List.mem_append_left _ h))))))))))))))))))))))))
theorem j_17 : ∀ w ∈ bw_17, w ∈ bw := fun _ h => List.mem_append_right _ (List.mem_append_right _ (List.mem_append_right _ (List.mem_append_right _ (List.mem_append_right _ (List.mem_append_right _ (List.mem_append_right _ (List.mem_append_right _ (List.mem_append_right _ (List.mem_append_right _ (List.mem_append_right _ (List.mem_append_right _ (List.mem_append_right _ (List.mem_append_right _ (List.mem_append_right _ (List.mem_append_right _ (List.mem_append_right _ (List.mem_append_right _ (List.mem_append_right _ (List.mem_append_right _ (List.mem_append_right _ (List.mem_append_right _ (List.mem_append_right _ (List.mem_append_right _ (List.mem_append_right _ (List.mem_append_left _ h)))))))))))))))))))))))))
theorem j_18 : ∀ w ∈ bw_18, w ∈ bw := fun _ h => List.mem_append_right _ (List.mem_append_right _ (List.mem_append_right _ (List.mem_append_right _ (List.mem_append_right _ (List.mem_append_right _ (List.mem_append_right _ (List.mem_append_right _ (List.mem_append_right _ (List.mem_append_right _ (List.mem_append_right _ (List.mem_append_right _ (List.mem_append_right _ (List.mem_append_right _ (List.mem_append_right _ (List.mem_append_right _ (List.mem_append_right _ (List.mem_append_right _ (List.mem_append_right _ (List.mem_append_right _ (List.mem_append_right _ (List.mem_append_right _ (List.mem_append_right _ (List.mem_append_right _ (List.mem_append_right _ (List.mem_append_right _ (List.mem_append_left _ h))))))))))))))))))))))))))
theorem j_19 : ∀ w ∈ bw_19, w ∈ bw := fun _ h => List.mem_append_right _ (List.mem_append_right _ (List.mem_append_right _ (List.mem_append_right _ (List.mem_append_right _ (List.mem_append_right _ (List.mem_append_right _ (List.mem_append_right _ (List.mem_append_right _ (List.mem_append_right _ (List.mem_append_right _ (List.mem_append_right _ (List.mem_append_right _ (List.mem_append_right _ (List.mem_append_right _ (List.mem_append_right _ (List.mem_append_right _ (List.mem_append_right _ (List.mem_append_right _ (List.mem_append_right _ (List.mem_append_right _ (List.mem_append_right _ (List.mem_append_right _ (List.mem_append_right _ (List.mem_append_right _ (List.mem_append_right _ (List.mem_append_right _ (List.mem_append_left _ h)))))))))))))))))))))))))))
theorem j_20 : ∀ w ∈ bw_20, w ∈ bw := fun _ h => List.mem_append_right _ (List.mem_append_right _ (List.mem_append_right _ (List.mem_append_right _ (List.mem_append_right _ (List.mem_append_right _ (List.mem_append_right _ (List.mem_append_right _ (List.mem_append_right _ (List.mem_append_right _ (List.mem_append_right _ (List.mem_append_right _ (List.mem_append_right _ (List.mem_append_right _ (List.mem_append_right _ (List.mem_append_right _ (List.mem_append_right _ (List.mem_append_right _ (List.mem_append_right _ (List.mem_append_right _ (List.mem_append_right _ (List.mem_append_right _ (List.mem_append_right _ (List.mem_append_right _ (List.mem_append_right _ (List.mem_append_right _ (List.mem_append_right _ (List.mem_append_right _ (List.mem_append_left _ h))))))))))))))))))))))))))))
theorem j_21 : ∀ w ∈ bw_21, w ∈ bw := fun _ h => List.mem_append_right _ (List.mem_append_right _ (List.mem_append_right _ (List.mem_append_right _ (List.mem_append_right _ (List.mem_append_right _ (List.mem_append_right _ (List.mem_append_right _ (List.mem_append_right _ (List.mem_append_right _ (List.mem_append_right _ (List.mem_append_right _ (List.mem_append_right _ (List.mem_append_right _ (List.mem_append_right _ (List.mem_append_right _ (List.mem_append_right _ (List.mem_append_right _ (List.mem_append_right _ (List.mem_append_right _ (List.mem_append_right _ (List.mem_append_right _ (List.mem_append_right _ (List.mem_append_right _ (List.mem_append_right _ (List.mem_append_right _ (List.mem_append_right _ (List.mem_append_right _ (List.mem_append_right _ (List.mem_append_left _ h)))))))))))))))))))))))))))))
theorem j_22 : ∀ w ∈ bw_22, w ∈ bw := fun _ h => List.mem_append_right _ (List.mem_append_right _ (List.mem_append_right _ (List.mem_append_right _ (List.mem_append_right _ (List.mem_append_right _ (List.mem_append_right _ (List.mem_append_right _ (List.mem_append_right _ (List.mem_append_right _ (List.mem_append_right _ (List.mem_append_right _ (List.mem_append_right _ (List.mem_append_right _ (List.mem_append_right _ (List.mem_append_right _ (List.mem_append_right _ (List.mem_append_right _ (List.mem_append_right _ (List.mem_append_right _ (List.mem_append_right _ (List.mem_append_right _ (List.mem_append_right _ (List.mem_append_right _ (List.mem_append_right _ (List.mem_append_right _ (List.mem_append_right _ (List.mem_append_right _ (List.mem_append_right _ (List.mem_append_right _ (h))))))))))))))))))))))))))))))
theorem w_0 : Cond.initialized "ObjectForgeLaw" ∈ bw := j_0 _ (List.mem_of_getElem? (i := 0) rfl)
theorem w_1 : Cond.initialized "ObjectForge" ∈ bw := j_0 _ (List.mem_of_getElem? (i := 1) rfl)
theorem w_2 : Cond.initialized "ObjectForge$Assembler" ∈ bw := j_0 _ (List.mem_of_getElem? (i := 2) rfl)
theorem w_3 : Cond.initialized "ObjectForge$Source" ∈ bw := j_0 _ (List.mem_of_getElem? (i := 3) rfl)
theorem w_4 : Cond.initialized "ObjectForge$Unit" ∈ bw := j_0 _ (List.mem_of_getElem? (i := 4) rfl)
theorem w_5 : Cond.initialized "ObjectForge$Symbols" ∈ bw := j_0 _ (List.mem_of_getElem? (i := 5) rfl)
theorem w_6 : Cond.initialized "ObjectForge$Relocations" ∈ bw := j_0 _ (List.mem_of_getElem? (i := 6) rfl)
theorem w_7 : Cond.initialized "ObjectForge$Linker" ∈ bw := j_0 _ (List.mem_of_getElem? (i := 7) rfl)
theorem w_8 : Cond.initialized "ObjectForgeModel" ∈ bw := j_0 _ (List.mem_of_getElem? (i := 8) rfl)
theorem w_9 : Cond.initialized "java/lang/Throwable" ∈ bw := j_0 _ (List.mem_of_getElem? (i := 9) rfl)
theorem w_10 : Cond.initialized "java/lang/Exception" ∈ bw := j_0 _ (List.mem_of_getElem? (i := 10) rfl)
theorem w_11 : Cond.initialized "java/lang/RuntimeException" ∈ bw := j_0 _ (List.mem_of_getElem? (i := 11) rfl)
theorem w_12 : Cond.initialized "java/lang/IllegalStateException" ∈ bw := j_0 _ (List.mem_of_getElem? (i := 12) rfl)
theorem w_13 : Cond.initialized "java/lang/IllegalArgumentException" ∈ bw := j_0 _ (List.mem_of_getElem? (i := 13) rfl)
theorem w_14 : Cond.initialized "java/util/Arrays" ∈ bw := j_0 _ (List.mem_of_getElem? (i := 14) rfl)
theorem w_15 : Cond.initialized "java/lang/IndexOutOfBoundsException" ∈ bw := j_0 _ (List.mem_of_getElem? (i := 15) rfl)
theorem w_16 : Cond.classLink "ObjectForgeLaw" 8 "ObjectForge" ∈ bw := j_0 _ (List.mem_of_getElem? (i := 16) rfl)
theorem w_17 : Cond.instantiable "ObjectForge" 4 ∈ bw := j_0 _ (List.mem_of_getElem? (i := 17) rfl)
theorem w_18 : Cond.methodLink "ObjectForgeLaw" 59 y_OF_init ∈ bw := j_0 _ (List.mem_of_getElem? (i := 18) rfl)
theorem w_19 : Cond.instanceMethod y_OF_init ∈ bw := j_0 _ (List.mem_of_getElem? (i := 19) rfl)
theorem w_20 : Cond.code y_OF_init prog_1_method_1_code 2 none ∈ bw := j_0 _ (List.mem_of_getElem? (i := 20) rfl)
theorem w_21 : Cond.methodLink "ObjectForge" 1 ⟨"java/lang/Object", "<init>", "()V"⟩ ∈ bw := j_0 _ (List.mem_of_getElem? (i := 21) rfl)
theorem w_22 : Cond.instanceMethod ⟨"java/lang/Object", "<init>", "()V"⟩ ∈ bw := j_0 _ (List.mem_of_getElem? (i := 22) rfl)
theorem w_23 : Cond.code ⟨"java/lang/Object", "<init>", "()V"⟩ object_method_1_code 1 none ∈ bw := j_0 _ (List.mem_of_getElem? (i := 23) rfl)
theorem w_24 : Cond.classLink "ObjectForge" 7 "ObjectForge$Assembler" ∈ bw := j_0 _ (List.mem_of_getElem? (i := 24) rfl)
theorem w_25 : Cond.instantiable "ObjectForge$Assembler" 15 ∈ bw := j_1 _ (List.mem_of_getElem? (i := 0) rfl)
theorem w_26 : Cond.instanceMethod y_As_init ∈ bw := j_1 _ (List.mem_of_getElem? (i := 1) rfl)
theorem w_27 : Cond.code y_As_init prog_2_method_1_code 1 none ∈ bw := j_1 _ (List.mem_of_getElem? (i := 2) rfl)
theorem w_28 : Cond.methodLink "ObjectForge$Assembler" 3 ⟨"java/lang/Object", "<init>", "()V"⟩ ∈ bw := j_1 _ (List.mem_of_getElem? (i := 3) rfl)
theorem w_29 : Cond.classLink "ObjectForge$Assembler" 9 "ObjectForge$Source" ∈ bw := j_1 _ (List.mem_of_getElem? (i := 4) rfl)
theorem w_30 : Cond.instantiable "ObjectForge$Source" 7 ∈ bw := j_1 _ (List.mem_of_getElem? (i := 5) rfl)
theorem w_31 : Cond.instanceMethod y_So_init ∈ bw := j_1 _ (List.mem_of_getElem? (i := 6) rfl)
theorem w_32 : Cond.code y_So_init prog_7_method_1_code 1 none ∈ bw := j_1 _ (List.mem_of_getElem? (i := 7) rfl)
theorem w_33 : Cond.methodLink "ObjectForge$Source" 3 ⟨"java/lang/Object", "<init>", "()V"⟩ ∈ bw := j_1 _ (List.mem_of_getElem? (i := 8) rfl)
theorem w_34 : Cond.fieldLink "ObjectForge$Source" 9 "ObjectForge$Source" "bytes" "[B" ∈ bw := j_1 _ (List.mem_of_getElem? (i := 9) rfl)
theorem w_35 : Cond.fieldLink "ObjectForge$Source" 15 "ObjectForge$Source" "length" "I" ∈ bw := j_1 _ (List.mem_of_getElem? (i := 10) rfl)
theorem w_36 : Cond.fieldLink "ObjectForge" 38 "ObjectForge$Source" "length" "I" ∈ bw := j_1 _ (List.mem_of_getElem? (i := 11) rfl)
theorem w_37 : Cond.fieldLink "ObjectForge$Source" 19 "ObjectForge$Source" "kinds" "[I" ∈ bw := j_1 _ (List.mem_of_getElem? (i := 12) rfl)
theorem w_38 : Cond.fieldLink "ObjectForge$Source" 23 "ObjectForge$Source" "starts" "[I" ∈ bw := j_1 _ (List.mem_of_getElem? (i := 13) rfl)
theorem w_39 : Cond.fieldLink "ObjectForge$Source" 26 "ObjectForge$Source" "values" "[I" ∈ bw := j_1 _ (List.mem_of_getElem? (i := 14) rfl)
theorem w_40 : Cond.fieldLink "ObjectForge$Source" 29 "ObjectForge$Source" "tokens" "I" ∈ bw := j_1 _ (List.mem_of_getElem? (i := 15) rfl)
theorem w_41 : Cond.fieldLink "ObjectForge$Source" 32 "ObjectForge$Source" "lineEnd" "I" ∈ bw := j_1 _ (List.mem_of_getElem? (i := 16) rfl)
theorem w_42 : Cond.arrayClass FieldType.byte ∈ bw := j_1 _ (List.mem_of_getElem? (i := 17) rfl)
theorem w_43 : Cond.arrayClass FieldType.int ∈ bw := j_1 _ (List.mem_of_getElem? (i := 18) rfl)
theorem w_44 : Cond.classLink "ObjectForge$Assembler" 18 "ObjectForge$Unit" ∈ bw := j_1 _ (List.mem_of_getElem? (i := 19) rfl)
theorem w_45 : Cond.instantiable "ObjectForge$Unit" 5 ∈ bw := j_1 _ (List.mem_of_getElem? (i := 20) rfl)
theorem w_46 : Cond.instanceMethod y_Un_init ∈ bw := j_1 _ (List.mem_of_getElem? (i := 21) rfl)
theorem w_47 : Cond.code y_Un_init prog_9_method_1_code 1 none ∈ bw := j_1 _ (List.mem_of_getElem? (i := 22) rfl)
theorem w_48 : Cond.methodLink "ObjectForge$Unit" 3 ⟨"java/lang/Object", "<init>", "()V"⟩ ∈ bw := j_1 _ (List.mem_of_getElem? (i := 23) rfl)
theorem w_49 : Cond.classLink "ObjectForge$Unit" 9 "[[B" ∈ bw := j_1 _ (List.mem_of_getElem? (i := 24) rfl)
theorem w_50 : Cond.classLink "ObjectForge$Unit" 23 "ObjectForge$Symbols" ∈ bw := j_2 _ (List.mem_of_getElem? (i := 0) rfl)
theorem w_51 : Cond.instantiable "ObjectForge$Symbols" 8 ∈ bw := j_2 _ (List.mem_of_getElem? (i := 1) rfl)
theorem w_52 : Cond.instanceMethod y_Sy_init ∈ bw := j_2 _ (List.mem_of_getElem? (i := 2) rfl)
theorem w_53 : Cond.code y_Sy_init prog_8_method_1_code 1 none ∈ bw := j_2 _ (List.mem_of_getElem? (i := 3) rfl)
theorem w_54 : Cond.methodLink "ObjectForge$Symbols" 3 ⟨"java/lang/Object", "<init>", "()V"⟩ ∈ bw := j_2 _ (List.mem_of_getElem? (i := 4) rfl)
theorem w_55 : Cond.fieldLink "ObjectForge$Symbols" 9 "ObjectForge$Symbols" "names" "[B" ∈ bw := j_2 _ (List.mem_of_getElem? (i := 5) rfl)
theorem w_56 : Cond.fieldLink "ObjectForge" 127 "ObjectForge$Symbols" "names" "[B" ∈ bw := j_2 _ (List.mem_of_getElem? (i := 6) rfl)
theorem w_57 : Cond.fieldLink "ObjectForge$Symbols" 15 "ObjectForge$Symbols" "lengths" "[I" ∈ bw := j_2 _ (List.mem_of_getElem? (i := 7) rfl)
theorem w_58 : Cond.fieldLink "ObjectForge" 122 "ObjectForge$Symbols" "lengths" "[I" ∈ bw := j_2 _ (List.mem_of_getElem? (i := 8) rfl)
theorem w_59 : Cond.fieldLink "ObjectForge$Symbols" 19 "ObjectForge$Symbols" "sections" "[I" ∈ bw := j_2 _ (List.mem_of_getElem? (i := 9) rfl)
theorem w_60 : Cond.fieldLink "ObjectForge$Assembler" 93 "ObjectForge$Symbols" "sections" "[I" ∈ bw := j_2 _ (List.mem_of_getElem? (i := 10) rfl)
theorem w_61 : Cond.fieldLink "ObjectForge" 112 "ObjectForge$Symbols" "sections" "[I" ∈ bw := j_2 _ (List.mem_of_getElem? (i := 11) rfl)
theorem w_62 : Cond.fieldLink "ObjectForge$Symbols" 22 "ObjectForge$Symbols" "values" "[I" ∈ bw := j_2 _ (List.mem_of_getElem? (i := 12) rfl)
theorem w_63 : Cond.fieldLink "ObjectForge$Assembler" 99 "ObjectForge$Symbols" "values" "[I" ∈ bw := j_2 _ (List.mem_of_getElem? (i := 13) rfl)
theorem w_64 : Cond.fieldLink "ObjectForge" 115 "ObjectForge$Symbols" "values" "[I" ∈ bw := j_2 _ (List.mem_of_getElem? (i := 14) rfl)
theorem w_65 : Cond.fieldLink "ObjectForge$Symbols" 25 "ObjectForge$Symbols" "globals" "[Z" ∈ bw := j_2 _ (List.mem_of_getElem? (i := 15) rfl)
theorem w_66 : Cond.fieldLink "ObjectForge" 118 "ObjectForge$Symbols" "globals" "[Z" ∈ bw := j_2 _ (List.mem_of_getElem? (i := 16) rfl)
theorem w_67 : Cond.fieldLink "ObjectForge$Symbols" 29 "ObjectForge$Symbols" "addresses" "[I" ∈ bw := j_2 _ (List.mem_of_getElem? (i := 17) rfl)
theorem w_68 : Cond.fieldLink "ObjectForge" 173 "ObjectForge$Symbols" "addresses" "[I" ∈ bw := j_2 _ (List.mem_of_getElem? (i := 18) rfl)
theorem w_69 : Cond.fieldLink "ObjectForge$Symbols" 32 "ObjectForge$Symbols" "sums" "[I" ∈ bw := j_2 _ (List.mem_of_getElem? (i := 19) rfl)
theorem w_70 : Cond.fieldLink "ObjectForge$Symbols" 35 "ObjectForge$Symbols" "number" "I" ∈ bw := j_2 _ (List.mem_of_getElem? (i := 20) rfl)
theorem w_71 : Cond.fieldLink "ObjectForge$Unit" 43 "ObjectForge$Symbols" "number" "I" ∈ bw := j_2 _ (List.mem_of_getElem? (i := 21) rfl)
theorem w_72 : Cond.fieldLink "ObjectForge" 107 "ObjectForge$Symbols" "number" "I" ∈ bw := j_2 _ (List.mem_of_getElem? (i := 22) rfl)
theorem w_73 : Cond.fieldLink "ObjectForge$Assembler" 333 "ObjectForge$Symbols" "number" "I" ∈ bw := j_2 _ (List.mem_of_getElem? (i := 23) rfl)
theorem w_74 : Cond.arrayClass FieldType.boolean ∈ bw := j_2 _ (List.mem_of_getElem? (i := 24) rfl)
theorem w_75 : Cond.classLink "ObjectForge$Unit" 30 "ObjectForge$Relocations" ∈ bw := j_3 _ (List.mem_of_getElem? (i := 0) rfl)
theorem w_76 : Cond.instantiable "ObjectForge$Relocations" 7 ∈ bw := j_3 _ (List.mem_of_getElem? (i := 1) rfl)
theorem w_77 : Cond.instanceMethod y_Re_init ∈ bw := j_3 _ (List.mem_of_getElem? (i := 2) rfl)
theorem w_78 : Cond.code y_Re_init prog_6_method_1_code 1 none ∈ bw := j_3 _ (List.mem_of_getElem? (i := 3) rfl)
theorem w_79 : Cond.methodLink "ObjectForge$Relocations" 3 ⟨"java/lang/Object", "<init>", "()V"⟩ ∈ bw := j_3 _ (List.mem_of_getElem? (i := 4) rfl)
theorem w_80 : Cond.fieldLink "ObjectForge$Relocations" 9 "ObjectForge$Relocations" "sections" "[I" ∈ bw := j_3 _ (List.mem_of_getElem? (i := 5) rfl)
theorem w_81 : Cond.fieldLink "ObjectForge" 138 "ObjectForge$Relocations" "sections" "[I" ∈ bw := j_3 _ (List.mem_of_getElem? (i := 6) rfl)
theorem w_82 : Cond.fieldLink "ObjectForge$Relocations" 15 "ObjectForge$Relocations" "places" "[I" ∈ bw := j_3 _ (List.mem_of_getElem? (i := 7) rfl)
theorem w_83 : Cond.fieldLink "ObjectForge" 139 "ObjectForge$Relocations" "places" "[I" ∈ bw := j_3 _ (List.mem_of_getElem? (i := 8) rfl)
theorem w_84 : Cond.fieldLink "ObjectForge$Assembler" 314 "ObjectForge$Relocations" "places" "[I" ∈ bw := j_3 _ (List.mem_of_getElem? (i := 9) rfl)
theorem w_85 : Cond.fieldLink "ObjectForge$Relocations" 18 "ObjectForge$Relocations" "kinds" "[I" ∈ bw := j_3 _ (List.mem_of_getElem? (i := 10) rfl)
theorem w_86 : Cond.fieldLink "ObjectForge" 142 "ObjectForge$Relocations" "kinds" "[I" ∈ bw := j_3 _ (List.mem_of_getElem? (i := 11) rfl)
theorem w_87 : Cond.fieldLink "ObjectForge$Assembler" 317 "ObjectForge$Relocations" "kinds" "[I" ∈ bw := j_3 _ (List.mem_of_getElem? (i := 12) rfl)
theorem w_88 : Cond.fieldLink "ObjectForge$Relocations" 21 "ObjectForge$Relocations" "symbols" "[I" ∈ bw := j_3 _ (List.mem_of_getElem? (i := 13) rfl)
theorem w_89 : Cond.fieldLink "ObjectForge" 145 "ObjectForge$Relocations" "symbols" "[I" ∈ bw := j_3 _ (List.mem_of_getElem? (i := 14) rfl)
theorem w_90 : Cond.fieldLink "ObjectForge$Assembler" 320 "ObjectForge$Relocations" "symbols" "[I" ∈ bw := j_3 _ (List.mem_of_getElem? (i := 15) rfl)
theorem w_91 : Cond.fieldLink "ObjectForge$Relocations" 24 "ObjectForge$Relocations" "addends" "[J" ∈ bw := j_3 _ (List.mem_of_getElem? (i := 16) rfl)
theorem w_92 : Cond.fieldLink "ObjectForge" 147 "ObjectForge$Relocations" "addends" "[J" ∈ bw := j_3 _ (List.mem_of_getElem? (i := 17) rfl)
theorem w_93 : Cond.fieldLink "ObjectForge$Assembler" 322 "ObjectForge$Relocations" "addends" "[J" ∈ bw := j_3 _ (List.mem_of_getElem? (i := 18) rfl)
theorem w_94 : Cond.fieldLink "ObjectForge$Relocations" 28 "ObjectForge$Relocations" "lines" "[I" ∈ bw := j_3 _ (List.mem_of_getElem? (i := 19) rfl)
theorem w_95 : Cond.fieldLink "ObjectForge$Assembler" 326 "ObjectForge$Relocations" "lines" "[I" ∈ bw := j_3 _ (List.mem_of_getElem? (i := 20) rfl)
theorem w_96 : Cond.fieldLink "ObjectForge$Relocations" 31 "ObjectForge$Relocations" "number" "I" ∈ bw := j_3 _ (List.mem_of_getElem? (i := 21) rfl)
theorem w_97 : Cond.fieldLink "ObjectForge$Unit" 47 "ObjectForge$Relocations" "number" "I" ∈ bw := j_3 _ (List.mem_of_getElem? (i := 22) rfl)
theorem w_98 : Cond.fieldLink "ObjectForge" 135 "ObjectForge$Relocations" "number" "I" ∈ bw := j_3 _ (List.mem_of_getElem? (i := 23) rfl)
theorem w_99 : Cond.fieldLink "ObjectForge$Assembler" 309 "ObjectForge$Relocations" "number" "I" ∈ bw := j_3 _ (List.mem_of_getElem? (i := 24) rfl)
theorem w_100 : Cond.arrayClass FieldType.long ∈ bw := j_4 _ (List.mem_of_getElem? (i := 0) rfl)
theorem w_101 : Cond.fieldLink "ObjectForge$Unit" 11 "ObjectForge$Unit" "bytes" "[[B" ∈ bw := j_4 _ (List.mem_of_getElem? (i := 1) rfl)
theorem w_102 : Cond.fieldLink "ObjectForge" 99 "ObjectForge$Unit" "bytes" "[[B" ∈ bw := j_4 _ (List.mem_of_getElem? (i := 2) rfl)
theorem w_103 : Cond.fieldLink "ObjectForge$Unit" 16 "ObjectForge$Unit" "sizes" "[I" ∈ bw := j_4 _ (List.mem_of_getElem? (i := 3) rfl)
theorem w_104 : Cond.fieldLink "ObjectForge$Assembler" 102 "ObjectForge$Unit" "sizes" "[I" ∈ bw := j_4 _ (List.mem_of_getElem? (i := 4) rfl)
theorem w_105 : Cond.fieldLink "ObjectForge" 95 "ObjectForge$Unit" "sizes" "[I" ∈ bw := j_4 _ (List.mem_of_getElem? (i := 5) rfl)
theorem w_106 : Cond.fieldLink "ObjectForge$Unit" 20 "ObjectForge$Unit" "starts" "[I" ∈ bw := j_4 _ (List.mem_of_getElem? (i := 6) rfl)
theorem w_107 : Cond.fieldLink "ObjectForge$Unit" 26 "ObjectForge$Unit" "symbols" "LObjectForge$Symbols;" ∈ bw := j_4 _ (List.mem_of_getElem? (i := 7) rfl)
theorem w_108 : Cond.fieldLink "ObjectForge$Assembler" 89 "ObjectForge$Unit" "symbols" "LObjectForge$Symbols;" ∈ bw := j_4 _ (List.mem_of_getElem? (i := 8) rfl)
theorem w_109 : Cond.fieldLink "ObjectForge" 103 "ObjectForge$Unit" "symbols" "LObjectForge$Symbols;" ∈ bw := j_4 _ (List.mem_of_getElem? (i := 9) rfl)
theorem w_110 : Cond.fieldLink "ObjectForge$Unit" 33 "ObjectForge$Unit" "relocations" "LObjectForge$Relocations;" ∈ bw := j_4 _ (List.mem_of_getElem? (i := 10) rfl)
theorem w_111 : Cond.fieldLink "ObjectForge" 131 "ObjectForge$Unit" "relocations" "LObjectForge$Relocations;" ∈ bw := j_4 _ (List.mem_of_getElem? (i := 11) rfl)
theorem w_112 : Cond.fieldLink "ObjectForge$Assembler" 305 "ObjectForge$Unit" "relocations" "LObjectForge$Relocations;" ∈ bw := j_4 _ (List.mem_of_getElem? (i := 12) rfl)
theorem w_113 : Cond.fieldLink "ObjectForge$Assembler" 12 "ObjectForge$Assembler" "source" "LObjectForge$Source;" ∈ bw := j_4 _ (List.mem_of_getElem? (i := 13) rfl)
theorem w_114 : Cond.fieldLink "ObjectForge" 34 "ObjectForge$Assembler" "source" "LObjectForge$Source;" ∈ bw := j_4 _ (List.mem_of_getElem? (i := 14) rfl)
theorem w_115 : Cond.fieldLink "ObjectForge$Assembler" 21 "ObjectForge$Assembler" "draft" "LObjectForge$Unit;" ∈ bw := j_4 _ (List.mem_of_getElem? (i := 15) rfl)
theorem w_116 : Cond.fieldLink "ObjectForge" 65 "ObjectForge$Assembler" "draft" "LObjectForge$Unit;" ∈ bw := j_4 _ (List.mem_of_getElem? (i := 16) rfl)
theorem w_117 : Cond.fieldLink "ObjectForge$Assembler" 25 "ObjectForge$Assembler" "fault" "I" ∈ bw := j_4 _ (List.mem_of_getElem? (i := 17) rfl)
theorem w_118 : Cond.fieldLink "ObjectForge" 69 "ObjectForge$Assembler" "fault" "I" ∈ bw := j_4 _ (List.mem_of_getElem? (i := 18) rfl)
theorem w_119 : Cond.fieldLink "ObjectForge$Assembler" 29 "ObjectForge$Assembler" "faultLine" "I" ∈ bw := j_4 _ (List.mem_of_getElem? (i := 19) rfl)
theorem w_120 : Cond.fieldLink "ObjectForge" 72 "ObjectForge$Assembler" "faultLine" "I" ∈ bw := j_4 _ (List.mem_of_getElem? (i := 20) rfl)
theorem w_121 : Cond.fieldLink "ObjectForge$Assembler" 32 "ObjectForge$Assembler" "line" "I" ∈ bw := j_4 _ (List.mem_of_getElem? (i := 21) rfl)
theorem w_122 : Cond.fieldLink "ObjectForge$Assembler" 35 "ObjectForge$Assembler" "section" "I" ∈ bw := j_4 _ (List.mem_of_getElem? (i := 22) rfl)
theorem w_123 : Cond.fieldLink "ObjectForge$Assembler" 38 "ObjectForge$Assembler" "cursor" "I" ∈ bw := j_4 _ (List.mem_of_getElem? (i := 23) rfl)
theorem w_124 : Cond.fieldLink "ObjectForge$Assembler" 41 "ObjectForge$Assembler" "nameToken" "I" ∈ bw := j_4 _ (List.mem_of_getElem? (i := 24) rfl)
theorem w_125 : Cond.fieldLink "ObjectForge$Assembler" 44 "ObjectForge$Assembler" "number" "J" ∈ bw := j_5 _ (List.mem_of_getElem? (i := 0) rfl)
theorem w_126 : Cond.fieldLink "ObjectForge$Assembler" 48 "ObjectForge$Assembler" "half" "I" ∈ bw := j_5 _ (List.mem_of_getElem? (i := 1) rfl)
theorem w_127 : Cond.fieldLink "ObjectForge$Assembler" 51 "ObjectForge$Assembler" "sources" "I" ∈ bw := j_5 _ (List.mem_of_getElem? (i := 2) rfl)
theorem w_128 : Cond.fieldLink "ObjectForge$Assembler" 54 "ObjectForge$Assembler" "others" "I" ∈ bw := j_5 _ (List.mem_of_getElem? (i := 3) rfl)
theorem w_129 : Cond.fieldLink "ObjectForge$Assembler" 57 "ObjectForge$Assembler" "reference" "I" ∈ bw := j_5 _ (List.mem_of_getElem? (i := 4) rfl)
theorem w_130 : Cond.fieldLink "ObjectForge$Assembler" 60 "ObjectForge$Assembler" "upperHolder" "I" ∈ bw := j_5 _ (List.mem_of_getElem? (i := 5) rfl)
theorem w_131 : Cond.fieldLink "ObjectForge$Assembler" 63 "ObjectForge$Assembler" "symbolNumber" "I" ∈ bw := j_5 _ (List.mem_of_getElem? (i := 6) rfl)
theorem w_132 : Cond.classLink "ObjectForge" 16 "ObjectForge$Linker" ∈ bw := j_5 _ (List.mem_of_getElem? (i := 7) rfl)
theorem w_133 : Cond.instantiable "ObjectForge$Linker" 7 ∈ bw := j_5 _ (List.mem_of_getElem? (i := 8) rfl)
theorem w_134 : Cond.instanceMethod y_Li_init ∈ bw := j_5 _ (List.mem_of_getElem? (i := 9) rfl)
theorem w_135 : Cond.code y_Li_init prog_4_method_1_code 1 none ∈ bw := j_5 _ (List.mem_of_getElem? (i := 10) rfl)
theorem w_136 : Cond.methodLink "ObjectForge$Linker" 3 ⟨"java/lang/Object", "<init>", "()V"⟩ ∈ bw := j_5 _ (List.mem_of_getElem? (i := 11) rfl)
theorem w_137 : Cond.constant "ObjectForge$Linker" 9 (32768 : Int32) ∈ bw := j_5 _ (List.mem_of_getElem? (i := 12) rfl)
theorem w_138 : Cond.fieldLink "ObjectForge$Linker" 10 "ObjectForge$Linker" "image" "[B" ∈ bw := j_5 _ (List.mem_of_getElem? (i := 13) rfl)
theorem w_139 : Cond.fieldLink "ObjectForge$Linker" 16 "ObjectForge$Linker" "base" "I" ∈ bw := j_5 _ (List.mem_of_getElem? (i := 14) rfl)
theorem w_140 : Cond.fieldLink "ObjectForge$Linker" 20 "ObjectForge$Linker" "imageSize" "I" ∈ bw := j_5 _ (List.mem_of_getElem? (i := 15) rfl)
theorem w_141 : Cond.fieldLink "ObjectForge$Linker" 23 "ObjectForge$Linker" "joined" "I" ∈ bw := j_5 _ (List.mem_of_getElem? (i := 16) rfl)
theorem w_142 : Cond.fieldLink "ObjectForge" 168 "ObjectForge$Linker" "joined" "I" ∈ bw := j_5 _ (List.mem_of_getElem? (i := 17) rfl)
theorem w_143 : Cond.fieldLink "ObjectForge$Linker" 26 "ObjectForge$Linker" "fault" "I" ∈ bw := j_5 _ (List.mem_of_getElem? (i := 18) rfl)
theorem w_144 : Cond.fieldLink "ObjectForge" 75 "ObjectForge$Linker" "fault" "I" ∈ bw := j_5 _ (List.mem_of_getElem? (i := 19) rfl)
theorem w_145 : Cond.fieldLink "ObjectForge$Linker" 29 "ObjectForge$Linker" "faultObject" "I" ∈ bw := j_5 _ (List.mem_of_getElem? (i := 20) rfl)
theorem w_146 : Cond.fieldLink "ObjectForge" 76 "ObjectForge$Linker" "faultObject" "I" ∈ bw := j_5 _ (List.mem_of_getElem? (i := 21) rfl)
theorem w_147 : Cond.fieldLink "ObjectForge$Linker" 32 "ObjectForge$Linker" "faultItem" "I" ∈ bw := j_5 _ (List.mem_of_getElem? (i := 22) rfl)
theorem w_148 : Cond.fieldLink "ObjectForge" 79 "ObjectForge$Linker" "faultItem" "I" ∈ bw := j_5 _ (List.mem_of_getElem? (i := 23) rfl)
theorem w_149 : Cond.classLink "ObjectForge" 23 "ObjectForge$Unit" ∈ bw := j_5 _ (List.mem_of_getElem? (i := 24) rfl)
theorem w_150 : Cond.fieldLink "ObjectForge" 10 "ObjectForge" "assembler" "LObjectForge$Assembler;" ∈ bw := j_6 _ (List.mem_of_getElem? (i := 0) rfl)
theorem w_151 : Cond.fieldLink "ObjectForge" 19 "ObjectForge" "linker" "LObjectForge$Linker;" ∈ bw := j_6 _ (List.mem_of_getElem? (i := 1) rfl)
theorem w_152 : Cond.fieldLink "ObjectForge" 25 "ObjectForge" "units" "[LObjectForge$Unit;" ∈ bw := j_6 _ (List.mem_of_getElem? (i := 2) rfl)
theorem w_153 : Cond.fieldLink "ObjectForge" 29 "ObjectForge" "unitCount" "I" ∈ bw := j_6 _ (List.mem_of_getElem? (i := 3) rfl)
theorem w_154 : Cond.methodLink "ObjectForgeLaw" 109 y_OF_clear ∈ bw := j_6 _ (List.mem_of_getElem? (i := 4) rfl)
theorem w_155 : Cond.instanceMethod y_OF_clear ∈ bw := j_6 _ (List.mem_of_getElem? (i := 5) rfl)
theorem w_156 : Cond.selects "ObjectForge" y_OF_clear y_OF_clear ∈ bw := j_6 _ (List.mem_of_getElem? (i := 6) rfl)
theorem w_157 : Cond.code y_OF_clear prog_1_method_14_code 2 (some FieldType.int) ∈ bw := j_6 _ (List.mem_of_getElem? (i := 7) rfl)
theorem w_158 : Cond.methodLink "ObjectForge" 176 y_Li_dropImage ∈ bw := j_6 _ (List.mem_of_getElem? (i := 8) rfl)
theorem w_159 : Cond.instanceMethod y_Li_dropImage ∈ bw := j_6 _ (List.mem_of_getElem? (i := 9) rfl)
theorem w_160 : Cond.selects "ObjectForge$Linker" y_Li_dropImage y_Li_dropImage ∈ bw := j_6 _ (List.mem_of_getElem? (i := 10) rfl)
theorem w_161 : Cond.code y_Li_dropImage prog_4_method_2_code 1 none ∈ bw := j_6 _ (List.mem_of_getElem? (i := 11) rfl)
theorem w_162 : Cond.methodLink "ObjectForgeLaw" 63 y_La_feed ∈ bw := j_6 _ (List.mem_of_getElem? (i := 12) rfl)
theorem w_163 : Cond.static y_La_feed ∈ bw := j_6 _ (List.mem_of_getElem? (i := 13) rfl)
theorem w_164 : Cond.codeWith y_La_feed method_3_code 7 (some FieldType.int) [(0, 14, 17, 13)] ∈ bw := j_6 _ (List.mem_of_getElem? (i := 14) rfl)
theorem w_165 : Cond.classLink "ObjectForgeLaw" 13 "java/lang/IllegalStateException" ∈ bw := j_6 _ (List.mem_of_getElem? (i := 15) rfl)
theorem w_166 : Cond.methodLink "ObjectForgeLaw" 7 y_OF_feed ∈ bw := j_6 _ (List.mem_of_getElem? (i := 16) rfl)
theorem w_167 : Cond.instanceMethod y_OF_feed ∈ bw := j_6 _ (List.mem_of_getElem? (i := 17) rfl)
theorem w_168 : Cond.selects "ObjectForge" y_OF_feed y_OF_feed ∈ bw := j_6 _ (List.mem_of_getElem? (i := 18) rfl)
theorem w_169 : Cond.code y_OF_feed prog_1_method_2_code 6 (some FieldType.int) ∈ bw := j_6 _ (List.mem_of_getElem? (i := 19) rfl)
theorem w_170 : Cond.classLink "ObjectForge" 43 "java/lang/IllegalStateException" ∈ bw := j_6 _ (List.mem_of_getElem? (i := 20) rfl)
theorem w_171 : Cond.instantiable "java/lang/IllegalStateException" 6 ∈ bw := j_6 _ (List.mem_of_getElem? (i := 21) rfl)
theorem w_172 : Cond.selects "java/lang/IllegalStateException" ⟨"java/lang/Throwable", "fillInStackTrace", "(I)Ljava/lang/Throwable;"⟩ ⟨"java/lang/Throwable", "fillInStackTrace", "(I)Ljava/lang/Throwable;"⟩ ∈ bw := j_6 _ (List.mem_of_getElem? (i := 22) rfl)
theorem w_173 : Cond.selects "java/lang/IllegalStateException" ⟨"java/lang/Throwable", "fillInStackTrace", "()Ljava/lang/Throwable;"⟩ ⟨"java/lang/Throwable", "fillInStackTrace", "()Ljava/lang/Throwable;"⟩ ∈ bw := j_6 _ (List.mem_of_getElem? (i := 23) rfl)
theorem w_174 : Cond.lays "java/lang/IllegalStateException" "java/lang/Throwable" "cause" "Ljava/lang/Throwable;" ∈ bw := j_6 _ (List.mem_of_getElem? (i := 24) rfl)
theorem w_175 : Cond.lays "java/lang/Throwable" "java/lang/Throwable" "cause" "Ljava/lang/Throwable;" ∈ bw := j_7 _ (List.mem_of_getElem? (i := 0) rfl)
theorem w_176 : Cond.lays "java/lang/IllegalStateException" "java/lang/Throwable" "stackTrace" "[Ljava/lang/StackTraceElement;" ∈ bw := j_7 _ (List.mem_of_getElem? (i := 1) rfl)
theorem w_177 : Cond.lays "java/lang/Throwable" "java/lang/Throwable" "stackTrace" "[Ljava/lang/StackTraceElement;" ∈ bw := j_7 _ (List.mem_of_getElem? (i := 2) rfl)
theorem w_178 : Cond.lays "java/lang/IllegalStateException" "java/lang/Throwable" "suppressedExceptions" "Ljava/util/List;" ∈ bw := j_7 _ (List.mem_of_getElem? (i := 3) rfl)
theorem w_179 : Cond.lays "java/lang/Throwable" "java/lang/Throwable" "suppressedExceptions" "Ljava/util/List;" ∈ bw := j_7 _ (List.mem_of_getElem? (i := 4) rfl)
theorem w_180 : Cond.lays "java/lang/IllegalStateException" "java/lang/Throwable" "detailMessage" "Ljava/lang/String;" ∈ bw := j_7 _ (List.mem_of_getElem? (i := 5) rfl)
theorem w_181 : Cond.lays "java/lang/Throwable" "java/lang/Throwable" "detailMessage" "Ljava/lang/String;" ∈ bw := j_7 _ (List.mem_of_getElem? (i := 6) rfl)
theorem w_182 : Cond.lays "java/lang/IllegalStateException" "java/lang/Throwable" "backtrace" "Ljava/lang/Object;" ∈ bw := j_7 _ (List.mem_of_getElem? (i := 7) rfl)
theorem w_183 : Cond.lays "java/lang/Throwable" "java/lang/Throwable" "backtrace" "Ljava/lang/Object;" ∈ bw := j_7 _ (List.mem_of_getElem? (i := 8) rfl)
theorem w_184 : Cond.fieldLink "java/lang/Throwable" 198 "java/lang/Throwable" "backtrace" "Ljava/lang/Object;" ∈ bw := j_7 _ (List.mem_of_getElem? (i := 9) rfl)
theorem w_185 : Cond.superclass "java/lang/Throwable" "java/lang/Object" ∈ bw := j_7 _ (List.mem_of_getElem? (i := 10) rfl)
theorem w_186 : Cond.instanceMethod ⟨"java/lang/Throwable", "<init>", "()V"⟩ ∈ bw := j_7 _ (List.mem_of_getElem? (i := 11) rfl)
theorem w_187 : Cond.code ⟨"java/lang/Throwable", "<init>", "()V"⟩ prog_29_method_1_code 1 none ∈ bw := j_7 _ (List.mem_of_getElem? (i := 12) rfl)
theorem w_188 : Cond.methodLink "java/lang/Throwable" 1 ⟨"java/lang/Object", "<init>", "()V"⟩ ∈ bw := j_7 _ (List.mem_of_getElem? (i := 13) rfl)
theorem w_189 : Cond.fieldLink "java/lang/Throwable" 13 "java/lang/Throwable" "UNASSIGNED_STACK" "[Ljava/lang/StackTraceElement;" ∈ bw := j_7 _ (List.mem_of_getElem? (i := 14) rfl)
theorem w_190 : Cond.fieldLink "java/lang/Throwable" 20 "java/lang/Throwable" "SUPPRESSED_SENTINEL" "Ljava/util/List;" ∈ bw := j_7 _ (List.mem_of_getElem? (i := 15) rfl)
theorem w_191 : Cond.methodLink "java/lang/Throwable" 27 ⟨"java/lang/Throwable", "fillInStackTrace", "()Ljava/lang/Throwable;"⟩ ∈ bw := j_7 _ (List.mem_of_getElem? (i := 16) rfl)
theorem w_192 : Cond.instanceMethod ⟨"java/lang/Throwable", "fillInStackTrace", "()Ljava/lang/Throwable;"⟩ ∈ bw := j_7 _ (List.mem_of_getElem? (i := 17) rfl)
theorem w_193 : Cond.selects "java/lang/IllegalArgumentException" ⟨"java/lang/Throwable", "fillInStackTrace", "()Ljava/lang/Throwable;"⟩ ⟨"java/lang/Throwable", "fillInStackTrace", "()Ljava/lang/Throwable;"⟩ ∈ bw := j_7 _ (List.mem_of_getElem? (i := 18) rfl)
theorem w_194 : Cond.selects "java/lang/IndexOutOfBoundsException" ⟨"java/lang/Throwable", "fillInStackTrace", "()Ljava/lang/Throwable;"⟩ ⟨"java/lang/Throwable", "fillInStackTrace", "()Ljava/lang/Throwable;"⟩ ∈ bw := j_7 _ (List.mem_of_getElem? (i := 19) rfl)
theorem w_195 : Cond.codeSync ⟨"java/lang/Throwable", "fillInStackTrace", "()Ljava/lang/Throwable;"⟩ prog_29_method_18_code 1 (some (FieldType.object "java/lang/Throwable")) ∈ bw := j_7 _ (List.mem_of_getElem? (i := 20) rfl)
theorem w_196 : Cond.methodLink "java/lang/Throwable" 202 ⟨"java/lang/Throwable", "fillInStackTrace", "(I)Ljava/lang/Throwable;"⟩ ∈ bw := j_7 _ (List.mem_of_getElem? (i := 21) rfl)
theorem w_197 : Cond.instanceMethod ⟨"java/lang/Throwable", "fillInStackTrace", "(I)Ljava/lang/Throwable;"⟩ ∈ bw := j_7 _ (List.mem_of_getElem? (i := 22) rfl)
theorem w_198 : Cond.instantiable "java/lang/Throwable" 6 ∈ bw := j_7 _ (List.mem_of_getElem? (i := 23) rfl)
theorem w_199 : Cond.native ⟨"java/lang/Throwable", "fillInStackTrace", "(I)Ljava/lang/Throwable;"⟩ ∈ bw := j_7 _ (List.mem_of_getElem? (i := 24) rfl)
theorem w_200 : Cond.methodLink "ObjectForge" 47 ⟨"java/lang/IllegalStateException", "<init>", "(Ljava/lang/String;)V"⟩ ∈ bw := j_8 _ (List.mem_of_getElem? (i := 0) rfl)
theorem w_201 : Cond.instanceMethod ⟨"java/lang/IllegalStateException", "<init>", "(Ljava/lang/String;)V"⟩ ∈ bw := j_8 _ (List.mem_of_getElem? (i := 1) rfl)
theorem w_202 : Cond.code ⟨"java/lang/IllegalStateException", "<init>", "(Ljava/lang/String;)V"⟩ prog_19_method_2_code 2 none ∈ bw := j_8 _ (List.mem_of_getElem? (i := 2) rfl)
theorem w_203 : Cond.methodLink "java/lang/IllegalStateException" 7 ⟨"java/lang/RuntimeException", "<init>", "(Ljava/lang/String;)V"⟩ ∈ bw := j_8 _ (List.mem_of_getElem? (i := 3) rfl)
theorem w_204 : Cond.instanceMethod ⟨"java/lang/RuntimeException", "<init>", "(Ljava/lang/String;)V"⟩ ∈ bw := j_8 _ (List.mem_of_getElem? (i := 4) rfl)
theorem w_205 : Cond.code ⟨"java/lang/RuntimeException", "<init>", "(Ljava/lang/String;)V"⟩ prog_23_method_2_code 2 none ∈ bw := j_8 _ (List.mem_of_getElem? (i := 5) rfl)
theorem w_206 : Cond.methodLink "java/lang/RuntimeException" 7 ⟨"java/lang/Exception", "<init>", "(Ljava/lang/String;)V"⟩ ∈ bw := j_8 _ (List.mem_of_getElem? (i := 6) rfl)
theorem w_207 : Cond.instanceMethod ⟨"java/lang/Exception", "<init>", "(Ljava/lang/String;)V"⟩ ∈ bw := j_8 _ (List.mem_of_getElem? (i := 7) rfl)
theorem w_208 : Cond.code ⟨"java/lang/Exception", "<init>", "(Ljava/lang/String;)V"⟩ prog_17_method_2_code 2 none ∈ bw := j_8 _ (List.mem_of_getElem? (i := 8) rfl)
theorem w_209 : Cond.methodLink "java/lang/Exception" 7 ⟨"java/lang/Throwable", "<init>", "(Ljava/lang/String;)V"⟩ ∈ bw := j_8 _ (List.mem_of_getElem? (i := 9) rfl)
theorem w_210 : Cond.instanceMethod ⟨"java/lang/Throwable", "<init>", "(Ljava/lang/String;)V"⟩ ∈ bw := j_8 _ (List.mem_of_getElem? (i := 10) rfl)
theorem w_211 : Cond.code ⟨"java/lang/Throwable", "<init>", "(Ljava/lang/String;)V"⟩ prog_29_method_2_code 2 none ∈ bw := j_8 _ (List.mem_of_getElem? (i := 11) rfl)
theorem w_212 : Cond.fieldLink "java/lang/Throwable" 31 "java/lang/Throwable" "detailMessage" "Ljava/lang/String;" ∈ bw := j_8 _ (List.mem_of_getElem? (i := 12) rfl)
theorem w_213 : Cond.fieldLink "java/lang/Throwable" 7 "java/lang/Throwable" "cause" "Ljava/lang/Throwable;" ∈ bw := j_8 _ (List.mem_of_getElem? (i := 13) rfl)
theorem w_214 : Cond.fieldLink "java/lang/Throwable" 17 "java/lang/Throwable" "stackTrace" "[Ljava/lang/StackTraceElement;" ∈ bw := j_8 _ (List.mem_of_getElem? (i := 14) rfl)
theorem w_215 : Cond.fieldLink "java/lang/Throwable" 24 "java/lang/Throwable" "suppressedExceptions" "Ljava/util/List;" ∈ bw := j_8 _ (List.mem_of_getElem? (i := 15) rfl)
theorem w_216 : Cond.lays "java/lang/IllegalStateException" "java/lang/Throwable" "depth" "I" ∈ bw := j_8 _ (List.mem_of_getElem? (i := 16) rfl)
theorem w_217 : Cond.superclass "java/lang/IllegalStateException" "java/lang/RuntimeException" ∈ bw := j_8 _ (List.mem_of_getElem? (i := 17) rfl)
theorem w_218 : Cond.methodLink "ObjectForge" 50 y_So_appendWord ∈ bw := j_8 _ (List.mem_of_getElem? (i := 18) rfl)
theorem w_219 : Cond.instanceMethod y_So_appendWord ∈ bw := j_8 _ (List.mem_of_getElem? (i := 19) rfl)
theorem w_220 : Cond.selects "ObjectForge$Source" y_So_appendWord y_So_appendWord ∈ bw := j_8 _ (List.mem_of_getElem? (i := 20) rfl)
theorem w_221 : Cond.code y_So_appendWord prog_7_method_2_code 3 none ∈ bw := j_8 _ (List.mem_of_getElem? (i := 21) rfl)
theorem w_222 : Cond.methodLink "ObjectForgeLaw" 72 y_La_end ∈ bw := j_8 _ (List.mem_of_getElem? (i := 22) rfl)
theorem w_223 : Cond.static y_La_end ∈ bw := j_8 _ (List.mem_of_getElem? (i := 23) rfl)
theorem w_224 : Cond.codeWith y_La_end method_4_code 4 (some FieldType.int) [(0, 9, 12, 19)] ∈ bw := j_8 _ (List.mem_of_getElem? (i := 24) rfl)
theorem w_225 : Cond.classLink "ObjectForgeLaw" 19 "java/lang/IllegalArgumentException" ∈ bw := j_9 _ (List.mem_of_getElem? (i := 0) rfl)
theorem w_226 : Cond.methodLink "ObjectForgeLaw" 15 y_OF_end ∈ bw := j_9 _ (List.mem_of_getElem? (i := 1) rfl)
theorem w_227 : Cond.instanceMethod y_OF_end ∈ bw := j_9 _ (List.mem_of_getElem? (i := 2) rfl)
theorem w_228 : Cond.selects "ObjectForge" y_OF_end y_OF_end ∈ bw := j_9 _ (List.mem_of_getElem? (i := 3) rfl)
theorem w_229 : Cond.code y_OF_end prog_1_method_3_code 3 (some FieldType.int) ∈ bw := j_9 _ (List.mem_of_getElem? (i := 4) rfl)
theorem w_230 : Cond.classLink "ObjectForge" 54 "java/lang/IllegalArgumentException" ∈ bw := j_9 _ (List.mem_of_getElem? (i := 5) rfl)
theorem w_231 : Cond.instantiable "java/lang/IllegalArgumentException" 6 ∈ bw := j_9 _ (List.mem_of_getElem? (i := 6) rfl)
theorem w_232 : Cond.selects "java/lang/IllegalArgumentException" ⟨"java/lang/Throwable", "fillInStackTrace", "(I)Ljava/lang/Throwable;"⟩ ⟨"java/lang/Throwable", "fillInStackTrace", "(I)Ljava/lang/Throwable;"⟩ ∈ bw := j_9 _ (List.mem_of_getElem? (i := 7) rfl)
theorem w_233 : Cond.lays "java/lang/IllegalArgumentException" "java/lang/Throwable" "cause" "Ljava/lang/Throwable;" ∈ bw := j_9 _ (List.mem_of_getElem? (i := 8) rfl)
theorem w_234 : Cond.lays "java/lang/IllegalArgumentException" "java/lang/Throwable" "stackTrace" "[Ljava/lang/StackTraceElement;" ∈ bw := j_9 _ (List.mem_of_getElem? (i := 9) rfl)
theorem w_235 : Cond.lays "java/lang/IllegalArgumentException" "java/lang/Throwable" "suppressedExceptions" "Ljava/util/List;" ∈ bw := j_9 _ (List.mem_of_getElem? (i := 10) rfl)
theorem w_236 : Cond.lays "java/lang/IllegalArgumentException" "java/lang/Throwable" "detailMessage" "Ljava/lang/String;" ∈ bw := j_9 _ (List.mem_of_getElem? (i := 11) rfl)
theorem w_237 : Cond.lays "java/lang/IllegalArgumentException" "java/lang/Throwable" "backtrace" "Ljava/lang/Object;" ∈ bw := j_9 _ (List.mem_of_getElem? (i := 12) rfl)
theorem w_238 : Cond.methodLink "ObjectForge" 58 ⟨"java/lang/IllegalArgumentException", "<init>", "(Ljava/lang/String;)V"⟩ ∈ bw := j_9 _ (List.mem_of_getElem? (i := 13) rfl)
theorem w_239 : Cond.instanceMethod ⟨"java/lang/IllegalArgumentException", "<init>", "(Ljava/lang/String;)V"⟩ ∈ bw := j_9 _ (List.mem_of_getElem? (i := 14) rfl)
theorem w_240 : Cond.code ⟨"java/lang/IllegalArgumentException", "<init>", "(Ljava/lang/String;)V"⟩ prog_18_method_2_code 2 none ∈ bw := j_9 _ (List.mem_of_getElem? (i := 15) rfl)
theorem w_241 : Cond.methodLink "java/lang/IllegalArgumentException" 7 ⟨"java/lang/RuntimeException", "<init>", "(Ljava/lang/String;)V"⟩ ∈ bw := j_9 _ (List.mem_of_getElem? (i := 16) rfl)
theorem w_242 : Cond.lays "java/lang/IllegalArgumentException" "java/lang/Throwable" "depth" "I" ∈ bw := j_9 _ (List.mem_of_getElem? (i := 17) rfl)
theorem w_243 : Cond.superclass "java/lang/IllegalArgumentException" "java/lang/RuntimeException" ∈ bw := j_9 _ (List.mem_of_getElem? (i := 18) rfl)
theorem w_244 : Cond.methodLink "ObjectForgeLaw" 76 y_La_assemble ∈ bw := j_9 _ (List.mem_of_getElem? (i := 19) rfl)
theorem w_245 : Cond.static y_La_assemble ∈ bw := j_9 _ (List.mem_of_getElem? (i := 20) rfl)
theorem w_246 : Cond.codeWith y_La_assemble method_5_code 3 (some FieldType.int) [(0, 8, 11, 13)] ∈ bw := j_9 _ (List.mem_of_getElem? (i := 21) rfl)
theorem w_247 : Cond.methodLink "ObjectForgeLaw" 21 y_OF_assemble ∈ bw := j_9 _ (List.mem_of_getElem? (i := 22) rfl)
theorem w_248 : Cond.instanceMethod y_OF_assemble ∈ bw := j_9 _ (List.mem_of_getElem? (i := 23) rfl)
theorem w_249 : Cond.selects "ObjectForge" y_OF_assemble y_OF_assemble ∈ bw := j_9 _ (List.mem_of_getElem? (i := 24) rfl)
theorem w_250 : Cond.code y_OF_assemble prog_1_method_4_code 3 (some FieldType.int) ∈ bw := j_10 _ (List.mem_of_getElem? (i := 0) rfl)
theorem w_251 : Cond.methodLink "ObjectForge" 61 y_As_translate ∈ bw := j_10 _ (List.mem_of_getElem? (i := 1) rfl)
theorem w_252 : Cond.instanceMethod y_As_translate ∈ bw := j_10 _ (List.mem_of_getElem? (i := 2) rfl)
theorem w_253 : Cond.selects "ObjectForge$Assembler" y_As_translate y_As_translate ∈ bw := j_10 _ (List.mem_of_getElem? (i := 3) rfl)
theorem w_254 : Cond.code y_As_translate prog_2_method_2_code 4 (some FieldType.boolean) ∈ bw := j_10 _ (List.mem_of_getElem? (i := 4) rfl)
theorem w_255 : Cond.methodLink "ObjectForge$Assembler" 66 y_Un_makeEmpty ∈ bw := j_10 _ (List.mem_of_getElem? (i := 5) rfl)
theorem w_256 : Cond.instanceMethod y_Un_makeEmpty ∈ bw := j_10 _ (List.mem_of_getElem? (i := 6) rfl)
theorem w_257 : Cond.selects "ObjectForge$Unit" y_Un_makeEmpty y_Un_makeEmpty ∈ bw := j_10 _ (List.mem_of_getElem? (i := 7) rfl)
theorem w_258 : Cond.code y_Un_makeEmpty prog_9_method_2_code 1 none ∈ bw := j_10 _ (List.mem_of_getElem? (i := 8) rfl)
theorem w_259 : Cond.methodLink "ObjectForge$Unit" 37 y_Ar_fill ∈ bw := j_10 _ (List.mem_of_getElem? (i := 9) rfl)
theorem w_260 : Cond.static y_Ar_fill ∈ bw := j_10 _ (List.mem_of_getElem? (i := 10) rfl)
theorem w_261 : Cond.code y_Ar_fill prog_30_method_103_code 4 none ∈ bw := j_10 _ (List.mem_of_getElem? (i := 11) rfl)
theorem w_262 : Cond.methodLink "ObjectForge$Assembler" 69 y_So_scanLine ∈ bw := j_10 _ (List.mem_of_getElem? (i := 12) rfl)
theorem w_263 : Cond.instanceMethod y_So_scanLine ∈ bw := j_10 _ (List.mem_of_getElem? (i := 13) rfl)
theorem w_264 : Cond.selects "ObjectForge$Source" y_So_scanLine y_So_scanLine ∈ bw := j_10 _ (List.mem_of_getElem? (i := 14) rfl)
theorem w_265 : Cond.code y_So_scanLine prog_7_method_3_code 4 (some FieldType.int) ∈ bw := j_10 _ (List.mem_of_getElem? (i := 15) rfl)
theorem w_266 : Cond.methodLink "ObjectForge$Source" 35 ⟨"ObjectForge$Source", "scanToken", "(I)I"⟩ ∈ bw := j_10 _ (List.mem_of_getElem? (i := 16) rfl)
theorem w_267 : Cond.methodLink "ObjectForge$Source" 39 ⟨"java/lang/Math", "max", "(II)I"⟩ ∈ bw := j_10 _ (List.mem_of_getElem? (i := 17) rfl)
theorem w_268 : Cond.methodLink "ObjectForge$Assembler" 73 y_As_readLabels ∈ bw := j_10 _ (List.mem_of_getElem? (i := 18) rfl)
theorem w_269 : Cond.instanceMethod y_As_readLabels ∈ bw := j_10 _ (List.mem_of_getElem? (i := 19) rfl)
theorem w_270 : Cond.code y_As_readLabels prog_2_method_3_code 3 none ∈ bw := j_10 _ (List.mem_of_getElem? (i := 20) rfl)
theorem w_271 : Cond.methodLink "ObjectForge$Assembler" 82 y_So_kindOf ∈ bw := j_10 _ (List.mem_of_getElem? (i := 21) rfl)
theorem w_272 : Cond.instanceMethod y_So_kindOf ∈ bw := j_10 _ (List.mem_of_getElem? (i := 22) rfl)
theorem w_273 : Cond.selects "ObjectForge$Source" y_So_kindOf y_So_kindOf ∈ bw := j_10 _ (List.mem_of_getElem? (i := 23) rfl)
theorem w_274 : Cond.code y_So_kindOf prog_7_method_4_code 2 (some FieldType.int) ∈ bw := j_10 _ (List.mem_of_getElem? (i := 24) rfl)
theorem w_275 : Cond.methodLink "ObjectForge$Assembler" 86 ⟨"ObjectForge$Assembler", "numberSymbol", "(I)I"⟩ ∈ bw := j_11 _ (List.mem_of_getElem? (i := 0) rfl)
theorem w_276 : Cond.methodLink "ObjectForge$Assembler" 76 y_As_readStatement ∈ bw := j_11 _ (List.mem_of_getElem? (i := 1) rfl)
theorem w_277 : Cond.instanceMethod y_As_readStatement ∈ bw := j_11 _ (List.mem_of_getElem? (i := 2) rfl)
theorem w_278 : Cond.code y_As_readStatement prog_2_method_5_code 5 none ∈ bw := j_11 _ (List.mem_of_getElem? (i := 3) rfl)
theorem w_279 : Cond.methodLink "ObjectForge$Assembler" 119 ⟨"ObjectForge$Assembler", "misplaced", "(I)I"⟩ ∈ bw := j_11 _ (List.mem_of_getElem? (i := 4) rfl)
theorem w_280 : Cond.methodLink "ObjectForge$Assembler" 122 ⟨"ObjectForge$Directive", "named", "(LObjectForge$Source;I)LObjectForge$Directive;"⟩ ∈ bw := j_11 _ (List.mem_of_getElem? (i := 5) rfl)
theorem w_281 : Cond.methodLink "ObjectForge$Assembler" 128 ⟨"ObjectForge$Operation", "named", "(LObjectForge$Source;I)LObjectForge$Operation;"⟩ ∈ bw := j_11 _ (List.mem_of_getElem? (i := 6) rfl)
theorem w_282 : Cond.methodLink "ObjectForge$Assembler" 133 ⟨"ObjectForge$Assembler", "readDirective", "(LObjectForge$Directive;)V"⟩ ∈ bw := j_11 _ (List.mem_of_getElem? (i := 7) rfl)
theorem w_283 : Cond.native ⟨"java/lang/Object", "clone", "()Ljava/lang/Object;"⟩ ∈ bw := j_11 _ (List.mem_of_getElem? (i := 8) rfl)
theorem w_284 : Cond.instanceMethod ⟨"java/lang/Object", "clone", "()Ljava/lang/Object;"⟩ ∈ bw := j_11 _ (List.mem_of_getElem? (i := 9) rfl)
theorem w_285 : Cond.instanceMethod ⟨"java/lang/IndexOutOfBoundsException", "<init>", "(Ljava/lang/String;)V"⟩ ∈ bw := j_11 _ (List.mem_of_getElem? (i := 10) rfl)
theorem w_286 : Cond.code ⟨"java/lang/IndexOutOfBoundsException", "<init>", "(Ljava/lang/String;)V"⟩ prog_20_method_2_code 2 none ∈ bw := j_11 _ (List.mem_of_getElem? (i := 11) rfl)
theorem w_287 : Cond.methodLink "java/lang/IndexOutOfBoundsException" 7 ⟨"java/lang/RuntimeException", "<init>", "(Ljava/lang/String;)V"⟩ ∈ bw := j_11 _ (List.mem_of_getElem? (i := 12) rfl)
theorem w_288 : Cond.methodLink "ObjectForge$Assembler" 137 ⟨"ObjectForge$Operation", "ofOperands", "(LObjectForge$Source;I)LObjectForge$Operation;"⟩ ∈ bw := j_11 _ (List.mem_of_getElem? (i := 13) rfl)
theorem w_289 : Cond.methodLink "ObjectForge$Assembler" 140 ⟨"ObjectForge$Assembler", "readInstruction", "(LObjectForge$Operation;)V"⟩ ∈ bw := j_11 _ (List.mem_of_getElem? (i := 14) rfl)
theorem w_290 : Cond.methodLink "ObjectForge$Assembler" 79 y_As_settleBranches ∈ bw := j_11 _ (List.mem_of_getElem? (i := 15) rfl)
theorem w_291 : Cond.instanceMethod y_As_settleBranches ∈ bw := j_11 _ (List.mem_of_getElem? (i := 16) rfl)
theorem w_292 : Cond.code y_As_settleBranches prog_2_method_27_code 6 none ∈ bw := j_11 _ (List.mem_of_getElem? (i := 17) rfl)
theorem w_293 : Cond.methodLink "ObjectForge$Assembler" 334 ⟨"ObjectForge$Assembler", "settleBranch", "(IJI)V"⟩ ∈ bw := j_11 _ (List.mem_of_getElem? (i := 18) rfl)
theorem w_294 : Cond.methodLink "ObjectForge$Assembler" 338 ⟨"ObjectForge$Relocations", "move", "(II)V"⟩ ∈ bw := j_11 _ (List.mem_of_getElem? (i := 19) rfl)
theorem w_295 : Cond.methodLink "ObjectForgeLaw" 80 y_La_fault ∈ bw := j_11 _ (List.mem_of_getElem? (i := 20) rfl)
theorem w_296 : Cond.static y_La_fault ∈ bw := j_11 _ (List.mem_of_getElem? (i := 21) rfl)
theorem w_297 : Cond.codeWith y_La_fault method_6_code 4 (some FieldType.int) [(0, 9, 12, 28)] ∈ bw := j_11 _ (List.mem_of_getElem? (i := 22) rfl)
theorem w_298 : Cond.classLink "ObjectForgeLaw" 28 "java/lang/IndexOutOfBoundsException" ∈ bw := j_11 _ (List.mem_of_getElem? (i := 23) rfl)
theorem w_299 : Cond.methodLink "ObjectForgeLaw" 25 y_OF_fault ∈ bw := j_11 _ (List.mem_of_getElem? (i := 24) rfl)
theorem w_300 : Cond.instanceMethod y_OF_fault ∈ bw := j_12 _ (List.mem_of_getElem? (i := 0) rfl)
theorem w_301 : Cond.selects "ObjectForge" y_OF_fault y_OF_fault ∈ bw := j_12 _ (List.mem_of_getElem? (i := 1) rfl)
theorem w_302 : Cond.code y_OF_fault prog_1_method_5_code 2 (some FieldType.int) ∈ bw := j_12 _ (List.mem_of_getElem? (i := 2) rfl)
theorem w_303 : Cond.classLink "ObjectForge" 82 "java/lang/IndexOutOfBoundsException" ∈ bw := j_12 _ (List.mem_of_getElem? (i := 3) rfl)
theorem w_304 : Cond.instantiable "java/lang/IndexOutOfBoundsException" 6 ∈ bw := j_12 _ (List.mem_of_getElem? (i := 4) rfl)
theorem w_305 : Cond.selects "java/lang/IndexOutOfBoundsException" ⟨"java/lang/Throwable", "fillInStackTrace", "(I)Ljava/lang/Throwable;"⟩ ⟨"java/lang/Throwable", "fillInStackTrace", "(I)Ljava/lang/Throwable;"⟩ ∈ bw := j_12 _ (List.mem_of_getElem? (i := 5) rfl)
theorem w_306 : Cond.lays "java/lang/IndexOutOfBoundsException" "java/lang/Throwable" "cause" "Ljava/lang/Throwable;" ∈ bw := j_12 _ (List.mem_of_getElem? (i := 6) rfl)
theorem w_307 : Cond.lays "java/lang/IndexOutOfBoundsException" "java/lang/Throwable" "stackTrace" "[Ljava/lang/StackTraceElement;" ∈ bw := j_12 _ (List.mem_of_getElem? (i := 7) rfl)
theorem w_308 : Cond.lays "java/lang/IndexOutOfBoundsException" "java/lang/Throwable" "suppressedExceptions" "Ljava/util/List;" ∈ bw := j_12 _ (List.mem_of_getElem? (i := 8) rfl)
theorem w_309 : Cond.lays "java/lang/IndexOutOfBoundsException" "java/lang/Throwable" "detailMessage" "Ljava/lang/String;" ∈ bw := j_12 _ (List.mem_of_getElem? (i := 9) rfl)
theorem w_310 : Cond.lays "java/lang/IndexOutOfBoundsException" "java/lang/Throwable" "backtrace" "Ljava/lang/Object;" ∈ bw := j_12 _ (List.mem_of_getElem? (i := 10) rfl)
theorem w_311 : Cond.methodLink "ObjectForge" 86 ⟨"java/lang/IndexOutOfBoundsException", "<init>", "(Ljava/lang/String;)V"⟩ ∈ bw := j_12 _ (List.mem_of_getElem? (i := 11) rfl)
theorem w_312 : Cond.lays "java/lang/IndexOutOfBoundsException" "java/lang/Throwable" "depth" "I" ∈ bw := j_12 _ (List.mem_of_getElem? (i := 12) rfl)
theorem w_313 : Cond.superclass "java/lang/IndexOutOfBoundsException" "java/lang/RuntimeException" ∈ bw := j_12 _ (List.mem_of_getElem? (i := 13) rfl)
theorem w_314 : Cond.methodLink "ObjectForgeLaw" 83 y_La_size ∈ bw := j_12 _ (List.mem_of_getElem? (i := 14) rfl)
theorem w_315 : Cond.static y_La_size ∈ bw := j_12 _ (List.mem_of_getElem? (i := 15) rfl)
theorem w_316 : Cond.codeWith y_La_size method_7_code 5 (some FieldType.int) [(0, 10, 13, 28)] ∈ bw := j_12 _ (List.mem_of_getElem? (i := 16) rfl)
theorem w_317 : Cond.methodLink "ObjectForgeLaw" 30 y_OF_size ∈ bw := j_12 _ (List.mem_of_getElem? (i := 17) rfl)
theorem w_318 : Cond.instanceMethod y_OF_size ∈ bw := j_12 _ (List.mem_of_getElem? (i := 18) rfl)
theorem w_319 : Cond.selects "ObjectForge" y_OF_size y_OF_size ∈ bw := j_12 _ (List.mem_of_getElem? (i := 19) rfl)
theorem w_320 : Cond.code y_OF_size prog_1_method_6_code 4 (some FieldType.int) ∈ bw := j_12 _ (List.mem_of_getElem? (i := 20) rfl)
theorem w_321 : Cond.methodLink "ObjectForge" 87 y_OF_unitNumbered ∈ bw := j_12 _ (List.mem_of_getElem? (i := 21) rfl)
theorem w_322 : Cond.instanceMethod y_OF_unitNumbered ∈ bw := j_12 _ (List.mem_of_getElem? (i := 22) rfl)
theorem w_323 : Cond.code y_OF_unitNumbered prog_1_method_16_code 2 (some (FieldType.object "ObjectForge$Unit")) ∈ bw := j_12 _ (List.mem_of_getElem? (i := 23) rfl)
theorem w_324 : Cond.methodLink "ObjectForge" 91 y_OF_requireBelow ∈ bw := j_12 _ (List.mem_of_getElem? (i := 24) rfl)
theorem w_325 : Cond.static y_OF_requireBelow ∈ bw := j_13 _ (List.mem_of_getElem? (i := 0) rfl)
theorem w_326 : Cond.code y_OF_requireBelow prog_1_method_17_code 2 none ∈ bw := j_13 _ (List.mem_of_getElem? (i := 1) rfl)
theorem w_327 : Cond.methodLink "ObjectForgeLaw" 87 y_La_byteAt ∈ bw := j_13 _ (List.mem_of_getElem? (i := 2) rfl)
theorem w_328 : Cond.static y_La_byteAt ∈ bw := j_13 _ (List.mem_of_getElem? (i := 3) rfl)
theorem w_329 : Cond.codeWith y_La_byteAt method_8_code 6 (some FieldType.int) [(0, 12, 15, 28)] ∈ bw := j_13 _ (List.mem_of_getElem? (i := 4) rfl)
theorem w_330 : Cond.methodLink "ObjectForgeLaw" 34 y_OF_byteAt ∈ bw := j_13 _ (List.mem_of_getElem? (i := 5) rfl)
theorem w_331 : Cond.instanceMethod y_OF_byteAt ∈ bw := j_13 _ (List.mem_of_getElem? (i := 6) rfl)
theorem w_332 : Cond.selects "ObjectForge" y_OF_byteAt y_OF_byteAt ∈ bw := j_13 _ (List.mem_of_getElem? (i := 7) rfl)
theorem w_333 : Cond.code y_OF_byteAt prog_1_method_7_code 5 (some FieldType.int) ∈ bw := j_13 _ (List.mem_of_getElem? (i := 8) rfl)
theorem w_334 : Cond.methodLink "ObjectForgeLaw" 91 y_La_symbol ∈ bw := j_13 _ (List.mem_of_getElem? (i := 9) rfl)
theorem w_335 : Cond.static y_La_symbol ∈ bw := j_13 _ (List.mem_of_getElem? (i := 10) rfl)
theorem w_336 : Cond.codeWith y_La_symbol method_9_code 6 (some FieldType.int) [(0, 12, 15, 28)] ∈ bw := j_13 _ (List.mem_of_getElem? (i := 11) rfl)
theorem w_337 : Cond.methodLink "ObjectForgeLaw" 38 y_OF_symbol ∈ bw := j_13 _ (List.mem_of_getElem? (i := 12) rfl)
theorem w_338 : Cond.instanceMethod y_OF_symbol ∈ bw := j_13 _ (List.mem_of_getElem? (i := 13) rfl)
theorem w_339 : Cond.selects "ObjectForge" y_OF_symbol y_OF_symbol ∈ bw := j_13 _ (List.mem_of_getElem? (i := 14) rfl)
theorem w_340 : Cond.code y_OF_symbol prog_1_method_8_code 5 (some FieldType.int) ∈ bw := j_13 _ (List.mem_of_getElem? (i := 15) rfl)
theorem w_341 : Cond.methodLink "ObjectForgeLaw" 94 y_La_letter ∈ bw := j_13 _ (List.mem_of_getElem? (i := 16) rfl)
theorem w_342 : Cond.static y_La_letter ∈ bw := j_13 _ (List.mem_of_getElem? (i := 17) rfl)
theorem w_343 : Cond.codeWith y_La_letter method_10_code 6 (some FieldType.int) [(0, 12, 15, 28)] ∈ bw := j_13 _ (List.mem_of_getElem? (i := 18) rfl)
theorem w_344 : Cond.methodLink "ObjectForgeLaw" 41 y_OF_letter ∈ bw := j_13 _ (List.mem_of_getElem? (i := 19) rfl)
theorem w_345 : Cond.instanceMethod y_OF_letter ∈ bw := j_13 _ (List.mem_of_getElem? (i := 20) rfl)
theorem w_346 : Cond.selects "ObjectForge" y_OF_letter y_OF_letter ∈ bw := j_13 _ (List.mem_of_getElem? (i := 21) rfl)
theorem w_347 : Cond.code y_OF_letter prog_1_method_9_code 5 (some FieldType.int) ∈ bw := j_13 _ (List.mem_of_getElem? (i := 22) rfl)
theorem w_348 : Cond.methodLink "ObjectForgeLaw" 97 y_La_relocation ∈ bw := j_13 _ (List.mem_of_getElem? (i := 23) rfl)
theorem w_349 : Cond.static y_La_relocation ∈ bw := j_13 _ (List.mem_of_getElem? (i := 24) rfl)
theorem w_350 : Cond.codeWith y_La_relocation method_11_code 6 (some FieldType.int) [(0, 12, 15, 28)] ∈ bw := j_14 _ (List.mem_of_getElem? (i := 0) rfl)
theorem w_351 : Cond.methodLink "ObjectForgeLaw" 44 y_OF_relocation ∈ bw := j_14 _ (List.mem_of_getElem? (i := 1) rfl)
theorem w_352 : Cond.instanceMethod y_OF_relocation ∈ bw := j_14 _ (List.mem_of_getElem? (i := 2) rfl)
theorem w_353 : Cond.selects "ObjectForge" y_OF_relocation y_OF_relocation ∈ bw := j_14 _ (List.mem_of_getElem? (i := 3) rfl)
theorem w_354 : Cond.code y_OF_relocation prog_1_method_10_code 5 (some FieldType.int) ∈ bw := j_14 _ (List.mem_of_getElem? (i := 4) rfl)
theorem w_355 : Cond.methodLink "ObjectForgeLaw" 100 y_La_link ∈ bw := j_14 _ (List.mem_of_getElem? (i := 5) rfl)
theorem w_356 : Cond.static y_La_link ∈ bw := j_14 _ (List.mem_of_getElem? (i := 6) rfl)
theorem w_357 : Cond.codeWith y_La_link method_12_code 4 (some FieldType.int) [(0, 9, 12, 19), (0, 9, 15, 13)] ∈ bw := j_14 _ (List.mem_of_getElem? (i := 7) rfl)
theorem w_358 : Cond.methodLink "ObjectForgeLaw" 47 y_OF_link ∈ bw := j_14 _ (List.mem_of_getElem? (i := 8) rfl)
theorem w_359 : Cond.instanceMethod y_OF_link ∈ bw := j_14 _ (List.mem_of_getElem? (i := 9) rfl)
theorem w_360 : Cond.selects "ObjectForge" y_OF_link y_OF_link ∈ bw := j_14 _ (List.mem_of_getElem? (i := 10) rfl)
theorem w_361 : Cond.code y_OF_link prog_1_method_11_code 2 (some FieldType.int) ∈ bw := j_14 _ (List.mem_of_getElem? (i := 11) rfl)
theorem w_362 : Cond.methodLink "ObjectForge" 155 ⟨"ObjectForge$Linker", "join", "([LObjectForge$Unit;II)I"⟩ ∈ bw := j_14 _ (List.mem_of_getElem? (i := 12) rfl)
theorem w_363 : Cond.methodLink "ObjectForgeLaw" 103 y_La_word ∈ bw := j_14 _ (List.mem_of_getElem? (i := 13) rfl)
theorem w_364 : Cond.static y_La_word ∈ bw := j_14 _ (List.mem_of_getElem? (i := 14) rfl)
theorem w_365 : Cond.codeWith y_La_word method_13_code 4 (some FieldType.int) [(0, 9, 12, 28)] ∈ bw := j_14 _ (List.mem_of_getElem? (i := 15) rfl)
theorem w_366 : Cond.methodLink "ObjectForgeLaw" 50 y_OF_word ∈ bw := j_14 _ (List.mem_of_getElem? (i := 16) rfl)
theorem w_367 : Cond.instanceMethod y_OF_word ∈ bw := j_14 _ (List.mem_of_getElem? (i := 17) rfl)
theorem w_368 : Cond.selects "ObjectForge" y_OF_word y_OF_word ∈ bw := j_14 _ (List.mem_of_getElem? (i := 18) rfl)
theorem w_369 : Cond.code y_OF_word prog_1_method_12_code 2 (some FieldType.int) ∈ bw := j_14 _ (List.mem_of_getElem? (i := 19) rfl)
theorem w_370 : Cond.methodLink "ObjectForge" 159 y_Li_holdsWord ∈ bw := j_14 _ (List.mem_of_getElem? (i := 20) rfl)
theorem w_371 : Cond.instanceMethod y_Li_holdsWord ∈ bw := j_14 _ (List.mem_of_getElem? (i := 21) rfl)
theorem w_372 : Cond.selects "ObjectForge$Linker" y_Li_holdsWord y_Li_holdsWord ∈ bw := j_14 _ (List.mem_of_getElem? (i := 22) rfl)
theorem w_373 : Cond.code y_Li_holdsWord prog_4_method_14_code 3 (some FieldType.boolean) ∈ bw := j_14 _ (List.mem_of_getElem? (i := 23) rfl)
theorem w_374 : Cond.methodLink "ObjectForge" 164 ⟨"ObjectForge$Linker", "wordFrom", "(I)I"⟩ ∈ bw := j_14 _ (List.mem_of_getElem? (i := 24) rfl)
theorem w_375 : Cond.methodLink "ObjectForgeLaw" 106 y_La_address ∈ bw := j_15 _ (List.mem_of_getElem? (i := 0) rfl)
theorem w_376 : Cond.static y_La_address ∈ bw := j_15 _ (List.mem_of_getElem? (i := 1) rfl)
theorem w_377 : Cond.codeWith y_La_address method_14_code 5 (some FieldType.int) [(0, 10, 13, 28), (0, 10, 17, 13)] ∈ bw := j_15 _ (List.mem_of_getElem? (i := 2) rfl)
theorem w_378 : Cond.methodLink "ObjectForgeLaw" 53 y_OF_address ∈ bw := j_15 _ (List.mem_of_getElem? (i := 3) rfl)
theorem w_379 : Cond.instanceMethod y_OF_address ∈ bw := j_15 _ (List.mem_of_getElem? (i := 4) rfl)
theorem w_380 : Cond.selects "ObjectForge" y_OF_address y_OF_address ∈ bw := j_15 _ (List.mem_of_getElem? (i := 5) rfl)
theorem w_381 : Cond.code y_OF_address prog_1_method_13_code 4 (some FieldType.int) ∈ bw := j_15 _ (List.mem_of_getElem? (i := 6) rfl)
theorem w_382 : Cond.methodLink "ObjectForgeLaw" 113 y_La_count ∈ bw := j_15 _ (List.mem_of_getElem? (i := 7) rfl)
theorem w_383 : Cond.static y_La_count ∈ bw := j_15 _ (List.mem_of_getElem? (i := 8) rfl)
theorem w_384 : Cond.codeWith y_La_count method_15_code 5 (some FieldType.int) [(0, 10, 13, 28)] ∈ bw := j_15 _ (List.mem_of_getElem? (i := 9) rfl)
theorem w_385 : Cond.methodLink "ObjectForgeLaw" 56 y_OF_count ∈ bw := j_15 _ (List.mem_of_getElem? (i := 10) rfl)
theorem w_386 : Cond.instanceMethod y_OF_count ∈ bw := j_15 _ (List.mem_of_getElem? (i := 11) rfl)
theorem w_387 : Cond.selects "ObjectForge" y_OF_count y_OF_count ∈ bw := j_15 _ (List.mem_of_getElem? (i := 12) rfl)
theorem w_388 : Cond.code y_OF_count prog_1_method_15_code 3 (some FieldType.int) ∈ bw := j_15 _ (List.mem_of_getElem? (i := 13) rfl)
theorem w_389 : Cond.classLink "ObjectForgeLaw" 60 "ObjectForgeModel" ∈ bw := j_15 _ (List.mem_of_getElem? (i := 14) rfl)
theorem w_390 : Cond.instantiable "ObjectForgeModel" 52 ∈ bw := j_15 _ (List.mem_of_getElem? (i := 15) rfl)
theorem w_391 : Cond.methodLink "ObjectForgeLaw" 62 y_Mo_init ∈ bw := j_15 _ (List.mem_of_getElem? (i := 16) rfl)
theorem w_392 : Cond.instanceMethod y_Mo_init ∈ bw := j_15 _ (List.mem_of_getElem? (i := 17) rfl)
theorem w_393 : Cond.code y_Mo_init prog_11_method_1_code 1 none ∈ bw := j_15 _ (List.mem_of_getElem? (i := 18) rfl)
theorem w_394 : Cond.methodLink "ObjectForgeModel" 1 ⟨"java/lang/Object", "<init>", "()V"⟩ ∈ bw := j_15 _ (List.mem_of_getElem? (i := 19) rfl)
theorem w_395 : Cond.constant "ObjectForgeModel" 13 (65536 : Int32) ∈ bw := j_15 _ (List.mem_of_getElem? (i := 20) rfl)
theorem w_396 : Cond.constant "ObjectForgeModel" 75 (32768 : Int32) ∈ bw := j_15 _ (List.mem_of_getElem? (i := 21) rfl)
theorem w_397 : Cond.fieldLink "ObjectForgeModel" 88 "ObjectForgeModel" "thrown" "I" ∈ bw := j_15 _ (List.mem_of_getElem? (i := 22) rfl)
theorem w_398 : Cond.fieldLink "ObjectForgeModel" 91 "ObjectForgeModel" "length" "I" ∈ bw := j_15 _ (List.mem_of_getElem? (i := 23) rfl)
theorem w_399 : Cond.fieldLink "ObjectForgeModel" 7 "ObjectForgeModel" "text" "[B" ∈ bw := j_15 _ (List.mem_of_getElem? (i := 24) rfl)
theorem w_400 : Cond.fieldLink "ObjectForgeModel" 1010 "ObjectForgeModel" "objects" "I" ∈ bw := j_16 _ (List.mem_of_getElem? (i := 0) rfl)
theorem w_401 : Cond.fieldLink "ObjectForgeModel" 1214 "ObjectForgeModel" "linked" "I" ∈ bw := j_16 _ (List.mem_of_getElem? (i := 1) rfl)
theorem w_402 : Cond.fieldLink "ObjectForgeModel" 14 "ObjectForgeModel" "bytes" "[B" ∈ bw := j_16 _ (List.mem_of_getElem? (i := 2) rfl)
theorem w_403 : Cond.fieldLink "ObjectForgeModel" 17 "ObjectForgeModel" "sizes" "[I" ∈ bw := j_16 _ (List.mem_of_getElem? (i := 3) rfl)
theorem w_404 : Cond.fieldLink "ObjectForgeModel" 21 "ObjectForgeModel" "symbolCount" "[I" ∈ bw := j_16 _ (List.mem_of_getElem? (i := 4) rfl)
theorem w_405 : Cond.fieldLink "ObjectForgeModel" 24 "ObjectForgeModel" "referenceCount" "[I" ∈ bw := j_16 _ (List.mem_of_getElem? (i := 5) rfl)
theorem w_406 : Cond.fieldLink "ObjectForgeModel" 27 "ObjectForgeModel" "nameA" "[J" ∈ bw := j_16 _ (List.mem_of_getElem? (i := 6) rfl)
theorem w_407 : Cond.fieldLink "ObjectForgeModel" 31 "ObjectForgeModel" "nameB" "[J" ∈ bw := j_16 _ (List.mem_of_getElem? (i := 7) rfl)
theorem w_408 : Cond.fieldLink "ObjectForgeModel" 34 "ObjectForgeModel" "nameC" "[J" ∈ bw := j_16 _ (List.mem_of_getElem? (i := 8) rfl)
theorem w_409 : Cond.fieldLink "ObjectForgeModel" 37 "ObjectForgeModel" "nameLength" "[I" ∈ bw := j_16 _ (List.mem_of_getElem? (i := 9) rfl)
theorem w_410 : Cond.fieldLink "ObjectForgeModel" 40 "ObjectForgeModel" "section" "[I" ∈ bw := j_16 _ (List.mem_of_getElem? (i := 10) rfl)
theorem w_411 : Cond.fieldLink "ObjectForgeModel" 43 "ObjectForgeModel" "value" "[I" ∈ bw := j_16 _ (List.mem_of_getElem? (i := 11) rfl)
theorem w_412 : Cond.fieldLink "ObjectForgeModel" 46 "ObjectForgeModel" "global" "[Z" ∈ bw := j_16 _ (List.mem_of_getElem? (i := 12) rfl)
theorem w_413 : Cond.fieldLink "ObjectForgeModel" 50 "ObjectForgeModel" "refSection" "[I" ∈ bw := j_16 _ (List.mem_of_getElem? (i := 13) rfl)
theorem w_414 : Cond.fieldLink "ObjectForgeModel" 53 "ObjectForgeModel" "refPlace" "[I" ∈ bw := j_16 _ (List.mem_of_getElem? (i := 14) rfl)
theorem w_415 : Cond.fieldLink "ObjectForgeModel" 56 "ObjectForgeModel" "refKind" "[I" ∈ bw := j_16 _ (List.mem_of_getElem? (i := 15) rfl)
theorem w_416 : Cond.fieldLink "ObjectForgeModel" 59 "ObjectForgeModel" "refSymbol" "[I" ∈ bw := j_16 _ (List.mem_of_getElem? (i := 16) rfl)
theorem w_417 : Cond.fieldLink "ObjectForgeModel" 62 "ObjectForgeModel" "refAddend" "[I" ∈ bw := j_16 _ (List.mem_of_getElem? (i := 17) rfl)
theorem w_418 : Cond.fieldLink "ObjectForgeModel" 65 "ObjectForgeModel" "refLine" "[I" ∈ bw := j_16 _ (List.mem_of_getElem? (i := 18) rfl)
theorem w_419 : Cond.fieldLink "ObjectForgeModel" 982 "ObjectForgeModel" "fault" "I" ∈ bw := j_16 _ (List.mem_of_getElem? (i := 19) rfl)
theorem w_420 : Cond.fieldLink "ObjectForgeModel" 1175 "ObjectForgeModel" "faultLine" "I" ∈ bw := j_16 _ (List.mem_of_getElem? (i := 20) rfl)
theorem w_421 : Cond.fieldLink "ObjectForgeModel" 1178 "ObjectForgeModel" "linkFault" "I" ∈ bw := j_16 _ (List.mem_of_getElem? (i := 21) rfl)
theorem w_422 : Cond.fieldLink "ObjectForgeModel" 68 "ObjectForgeModel" "linkObject" "I" ∈ bw := j_16 _ (List.mem_of_getElem? (i := 22) rfl)
theorem w_423 : Cond.fieldLink "ObjectForgeModel" 72 "ObjectForgeModel" "linkWhich" "I" ∈ bw := j_16 _ (List.mem_of_getElem? (i := 23) rfl)
theorem w_424 : Cond.fieldLink "ObjectForgeModel" 1191 "ObjectForgeModel" "hasImage" "Z" ∈ bw := j_16 _ (List.mem_of_getElem? (i := 24) rfl)
theorem w_425 : Cond.fieldLink "ObjectForgeModel" 1188 "ObjectForgeModel" "base" "I" ∈ bw := j_17 _ (List.mem_of_getElem? (i := 0) rfl)
theorem w_426 : Cond.fieldLink "ObjectForgeModel" 1211 "ObjectForgeModel" "imageSize" "I" ∈ bw := j_17 _ (List.mem_of_getElem? (i := 1) rfl)
theorem w_427 : Cond.fieldLink "ObjectForgeModel" 76 "ObjectForgeModel" "image" "[B" ∈ bw := j_17 _ (List.mem_of_getElem? (i := 2) rfl)
theorem w_428 : Cond.fieldLink "ObjectForgeModel" 79 "ObjectForgeModel" "starts" "[I" ∈ bw := j_17 _ (List.mem_of_getElem? (i := 3) rfl)
theorem w_429 : Cond.fieldLink "ObjectForgeModel" 82 "ObjectForgeModel" "addresses" "[I" ∈ bw := j_17 _ (List.mem_of_getElem? (i := 4) rfl)
theorem w_430 : Cond.fieldLink "ObjectForgeModel" 102 "ObjectForgeModel" "at" "I" ∈ bw := j_17 _ (List.mem_of_getElem? (i := 5) rfl)
theorem w_431 : Cond.fieldLink "ObjectForgeModel" 105 "ObjectForgeModel" "stop" "I" ∈ bw := j_17 _ (List.mem_of_getElem? (i := 6) rfl)
theorem w_432 : Cond.fieldLink "ObjectForgeModel" 119 "ObjectForgeModel" "kind" "I" ∈ bw := j_17 _ (List.mem_of_getElem? (i := 7) rfl)
theorem w_433 : Cond.fieldLink "ObjectForgeModel" 137 "ObjectForgeModel" "sign" "I" ∈ bw := j_17 _ (List.mem_of_getElem? (i := 8) rfl)
theorem w_434 : Cond.fieldLink "ObjectForgeModel" 162 "ObjectForgeModel" "nameSize" "I" ∈ bw := j_17 _ (List.mem_of_getElem? (i := 9) rfl)
theorem w_435 : Cond.fieldLink "ObjectForgeModel" 150 "ObjectForgeModel" "code" "J" ∈ bw := j_17 _ (List.mem_of_getElem? (i := 10) rfl)
theorem w_436 : Cond.fieldLink "ObjectForgeModel" 140 "ObjectForgeModel" "first" "J" ∈ bw := j_17 _ (List.mem_of_getElem? (i := 11) rfl)
theorem w_437 : Cond.fieldLink "ObjectForgeModel" 144 "ObjectForgeModel" "second" "J" ∈ bw := j_17 _ (List.mem_of_getElem? (i := 12) rfl)
theorem w_438 : Cond.fieldLink "ObjectForgeModel" 147 "ObjectForgeModel" "third" "J" ∈ bw := j_17 _ (List.mem_of_getElem? (i := 13) rfl)
theorem w_439 : Cond.fieldLink "ObjectForgeModel" 85 "ObjectForgeModel" "string" "[B" ∈ bw := j_17 _ (List.mem_of_getElem? (i := 14) rfl)
theorem w_440 : Cond.fieldLink "ObjectForgeModel" 1050 "ObjectForgeModel" "here" "I" ∈ bw := j_17 _ (List.mem_of_getElem? (i := 15) rfl)
theorem w_441 : Cond.fieldLink "ObjectForgeModel" 1055 "ObjectForgeModel" "line" "I" ∈ bw := j_17 _ (List.mem_of_getElem? (i := 16) rfl)
theorem w_442 : Cond.methodLink "ObjectForgeLaw" 69 y_Mo_thrown ∈ bw := j_17 _ (List.mem_of_getElem? (i := 17) rfl)
theorem w_443 : Cond.instanceMethod y_Mo_thrown ∈ bw := j_17 _ (List.mem_of_getElem? (i := 18) rfl)
theorem w_444 : Cond.selects "ObjectForgeModel" y_Mo_thrown y_Mo_thrown ∈ bw := j_17 _ (List.mem_of_getElem? (i := 19) rfl)
theorem w_445 : Cond.code y_Mo_thrown prog_11_method_2_code 1 (some FieldType.int) ∈ bw := j_17 _ (List.mem_of_getElem? (i := 20) rfl)
theorem w_446 : Cond.methodLink "ObjectForgeLaw" 68 y_Mo_feed ∈ bw := j_17 _ (List.mem_of_getElem? (i := 21) rfl)
theorem w_447 : Cond.instanceMethod y_Mo_feed ∈ bw := j_17 _ (List.mem_of_getElem? (i := 22) rfl)
theorem w_448 : Cond.selects "ObjectForgeModel" y_Mo_feed y_Mo_feed ∈ bw := j_17 _ (List.mem_of_getElem? (i := 23) rfl)
theorem w_449 : Cond.code y_Mo_feed prog_11_method_5_code 5 (some FieldType.int) ∈ bw := j_17 _ (List.mem_of_getElem? (i := 24) rfl)
theorem w_450 : Cond.methodLink "ObjectForgeModel" 94 y_Mo_refuse ∈ bw := j_18 _ (List.mem_of_getElem? (i := 0) rfl)
theorem w_451 : Cond.instanceMethod y_Mo_refuse ∈ bw := j_18 _ (List.mem_of_getElem? (i := 1) rfl)
theorem w_452 : Cond.code y_Mo_refuse prog_11_method_3_code 2 (some FieldType.int) ∈ bw := j_18 _ (List.mem_of_getElem? (i := 2) rfl)
theorem w_453 : Cond.methodLink "ObjectForgeModel" 98 y_Mo_four ∈ bw := j_18 _ (List.mem_of_getElem? (i := 3) rfl)
theorem w_454 : Cond.instanceMethod y_Mo_four ∈ bw := j_18 _ (List.mem_of_getElem? (i := 4) rfl)
theorem w_455 : Cond.code y_Mo_four prog_11_method_4_code 3 none ∈ bw := j_18 _ (List.mem_of_getElem? (i := 5) rfl)
theorem w_456 : Cond.methodLink "ObjectForgeLaw" 75 y_Mo_end ∈ bw := j_18 _ (List.mem_of_getElem? (i := 6) rfl)
theorem w_457 : Cond.instanceMethod y_Mo_end ∈ bw := j_18 _ (List.mem_of_getElem? (i := 7) rfl)
theorem w_458 : Cond.selects "ObjectForgeModel" y_Mo_end y_Mo_end ∈ bw := j_18 _ (List.mem_of_getElem? (i := 8) rfl)
theorem w_459 : Cond.code y_Mo_end prog_11_method_6_code 2 (some FieldType.int) ∈ bw := j_18 _ (List.mem_of_getElem? (i := 9) rfl)
theorem w_460 : Cond.methodLink "ObjectForgeLaw" 79 y_Mo_assemble ∈ bw := j_18 _ (List.mem_of_getElem? (i := 10) rfl)
theorem w_461 : Cond.instanceMethod y_Mo_assemble ∈ bw := j_18 _ (List.mem_of_getElem? (i := 11) rfl)
theorem w_462 : Cond.selects "ObjectForgeModel" y_Mo_assemble y_Mo_assemble ∈ bw := j_18 _ (List.mem_of_getElem? (i := 12) rfl)
theorem w_463 : Cond.code y_Mo_assemble prog_11_method_72_code 4 (some FieldType.int) ∈ bw := j_18 _ (List.mem_of_getElem? (i := 13) rfl)
theorem w_464 : Cond.methodLink "ObjectForgeModel" 985 y_Mo_fine ∈ bw := j_18 _ (List.mem_of_getElem? (i := 14) rfl)
theorem w_465 : Cond.instanceMethod y_Mo_fine ∈ bw := j_18 _ (List.mem_of_getElem? (i := 15) rfl)
theorem w_466 : Cond.code y_Mo_fine prog_11_method_33_code 1 (some FieldType.boolean) ∈ bw := j_18 _ (List.mem_of_getElem? (i := 16) rfl)
theorem w_467 : Cond.methodLink "ObjectForgeModel" 1169 y_Mo_read ∈ bw := j_18 _ (List.mem_of_getElem? (i := 17) rfl)
theorem w_468 : Cond.instanceMethod y_Mo_read ∈ bw := j_18 _ (List.mem_of_getElem? (i := 18) rfl)
theorem w_469 : Cond.code y_Mo_read prog_11_method_69_code 15 none ∈ bw := j_18 _ (List.mem_of_getElem? (i := 19) rfl)
theorem w_470 : Cond.methodLink "ObjectForgeModel" 998 y_Mo_next ∈ bw := j_18 _ (List.mem_of_getElem? (i := 20) rfl)
theorem w_471 : Cond.instanceMethod y_Mo_next ∈ bw := j_18 _ (List.mem_of_getElem? (i := 21) rfl)
theorem w_472 : Cond.code y_Mo_next prog_11_method_11_code 2 none ∈ bw := j_18 _ (List.mem_of_getElem? (i := 22) rfl)
theorem w_473 : Cond.methodLink "ObjectForgeModel" 108 y_Mo_here ∈ bw := j_18 _ (List.mem_of_getElem? (i := 23) rfl)
theorem w_474 : Cond.instanceMethod y_Mo_here ∈ bw := j_18 _ (List.mem_of_getElem? (i := 24) rfl)
theorem w_475 : Cond.code y_Mo_here prog_11_method_7_code 1 (some FieldType.int) ∈ bw := j_19 _ (List.mem_of_getElem? (i := 0) rfl)
theorem w_476 : Cond.methodLink "ObjectForgeModel" 112 ⟨"ObjectForgeModel", "isLetter", "(I)Z"⟩ ∈ bw := j_19 _ (List.mem_of_getElem? (i := 1) rfl)
theorem w_477 : Cond.methodLink "ObjectForgeModel" 122 ⟨"ObjectForgeModel", "named", "()V"⟩ ∈ bw := j_19 _ (List.mem_of_getElem? (i := 2) rfl)
theorem w_478 : Cond.methodLink "ObjectForgeModel" 116 ⟨"ObjectForgeModel", "isDigit", "(I)Z"⟩ ∈ bw := j_19 _ (List.mem_of_getElem? (i := 3) rfl)
theorem w_479 : Cond.methodLink "ObjectForgeModel" 125 ⟨"ObjectForgeModel", "counted", "()V"⟩ ∈ bw := j_19 _ (List.mem_of_getElem? (i := 4) rfl)
theorem w_480 : Cond.methodLink "ObjectForgeModel" 128 ⟨"ObjectForgeModel", "registered", "()V"⟩ ∈ bw := j_19 _ (List.mem_of_getElem? (i := 5) rfl)
theorem w_481 : Cond.methodLink "ObjectForgeModel" 131 ⟨"ObjectForgeModel", "character", "()V"⟩ ∈ bw := j_19 _ (List.mem_of_getElem? (i := 6) rfl)
theorem w_482 : Cond.constantLong "ObjectForgeModel" 211 (-1 : Int64) ∈ bw := j_19 _ (List.mem_of_getElem? (i := 7) rfl)
theorem w_483 : Cond.methodLink "ObjectForgeModel" 134 ⟨"ObjectForgeModel", "quoted", "()V"⟩ ∈ bw := j_19 _ (List.mem_of_getElem? (i := 8) rfl)
theorem w_484 : Cond.methodLink "ObjectForgeModel" 994 ⟨"ObjectForgeModel", "must", "(Z)Z"⟩ ∈ bw := j_19 _ (List.mem_of_getElem? (i := 9) rfl)
theorem w_485 : Cond.methodLink "ObjectForgeModel" 988 ⟨"ObjectForgeModel", "wrong", "(I)V"⟩ ∈ bw := j_19 _ (List.mem_of_getElem? (i := 10) rfl)
theorem w_486 : Cond.methodLink "ObjectForgeModel" 991 ⟨"ObjectForgeModel", "isSign", "(I)Z"⟩ ∈ bw := j_19 _ (List.mem_of_getElem? (i := 11) rfl)
theorem w_487 : Cond.methodLink "ObjectForgeModel" 1150 ⟨"ObjectForgeModel", "label", "()V"⟩ ∈ bw := j_19 _ (List.mem_of_getElem? (i := 12) rfl)
theorem w_488 : Cond.methodLink "ObjectForgeModel" 1153 ⟨"ObjectForgeModel", "found", "(J)J"⟩ ∈ bw := j_19 _ (List.mem_of_getElem? (i := 13) rfl)
theorem w_489 : Cond.methodLink "ObjectForgeModel" 1156 ⟨"ObjectForgeModel", "mayStand", "(I)Z"⟩ ∈ bw := j_19 _ (List.mem_of_getElem? (i := 14) rfl)
theorem w_490 : Cond.constantLong "ObjectForgeModel" 1159 (40 : Int64) ∈ bw := j_19 _ (List.mem_of_getElem? (i := 15) rfl)
theorem w_491 : Cond.methodLink "ObjectForgeModel" 1161 ⟨"ObjectForgeModel", "instruction", "(II)V"⟩ ∈ bw := j_19 _ (List.mem_of_getElem? (i := 16) rfl)
theorem w_492 : Cond.constantLong "ObjectForgeModel" 1108 (-32768 : Int64) ∈ bw := j_19 _ (List.mem_of_getElem? (i := 17) rfl)
theorem w_493 : Cond.constantLong "ObjectForgeModel" 1110 (32767 : Int64) ∈ bw := j_19 _ (List.mem_of_getElem? (i := 18) rfl)
theorem w_494 : Cond.methodLink "ObjectForgeModel" 1164 ⟨"ObjectForgeModel", "directive", "(I)V"⟩ ∈ bw := j_19 _ (List.mem_of_getElem? (i := 19) rfl)
theorem w_495 : Cond.constantLong "ObjectForgeModel" 1144 (255 : Int64) ∈ bw := j_19 _ (List.mem_of_getElem? (i := 20) rfl)
theorem w_496 : Cond.methodLink "ObjectForgeModel" 1172 y_Mo_settle ∈ bw := j_19 _ (List.mem_of_getElem? (i := 21) rfl)
theorem w_497 : Cond.instanceMethod y_Mo_settle ∈ bw := j_19 _ (List.mem_of_getElem? (i := 22) rfl)
theorem w_498 : Cond.code y_Mo_settle prog_11_method_71_code 9 none ∈ bw := j_19 _ (List.mem_of_getElem? (i := 23) rfl)
theorem w_499 : Cond.constantLong "ObjectForgeModel" 1167 (4 : Int64) ∈ bw := j_19 _ (List.mem_of_getElem? (i := 24) rfl)
theorem w_500 : Cond.methodLink "ObjectForgeLaw" 82 y_Mo_fault ∈ bw := j_20 _ (List.mem_of_getElem? (i := 0) rfl)
theorem w_501 : Cond.instanceMethod y_Mo_fault ∈ bw := j_20 _ (List.mem_of_getElem? (i := 1) rfl)
theorem w_502 : Cond.selects "ObjectForgeModel" y_Mo_fault y_Mo_fault ∈ bw := j_20 _ (List.mem_of_getElem? (i := 2) rfl)
theorem w_503 : Cond.code y_Mo_fault prog_11_method_73_code 2 (some FieldType.int) ∈ bw := j_20 _ (List.mem_of_getElem? (i := 3) rfl)
theorem w_504 : Cond.methodLink "ObjectForgeLaw" 86 y_Mo_size ∈ bw := j_20 _ (List.mem_of_getElem? (i := 4) rfl)
theorem w_505 : Cond.instanceMethod y_Mo_size ∈ bw := j_20 _ (List.mem_of_getElem? (i := 5) rfl)
theorem w_506 : Cond.selects "ObjectForgeModel" y_Mo_size y_Mo_size ∈ bw := j_20 _ (List.mem_of_getElem? (i := 6) rfl)
theorem w_507 : Cond.code y_Mo_size prog_11_method_75_code 3 (some FieldType.int) ∈ bw := j_20 _ (List.mem_of_getElem? (i := 7) rfl)
theorem w_508 : Cond.methodLink "ObjectForgeModel" 1181 y_Mo_within ∈ bw := j_20 _ (List.mem_of_getElem? (i := 8) rfl)
theorem w_509 : Cond.static y_Mo_within ∈ bw := j_20 _ (List.mem_of_getElem? (i := 9) rfl)
theorem w_510 : Cond.code y_Mo_within prog_11_method_74_code 2 (some FieldType.boolean) ∈ bw := j_20 _ (List.mem_of_getElem? (i := 10) rfl)
theorem w_511 : Cond.methodLink "ObjectForgeLaw" 90 y_Mo_byteAt ∈ bw := j_20 _ (List.mem_of_getElem? (i := 11) rfl)
theorem w_512 : Cond.instanceMethod y_Mo_byteAt ∈ bw := j_20 _ (List.mem_of_getElem? (i := 12) rfl)
theorem w_513 : Cond.selects "ObjectForgeModel" y_Mo_byteAt y_Mo_byteAt ∈ bw := j_20 _ (List.mem_of_getElem? (i := 13) rfl)
theorem w_514 : Cond.code y_Mo_byteAt prog_11_method_76_code 4 (some FieldType.int) ∈ bw := j_20 _ (List.mem_of_getElem? (i := 14) rfl)
theorem w_515 : Cond.methodLink "ObjectForgeLaw" 93 y_Mo_symbol ∈ bw := j_20 _ (List.mem_of_getElem? (i := 15) rfl)
theorem w_516 : Cond.instanceMethod y_Mo_symbol ∈ bw := j_20 _ (List.mem_of_getElem? (i := 16) rfl)
theorem w_517 : Cond.selects "ObjectForgeModel" y_Mo_symbol y_Mo_symbol ∈ bw := j_20 _ (List.mem_of_getElem? (i := 17) rfl)
theorem w_518 : Cond.code y_Mo_symbol prog_11_method_77_code 5 (some FieldType.int) ∈ bw := j_20 _ (List.mem_of_getElem? (i := 18) rfl)
theorem w_519 : Cond.methodLink "ObjectForgeLaw" 96 y_Mo_letter ∈ bw := j_20 _ (List.mem_of_getElem? (i := 19) rfl)
theorem w_520 : Cond.instanceMethod y_Mo_letter ∈ bw := j_20 _ (List.mem_of_getElem? (i := 20) rfl)
theorem w_521 : Cond.selects "ObjectForgeModel" y_Mo_letter y_Mo_letter ∈ bw := j_20 _ (List.mem_of_getElem? (i := 21) rfl)
theorem w_522 : Cond.code y_Mo_letter prog_11_method_78_code 9 (some FieldType.int) ∈ bw := j_20 _ (List.mem_of_getElem? (i := 22) rfl)
theorem w_523 : Cond.methodLink "ObjectForgeLaw" 99 y_Mo_relocation ∈ bw := j_20 _ (List.mem_of_getElem? (i := 23) rfl)
theorem w_524 : Cond.instanceMethod y_Mo_relocation ∈ bw := j_20 _ (List.mem_of_getElem? (i := 24) rfl)
theorem w_525 : Cond.selects "ObjectForgeModel" y_Mo_relocation y_Mo_relocation ∈ bw := j_21 _ (List.mem_of_getElem? (i := 0) rfl)
theorem w_526 : Cond.code y_Mo_relocation prog_11_method_79_code 5 (some FieldType.int) ∈ bw := j_21 _ (List.mem_of_getElem? (i := 1) rfl)
theorem w_527 : Cond.methodLink "ObjectForgeLaw" 102 y_Mo_link ∈ bw := j_21 _ (List.mem_of_getElem? (i := 2) rfl)
theorem w_528 : Cond.instanceMethod y_Mo_link ∈ bw := j_21 _ (List.mem_of_getElem? (i := 3) rfl)
theorem w_529 : Cond.selects "ObjectForgeModel" y_Mo_link y_Mo_link ∈ bw := j_21 _ (List.mem_of_getElem? (i := 4) rfl)
theorem w_530 : Cond.code y_Mo_link prog_11_method_85_code 7 (some FieldType.int) ∈ bw := j_21 _ (List.mem_of_getElem? (i := 5) rfl)
theorem w_531 : Cond.methodLink "ObjectForgeModel" 1195 ⟨"ObjectForgeModel", "failed", "(III)I"⟩ ∈ bw := j_21 _ (List.mem_of_getElem? (i := 6) rfl)
theorem w_532 : Cond.methodLink "ObjectForgeModel" 1199 ⟨"ObjectForgeModel", "lay", "()I"⟩ ∈ bw := j_21 _ (List.mem_of_getElem? (i := 7) rfl)
theorem w_533 : Cond.methodLink "ObjectForgeModel" 1202 ⟨"ObjectForgeModel", "other", "(III)I"⟩ ∈ bw := j_21 _ (List.mem_of_getElem? (i := 8) rfl)
theorem w_534 : Cond.methodLink "ObjectForgeModel" 1205 ⟨"ObjectForgeModel", "placeOf", "(I)I"⟩ ∈ bw := j_21 _ (List.mem_of_getElem? (i := 9) rfl)
theorem w_535 : Cond.methodLink "ObjectForgeModel" 1208 ⟨"ObjectForgeModel", "done", "(II)Z"⟩ ∈ bw := j_21 _ (List.mem_of_getElem? (i := 10) rfl)
theorem w_536 : Cond.methodLink "ObjectForgeModel" 1217 ⟨"ObjectForgeModel", "wordIn", "(I)I"⟩ ∈ bw := j_21 _ (List.mem_of_getElem? (i := 11) rfl)
theorem w_537 : Cond.methodLink "ObjectForgeLaw" 105 y_Mo_word ∈ bw := j_21 _ (List.mem_of_getElem? (i := 12) rfl)
theorem w_538 : Cond.instanceMethod y_Mo_word ∈ bw := j_21 _ (List.mem_of_getElem? (i := 13) rfl)
theorem w_539 : Cond.selects "ObjectForgeModel" y_Mo_word y_Mo_word ∈ bw := j_21 _ (List.mem_of_getElem? (i := 14) rfl)
theorem w_540 : Cond.code y_Mo_word prog_11_method_88_code 3 (some FieldType.int) ∈ bw := j_21 _ (List.mem_of_getElem? (i := 15) rfl)
theorem w_541 : Cond.methodLink "ObjectForgeLaw" 108 y_Mo_address ∈ bw := j_21 _ (List.mem_of_getElem? (i := 16) rfl)
theorem w_542 : Cond.instanceMethod y_Mo_address ∈ bw := j_21 _ (List.mem_of_getElem? (i := 17) rfl)
theorem w_543 : Cond.selects "ObjectForgeModel" y_Mo_address y_Mo_address ∈ bw := j_21 _ (List.mem_of_getElem? (i := 18) rfl)
theorem w_544 : Cond.code y_Mo_address prog_11_method_89_code 3 (some FieldType.int) ∈ bw := j_21 _ (List.mem_of_getElem? (i := 19) rfl)
theorem w_545 : Cond.methodLink "ObjectForgeLaw" 112 y_Mo_clear ∈ bw := j_21 _ (List.mem_of_getElem? (i := 20) rfl)
theorem w_546 : Cond.instanceMethod y_Mo_clear ∈ bw := j_21 _ (List.mem_of_getElem? (i := 21) rfl)
theorem w_547 : Cond.selects "ObjectForgeModel" y_Mo_clear y_Mo_clear ∈ bw := j_21 _ (List.mem_of_getElem? (i := 22) rfl)
theorem w_548 : Cond.code y_Mo_clear prog_11_method_90_code 2 (some FieldType.int) ∈ bw := j_21 _ (List.mem_of_getElem? (i := 23) rfl)
theorem w_549 : Cond.methodLink "ObjectForgeLaw" 115 y_Mo_count ∈ bw := j_21 _ (List.mem_of_getElem? (i := 24) rfl)
theorem w_550 : Cond.instanceMethod y_Mo_count ∈ bw := j_22 _ (List.mem_of_getElem? (i := 0) rfl)
theorem w_551 : Cond.selects "ObjectForgeModel" y_Mo_count y_Mo_count ∈ bw := j_22 _ (List.mem_of_getElem? (i := 1) rfl)
theorem w_552 : Cond.code y_Mo_count prog_11_method_91_code 3 (some FieldType.int) ∈ bw := j_22 _ (List.mem_of_getElem? (i := 2) rfl)
theorem w_553 : Cond.selects "ObjectForge$Assembler" y_As_readLabels y_As_readLabels ∈ bw := j_22 _ (List.mem_of_getElem? (i := 3) rfl)
theorem w_554 : Cond.selects "ObjectForge$Assembler" y_As_readStatement y_As_readStatement ∈ bw := j_22 _ (List.mem_of_getElem? (i := 4) rfl)
theorem w_555 : Cond.selects "ObjectForge$Assembler" y_As_settleBranches y_As_settleBranches ∈ bw := j_22 _ (List.mem_of_getElem? (i := 5) rfl)
theorem w_556 : Cond.selects "ObjectForge" y_OF_unitNumbered y_OF_unitNumbered ∈ bw := j_22 _ (List.mem_of_getElem? (i := 6) rfl)
theorem w_557 : Cond.selects "ObjectForgeModel" y_Mo_refuse y_Mo_refuse ∈ bw := j_22 _ (List.mem_of_getElem? (i := 7) rfl)
theorem w_558 : Cond.selects "ObjectForgeModel" y_Mo_four y_Mo_four ∈ bw := j_22 _ (List.mem_of_getElem? (i := 8) rfl)
theorem w_559 : Cond.selects "ObjectForgeModel" y_Mo_fine y_Mo_fine ∈ bw := j_22 _ (List.mem_of_getElem? (i := 9) rfl)
theorem w_560 : Cond.selects "ObjectForgeModel" y_Mo_read y_Mo_read ∈ bw := j_22 _ (List.mem_of_getElem? (i := 10) rfl)
theorem w_561 : Cond.selects "ObjectForgeModel" y_Mo_next y_Mo_next ∈ bw := j_22 _ (List.mem_of_getElem? (i := 11) rfl)
theorem w_562 : Cond.selects "ObjectForgeModel" y_Mo_here y_Mo_here ∈ bw := j_22 _ (List.mem_of_getElem? (i := 12) rfl)
theorem w_563 : Cond.selects "ObjectForgeModel" y_Mo_settle y_Mo_settle ∈ bw := j_22 _ (List.mem_of_getElem? (i := 13) rfl)
theorem bw_good : ∀ w ∈ bw, goodWord w = true := by
  have h : bw.all goodWord = true := by decide +kernel
  exact fun w hw => List.all_eq_true.mp h w hw
theorem xg {w : Cond} (h : w ∈ bw) : GoodIn bw (w :: bw) := fun z hz => (List.mem_cons.mp hz).elim (fun e => e ▸ ⟨h, good_of_word (bw_good _ h)⟩) (fun h2 => ⟨h2, good_of_word (bw_good _ h2)⟩)
end
section
/-! ===== methods that throw, calls of such methods, and the rows that catch ===== -/
/-- the end of a method that throws x -/
def MQT (below : List Frame) (Qt : Array Value → State → Addr → State → Prop) (a : Array Value) (s : State) (mc ms : Nat) (free : Addr → Prop) : State → Prop := fun t =>
  ∃ x, t.status = .running ∧ Ended t below (.threw x) ∧ Qt a s x t ∧ ∃ L, (s.WarmedH t.vm ∧ s.sameButNew ({ t with vm := s.vm } : State) L mc ms) ∧ ∀ q ∈ L, free q.base
/-- the contract of a method that throws -/
def MetT (l : Launch) (y : MethodName) (ws : List Cond) (rm : Room) (Pc : Array Value → State → Prop) (Qt : Array Value → State → Addr → State → Prop) (mc ms : Nat) (free : Addr → Prop) : Prop :=
  MetFree l y (headSpec ws rm) Pc (fun _ _ _ _ _ => True) (fun a st o t => ∃ x, o = .threw x ∧ Qt a st x t ∧ ∃ L, (st.WarmedH t.vm ∧ st.sameButNew ({ t with vm := st.vm } : State) L mc ms) ∧ ∀ q ∈ L, free q.base)
section XT1
variable {l : Launch}
theorem MetT.ofW {y : MethodName} {ws ws' : List Cond} {rm : Room} {Pc : Array Value → State → Prop} {Qt : Array Value → State → Addr → State → Prop} {mc ms : Nat} {free : Addr → Prop} {cc : ByteArray} {maxL : Nat} {ret : Option FieldType}
    (hy : plainName y.cls = true) (hw : ws = Cond.code y cc maxL ret :: ws')
    (body : ∀ p e s m args below meth c s₁, BodyLoose p l y (headSpec ws rm) cc maxL ret e s m args below meth c s₁ → c.maxLocals = maxL → (∀ x ∈ c.exceptionTable.toList, ∀ k : Nat, covers x k = false) → Pc args s →
      W p l e (headSpec ws rm).room s m args below meth c s.heap [] 0 0 (MQT below Qt args s mc ms free) (entryFrame m args maxL)) : MetT l y ws rm Pc Qt mc ms free := by
  refine MetFree.of_bodyS (code := cc) (maxLocals := maxL) (ret := ret) hy ?_ ?_
  · intro args s m h hn
    obtain ⟨meth, c, h1, h2, h3, h4, h5, h6, -, -⟩ := Cond.code_spec hn (atoms_spec (ws := ws) h _ (by rw [hw]; exact List.mem_cons_self))
    exact ⟨meth, c, h1, h2, h3, h4, h5, h6⟩
  · intro p e s m args below meth c s₁ B hml hP _
    have hh0 : s₁.heap = s.heap := by rw [B.state]; rfl
    have hnone : c.exceptionTable.isEmpty = true := B.noHandlers (atoms_spec (ws := ws) B.pre _ (by rw [hw]; exact List.mem_cons_self))
    have hno : ∀ x ∈ c.exceptionTable.toList, ∀ k : Nat, covers x k = false := fun x hx k => by
      have h0 : c.exceptionTable = #[] := Array.isEmpty_iff.mp hnone
      rw [h0] at hx
      exact absurd hx (by simp)
    obtain ⟨t, a1, x, b1, b2, b3⟩ := body p e s m args below meth c s₁ B hml hno hP s₁ hh0 (Stand.of_body B)
    exact ⟨t, .threw x, a1, b1, b2, x, rfl, b3⟩
end XT1
section XT2
variable {p : Program} {l : Launch} {e : Env} {R : Room} {s : State} {m : MethodId} {args : Array Value} {below : List Frame} {meth : Method} {c : Code} {H : Heap} {locs : List Loc} {cells slots : Nat} {Q : State → Prop}
/-- an exception x is on its way through the frame g -/
def WT (p : Program) (l : Launch) (e : Env) (R : Room) (s : State) (m : MethodId) (args : Array Value) (below : List Frame) (meth : Method) (c : Code) (H : Heap) (locs : List Loc) (cells slots : Nat) (Q : State → Prop) (g : JFrame) (x : Addr) : Prop :=
  ∀ T : State, T.heap = H → Stand p l e R s m args below meth c T locs cells slots → ∃ t, Steps p.tables e below ((T.setTop g).pushFrame (.throwing x)) t ∧ Q t
/-- nobody catches it here -/
theorem WT.out {Qt : Array Value → State → Addr → State → Prop} {free : Addr → Prop} {x : Addr} {pc : Nat} {ls : Array Slot} {st : List Value} (hno : ∀ x ∈ c.exceptionTable.toList, ∀ k : Nat, covers x k = false) (hlocks : meth.locks = false)
    (hq : ∀ t : State, t.heap = H → s.WarmedH t.vm → Qt args s x t) (hf : ∀ q ∈ locs, free q.base) :
    WT p l e R s m args below meth c H locs cells slots (MQT below Qt args s cells slots free) (F0 m pc ls st) x := by
  intro T hT X
  obtain ⟨h1, h2, h3, h4, h5⟩ := X.leaveThrown x (g := F0 m pc ls st) rfl rfl rfl (fun y hy => hno y hy pc) hlocks
  exact ⟨_, h1, x, h2, h3, hq _ hT h4, locs, ⟨h4, h5⟩, hf⟩
variable {y : MethodName} {ws : List Cond} {rm : Room} {Pc : Array Value → State → Prop} {Qt : Array Value → State → Addr → State → Prop} {mc ms : Nat} {free : Addr → Prop} {bytes : ByteArray} {maxL : Nat} {ret : Option FieldType}
/-- at the call itself: the callee's contract, laid at the caller's point -/
theorem MetT.at {T : State} {g : JFrame} {ig : Instr} {len Wd : Nat} {mk : MethodId} {a : Array Value} (hM : MetT l y ws rm Pc Qt mc ms free) (hblind : FrameBlind Pc) (hrc : rm.cells = mc) (hrs : rm.slots = ms)
    (hframes : rm.frames + 1 ≤ R.frames) (hlocals : Wd + (maxL + 11) + rm.locals ≤ R.locals)
    (hws : ∀ w ∈ ws, ∀ a' U, s.WarmedH U.vm → w.before a' U = true) (hcode : Cond.code y bytes maxL ret ∈ ws) (hinit : ∀ a' U, s.WarmedH U.vm → (Cond.initialized y.cls).before a' U = true)
    (X : Stand p l e R s m args below meth c T locs cells slots) (hg : g.method = m) (hsize : g.locals.size = c.maxLocals) (hdg : decode c.code g.pc = .ok (ig, len))
    (hW : 2 * g.monitorRoom + (g.stack.map fun v => v.category).sum ≤ Wd) (hn : T.methodNamed? y = some mk) (hc : cells + mc ≤ R.cells) (hs : slots + ms ≤ R.slots) (hp : Pc a T) :
    ∃ (x : Addr) (T' t : State) (L : List Loc), Stand p l e R s m args below meth c T' (locs ++ L) (cells + mc) (slots + ms) ∧ (∀ q ∈ L, free q.base) ∧ T'.heap = t.heap ∧ T'.vm = t.vm ∧ Qt a (T.calling g mk a) x t ∧
      Steps p.tables e below (doInvoke e (T.setTop g) [] mk a).1 ((T'.setTop g).pushFrame (.throwing x)) := by
  have h1 : (headSpec ws rm).pre.before a T = true := atoms_intro fun w hw => hws w hw _ _ X.warmed
  obtain ⟨methY, cY, hmY, hcY, -, hlY, -, -, -, -⟩ := Cond.code_spec hn (hws _ hcode a T X.warmed)
  obtain ⟨kY, hkY, -⟩ := className_of_methodNamed hn
  have hinitY : kY.init = .initialized := Cond.initialized_spec (findClass_of_methodNamed hn) hkY (hinit a T X.warmed)
  have h : At T g.method c below := by rw [hg]; exact X.here
  have happ : (headSpec ws rm).appliesLoose y e.platform (T.calling g mk a) = true :=
    Spec.appliesLoose_calling (g := g) h hdg hn hkY hinitY
      (X.room_calling (g := g) (R' := rm) hsize hmY hcY hframes (by rw [hlY]; omega) (by rw [hrc]; exact hc) (by rw [hrs]; exact hs)) h1
  obtain ⟨mid, hmid⟩ := h.above
  have hfr : (T.setTop g).frames = (.java g :: mid) ++ below := by rw [State.frames_setTop' g h.top, hmid]; rfl
  obtain ⟨o, t, hsteps, -, hend, hq⟩ := Steps.callFree hM p X.admits X.cas X.clock (acts := []) hfr happ (hblind _ _ _ _ hp) trivial
  obtain ⟨x, rfl, hq, L, ⟨hW2, hsame⟩, hL⟩ := hq
  rw [State.frames_setTop' g h.top, X.tail] at hend
  obtain ⟨T', X', -, -, ht⟩ := X.outOfThrown (g := g) hg (mk := mk) (a := a) (t := t) (x := x) hend hW2 hsame
  refine ⟨x, T', t, L, X', hL, ?_, ?_, hq, ?_⟩
  · rw [ht]; rfl
  · rw [ht]; rfl
  · rw [ht] at hsteps; exact hsteps
end XT2
section XT3
variable {Q : Handler → Pre} {E : CtlPost} {e : Env} {d : Bool} {acts : List Action} {s : State} {f : JFrame} {a : Addr}
/-- the search at a row whose class may be linked only now -/
theorem xk_row {x : ExceptionTableEntry} {rows : List ExceptionTableEntry} {k : ClassId} {cell : Cell} (hx : covers x f.pc = true) (h0 : x.catchType ≠ 0)
    (hl : s.vm.ClassLinks e.platform f.method.cls x.catchType k) (hcell : s.heap[a]? = some cell) (hobj : ∀ z, cell.vm ≠ .statics z)
    (hk : ∃ z, s.vm.classes[cell.cls]? = some z) (hc : ∃ z, s.vm.classes[k]? = some z) :
    wp (findHandler.go f a (x :: rows)) Q E e d acts s ↔ if s.vm.assignable cell.cls k = true then Q (.found x.handlerPc) d acts (s.setVm (s.vm.noted f.method.cls x.catchType (.cls k))) else wp (findHandler.go f a rows) Q E e d acts (s.setVm (s.vm.noted f.method.cls x.catchType (.cls k))) := by
  simp only [covers] at hx
  have hR := (resolveClass_links e.toSetting hl).op (op := VmOp.resolveClass f.method.cls x.catchType) rfl
  have hA : s.vm.Alike (s.vm.noted f.method.cls x.catchType (.cls k)) := (Vm.Alike.refl s.vm).noted _ _ _
  obtain ⟨z1, hz1⟩ := hk
  obtain ⟨z2, hz2⟩ := hc
  obtain ⟨w1, hw1, -⟩ := hA.2.2 _ _ hz1
  obtain ⟨w2, hw2, -⟩ := hA.2.2 _ _ hz2
  have hv : (s.vm.noted f.method.cls x.catchType (.cls k)).assignable cell.cls k = s.vm.assignable cell.cls k := hA.assignable _ _
  cases hfit : s.vm.assignable cell.cls k <;> rw [hfit] at hv <;> simp [findHandler.go, hx, h0, hR.1, hR.2, hcell, hobj, hw1, hw2, hv, VmOp.dirties, VmOp.acts]
end XT3
section XT4
variable {p : Program} {l : Launch} {e : Env} {R : Room} {s : State} {m : MethodId} {args : Array Value} {below : List Frame} {meth : Method} {c : Code} {H : Heap} {locs : List Loc} {cells slots : Nat} {Q : State → Prop}
/-- the search has found a handler, with the tables vm' behind it: the walk goes on there -/
theorem xk_go {T : State} {g : JFrame} {x : Addr} {pc : Nat} {vm' : Vm} {target : State} (X : Stand p l e R s m args below meth c T locs cells slots) (hg : g.method = m)
    (hfind : ∀ (Q : Handler → Pre) (E : CtlPost) (d : Bool) (acts : List Action), wp (findHandler g x) Q E e d acts ((T.setTop g).pushFrame (.throwing x)) ↔ Q (.found pc) d acts (((T.setTop g).pushFrame (.throwing x)).setVm vm'))
    (hrest : Steps p.tables e below ((T.setVm vm').setTop { g with pc := pc, stack := [.ref x] }) target) : Steps p.tables e below ((T.setTop g).pushFrame (.throwing x)) target := by
  have h : At T g.method c below := by rw [hg]; exact X.here
  obtain ⟨hgo, hw⟩ := h.throwing x
  refine Steps.head hgo hw ?_
  have hstep : ∀ r : List Frame, (stepThrowing e ((T.setTop g).pushFrame (.throwing x)) x (.java g :: r)).1 = (((T.setTop g).pushFrame (.throwing x)).setVm vm').setFrames (.java { g with pc := pc, stack := [.ref x] } :: r) := by
    intro r
    simp only [stepThrowing, searchFrame, vmDo]
    generalize hr : Sem.go _ e false [] ((T.setTop g).pushFrame (.throwing x)) = res
    obtain ⟨as, rfl, -⟩ := Sem.eq_ok_of hr (a := Handler.found pc) (s' := ((T.setTop g).pushFrame (.throwing x)).setVm vm') (acts' := []) (by simp [hfind _ _ _ _])
    rfl
  rw [stepThread_throwing (frames_entered h.top _), hstep]
  obtain ⟨g₀, hg0⟩ := Option.isSome_iff_exists.mp h.top
  obtain ⟨r, hr⟩ := State.topJava?_eq_some.mp hg0
  have hr' : (T.setVm vm').frames = .java g₀ :: r := hr
  rw [State.setTop_of_frames _ hr'] at hrest
  rw [State.setTop_of_frames _ hr, State.pushFrame, State.setFrames_setFrames, hr, show ∀ F : List Frame, (T.setFrames F).setVm vm' = (T.setVm vm').setFrames F from fun _ => rfl, State.setFrames_setFrames]
  exact hrest
/-- the first row catches -/
theorem WT.catch1 {x : Addr} {pc pc' : Nat} {ls : Array Slot} {st : List Value} {own nm : String} {x0 : ExceptionTableEntry} {rows : List ExceptionTableEntry} (hown : s.vm.findClass own = some m.cls) (hrows : c.exceptionTable.toList = x0 :: rows)
    (hcov : covers x0 pc = true) (h0 : x0.catchType ≠ 0) (hpc : x0.handlerPc = pc') (hlink : (Cond.classLink own x0.catchType nm).before args s = true)
    (hcell : ∃ cell : Cell, H[x]? = some cell ∧ cell.vm.isStatics = false ∧ s.vm.findClass nm = some cell.cls) (hself : (Cond.castable nm nm).before args s = true)
    (kk : W p l e R s m args below meth c H locs cells slots Q (F0 m pc' ls [.ref x])) : WT p l e R s m args below meth c H locs cells slots Q (F0 m pc ls st) x := by
  intro T hT X
  subst hpc
  have hpl : e.platform.magicAccessors = ({} : Platform).magicAccessors := by rw [X.admits.platform]
  obtain ⟨cell, hH, hobj, hcls⟩ := hcell
  obtain ⟨k, hk, hl⟩ := Cond.classLink_spec hown hlink e.platform hpl
  cases hk.symm.trans hcls
  obtain ⟨c3, c4, hc3, hc4, hasg⟩ := Cond.castable_spec hself
  cases hc3.symm.trans hcls
  cases hc4.symm.trans hcls
  obtain ⟨dk, _, _, kt, hd, _, _, _, _, hkt, _, hopen⟩ := hl.here
  have hW := X.warmed
  have hW' : s.WarmedH (T.vm.noted m.cls x0.catchType (.cls cell.cls)) := hW.noted hd hopen (State.rightAt_cls hl)
  obtain ⟨kt', hkt', -⟩ := hW.alike.2.2 _ _ hkt
  obtain ⟨t, a1, b1⟩ := kk (T.setVm (T.vm.noted m.cls x0.catchType (.cls cell.cls))) hT (X.noted hW')
  refine ⟨t, xk_go X rfl (vm' := T.vm.noted m.cls x0.catchType (.cls cell.cls)) (fun Q E d acts => ?_) a1, b1⟩
  have hvm : (((T.setTop (F0 m pc ls st)).pushFrame (.throwing x)) : State).vm = T.vm := Stand.throwing_vm T _ x
  have hhp : (((T.setTop (F0 m pc ls st)).pushFrame (.throwing x)) : State).heap = T.heap := Stand.throwing_heap T _ x
  rw [W.findHandler_eq (meth := meth) (code := c) (by rw [hvm]; exact X.method') X.code, hrows]
  rw [xk_row (cell := cell) hcov h0 (by rw [hvm]; exact hW.classLinks hl) (by rw [hhp, hT]; exact hH) (fun z hz => by rw [hz] at hobj; cases hobj) (by rw [hvm]; exact ⟨_, hkt'⟩) (by rw [hvm]; exact ⟨_, hkt'⟩), hvm, if_pos (by rw [hW.alike.assignable]; exact hasg)]
/-- the first row lets it pass, the second one catches -/
theorem WT.catch2 {x : Addr} {pc pc' : Nat} {ls : Array Slot} {st : List Value} {own nm other : String} {x0 x1 : ExceptionTableEntry} {rows : List ExceptionTableEntry} (hown : s.vm.findClass own = some m.cls) (hrows : c.exceptionTable.toList = x0 :: x1 :: rows)
    (hcov0 : covers x0 pc = true) (h00 : x0.catchType ≠ 0) (hlink0 : (Cond.classLink own x0.catchType other).before args s = true) (hnot : (Cond.not (.castable nm other)).before args s = true)
    (hcov : covers x1 pc = true) (h0 : x1.catchType ≠ 0) (hpc : x1.handlerPc = pc') (hlink : (Cond.classLink own x1.catchType nm).before args s = true)
    (hcell : ∃ cell : Cell, H[x]? = some cell ∧ cell.vm.isStatics = false ∧ s.vm.findClass nm = some cell.cls) (hself : (Cond.castable nm nm).before args s = true)
    (kk : W p l e R s m args below meth c H locs cells slots Q (F0 m pc' ls [.ref x])) : WT p l e R s m args below meth c H locs cells slots Q (F0 m pc ls st) x := by
  intro T hT X
  subst hpc
  have hpl : e.platform.magicAccessors = ({} : Platform).magicAccessors := by rw [X.admits.platform]
  obtain ⟨cell, hH, hobj, hcls⟩ := hcell
  obtain ⟨k0, hk0, hl0⟩ := Cond.classLink_spec hown hlink0 e.platform hpl
  have hno : s.vm.assignable cell.cls k0 = false := by
    have hv := Cond.holds_not_iff.mp hnot
    simp only [Cond.value, hcls, hk0] at hv
    exact Option.some.inj hv
  obtain ⟨k, hk, hl⟩ := Cond.classLink_spec hown hlink e.platform hpl
  cases hk.symm.trans hcls
  obtain ⟨c3, c4, hc3, hc4, hasg⟩ := Cond.castable_spec hself
  cases hc3.symm.trans hcls
  cases hc4.symm.trans hcls
  obtain ⟨dk0, _, _, kt0, hd0, _, _, _, _, hkt0, _, hopen0⟩ := hl0.here
  obtain ⟨dk, _, _, kt, hd, _, _, _, _, hkt, _, hopen⟩ := hl.here
  have hW := X.warmed
  have hW0 : s.WarmedH (T.vm.noted m.cls x0.catchType (.cls k0)) := hW.noted hd0 hopen0 (State.rightAt_cls hl0)
  have hW1 : s.WarmedH ((T.vm.noted m.cls x0.catchType (.cls k0)).noted m.cls x1.catchType (.cls cell.cls)) := hW0.noted hd hopen (State.rightAt_cls hl)
  obtain ⟨kt0', hkt0', -⟩ := hW.alike.2.2 _ _ hkt0
  obtain ⟨kt', hkt', -⟩ := hW.alike.2.2 _ _ hkt
  obtain ⟨kt'', hkt'', -⟩ := hW0.alike.2.2 _ _ hkt
  obtain ⟨t, a1, b1⟩ := kk (T.setVm ((T.vm.noted m.cls x0.catchType (.cls k0)).noted m.cls x1.catchType (.cls cell.cls))) hT (X.noted hW1)
  refine ⟨t, xk_go X rfl (vm' := (T.vm.noted m.cls x0.catchType (.cls k0)).noted m.cls x1.catchType (.cls cell.cls)) (fun Q E d acts => ?_) a1, b1⟩
  have hvm : (((T.setTop (F0 m pc ls st)).pushFrame (.throwing x)) : State).vm = T.vm := Stand.throwing_vm T _ x
  have hhp : (((T.setTop (F0 m pc ls st)).pushFrame (.throwing x)) : State).heap = T.heap := Stand.throwing_heap T _ x
  rw [W.findHandler_eq (meth := meth) (code := c) (by rw [hvm]; exact X.method') X.code, hrows]
  rw [xk_row (cell := cell) hcov0 h00 (by rw [hvm]; exact hW.classLinks hl0) (by rw [hhp, hT]; exact hH) (fun z hz => by rw [hz] at hobj; cases hobj) (by rw [hvm]; exact ⟨_, hkt'⟩) (by rw [hvm]; exact ⟨_, hkt0'⟩), hvm, if_neg (by rw [hW.alike.assignable, hno]; decide)]
  rw [xk_row (cell := cell) hcov h0 (hW0.classLinks hl) (by show (((T.setTop (F0 m pc ls st)).pushFrame (.throwing x)) : State).heap[x]? = some cell; rw [hhp, hT]; exact hH) (fun z hz => by rw [hz] at hobj; cases hobj) ⟨_, hkt''⟩ ⟨_, hkt''⟩, if_pos (by rw [show ((((T.setTop (F0 m pc ls st)).pushFrame (.throwing x)) : State).setVm (T.vm.noted m.cls x0.catchType (.cls k0))).vm = T.vm.noted m.cls x0.catchType (.cls k0) from rfl, hW0.alike.assignable]; exact hasg)]
  rfl
end XT4
end
section
/-! ===== new T[2][n]: a row of my own (the outer array and its two rows are not looked at again) ===== -/
def x_o0 (c : ClassId) : Cell := { cls := c, slots := Array.replicate 2 .null, vm := .none }
def x_in (c : ClassId) (n : Nat) (v : Value) : Cell := { cls := c, slots := Array.replicate n v, vm := .none }
def x_g1 (s : State) (c comp : ClassId) (n : Nat) (v : Value) : State := ((s.pushCell (x_o0 c)).pushCell (x_in comp n v)).setCell s.heap.size ((x_o0 c).setSlot 0 (.ref (s.heap.size + 1)))
def x_g2 (s : State) (c comp : ClassId) (n : Nat) (v : Value) : State := ((x_g1 s c comp n v).pushCell (x_in comp n v)).setCell s.heap.size (((x_o0 c).setSlot 0 (.ref (s.heap.size + 1))).setSlot 1 (.ref (s.heap.size + 2)))
section XM1
variable {E : CtlPost} {e : Env} {d : Bool} {acts : List Action} {s : State}
theorem x_make1 {comp cc : ClassId} {kc : Class} {ty : FieldType} {n : Int32} {Q : Addr → Pre} (hkc : s.vm.classes[comp]? = some kc) (hkindc : kc.kind = .array cc ty) (hn : ¬ n < 0)
    (hl2 : ¬ n.toNatClampNeg > e.platform.arrayLengthLimit) (hh2 : ¬ n.toNatClampNeg * componentBytes ty > e.platform.maxHeapBytes) (hc : s.heap.size < e.platform.maxCells) (hs : s.slotsUsed + n.toNatClampNeg ≤ e.platform.maxSlots)
    (hdf : fits ty (defaultValue ty) = true) (hq : ∀ acts', Q s.heap.size d acts' (s.pushCell (x_in comp n.toNatClampNeg (defaultValue ty)))) : wp (multianewarray.make comp [n]) Q E e d acts s := by
  rw [multianewarray.make]
  simp only [wp_bind', W.ite, hn, if_false, wp_pure', W.theClass, hkc, hkindc, Option.some.injEq, exists_eq_left']
  exact W.newArray_of hkc hkindc hl2 hh2 hc hs hdf hq
/-- 'make' of two dimensions, the outer one of two rows -/
theorem x_make2 {c comp cc : ClassId} {k kc : Class} {t0 ty : FieldType} {n : Int32} {Q : Addr → Pre} (hk : s.vm.classes[c]? = some k) (hkind : k.kind = .array comp t0) (href : ∀ v : Value, v.isRef = true → fits t0 v = true)
    (hkc : s.vm.classes[comp]? = some kc) (hkindc : kc.kind = .array cc ty) (hn : ¬ n < 0)
    (hl1 : ¬ 2 > e.platform.arrayLengthLimit) (hh1 : ¬ 2 * componentBytes t0 > e.platform.maxHeapBytes)
    (hl2 : ¬ n.toNatClampNeg > e.platform.arrayLengthLimit) (hh2 : ¬ n.toNatClampNeg * componentBytes ty > e.platform.maxHeapBytes)
    (hdf : fits ty (defaultValue ty) = true) (hc : s.heap.size + 3 ≤ e.platform.maxCells) (hs : s.slotsUsed + (2 + 2 * n.toNatClampNeg) ≤ e.platform.maxSlots)
    (hq : ∀ d' acts', Q s.heap.size d' acts' (x_g2 s c comp n.toNatClampNeg (defaultValue ty))) : wp (multianewarray.make c [2, n]) Q E e d acts s := by
  rw [multianewarray.make]
  simp only [wp_bind', W.ite, show ¬ (2 : Int32) < 0 by decide, if_false, wp_pure', W.theClass, hk, hkind, Option.some.injEq, exists_eq_left']
  refine W.newArray_of hk hkind (howMany := 2) hl1 hh1 (by omega) (by omega) (href _ rfl) (fun a1 => ?_)
  simp only [show ((2 : Int32) == 0) = false by decide, Bool.false_eq_true, if_false, wp_bind', wp_pure', W.ite]
  rw [Std.Legacy.Range.forIn_eq_forIn_range']
  simp only [show (2 : Int32).toNatClampNeg = 2 by decide, Std.Legacy.Range.size, List.range', Nat.sub_zero, Nat.add_sub_cancel, Nat.div_one, List.forIn_cons, List.forIn_nil, wp_bind', wp_pure']
  have hsz : s.heap.size < (s.pushCell (x_o0 c)).heap.size := by simp
  refine x_make1 (s := s.pushCell (x_o0 c)) hkc hkindc hn hl2 hh2 (by simp; omega) (by simp [x_o0]; omega) hdf (fun a2 => ?_)
  simp only [wp_bind', W.writeLoc, wp_pure']
  refine ⟨x_o0 c, by rw [State.heap_pushCell_of_lt (h := hsz)]; exact State.heap_pushCell_size _ _, by simp [x_o0], by simp [x_o0], by simp [x_o0, State.fitsSlot, State.slotType?, hk, hkind]; exact href _ rfl, ?_⟩
  have hg : ((s.pushCell (x_o0 c)).pushCell (x_in comp n.toNatClampNeg (defaultValue ty))).setCell s.heap.size ((x_o0 c).setSlot 0 (.ref (s.pushCell (x_o0 c)).heap.size)) = x_g1 s c comp n.toNatClampNeg (defaultValue ty) := by
    rw [show (s.pushCell (x_o0 c)).heap.size = s.heap.size + 1 by simp]; rfl
  rw [hg]
  have h1 : (x_g1 s c comp n.toNatClampNeg (defaultValue ty)).heap.size = s.heap.size + 2 := by simp [x_g1, State.setCell]
  have h2 : (x_g1 s c comp n.toNatClampNeg (defaultValue ty)).slotsUsed = s.slotsUsed + 2 + n.toNatClampNeg := by simp [x_g1, x_o0, x_in]
  have h3 : (x_g1 s c comp n.toNatClampNeg (defaultValue ty)).vm = s.vm := rfl
  have h4 : (x_g1 s c comp n.toNatClampNeg (defaultValue ty)).heap[s.heap.size]? = some ((x_o0 c).setSlot 0 (.ref (s.heap.size + 1))) :=
    State.heap_setCell_self (c := x_o0 c) (by rw [State.heap_pushCell_of_lt (h := hsz)]; exact State.heap_pushCell_size _ _)
  refine x_make1 (s := x_g1 s c comp n.toNatClampNeg (defaultValue ty)) (by rw [h3]; exact hkc) hkindc hn hl2 hh2 (by rw [h1]; omega) (by rw [h2]; omega) hdf (fun a3 => ?_)
  simp only [wp_bind', W.writeLoc, wp_pure']
  refine ⟨(x_o0 c).setSlot 0 (.ref (s.heap.size + 1)), by rw [State.heap_pushCell_of_lt (h := show s.heap.size < (x_g1 s c comp n.toNatClampNeg (defaultValue ty)).heap.size by rw [h1]; omega)]; exact h4, by simp [x_o0, Cell.setSlot], by simp [x_o0, Cell.setSlot], by simp [x_o0, Cell.setSlot, State.fitsSlot, State.slotType?, h3, hk, hkind]; exact href _ rfl, ?_⟩
  rw [h1]
  exact hq _ _
end XM1
/-- the class of an array of arrays, out of the tables' word -/
theorem x_over {args : Array Value} {s : State} {t : FieldType} (h : (Cond.arrayOver (.array t)).before args s = true) :
    ∃ comp c k, s.vm.findClass (FieldType.array t).toString = some comp ∧ s.vm.classes[c]? = some k ∧ k.kind = .array comp (.array t) ∧ s.vm.findClass ("[" ++ (FieldType.array t).toString) = some c := by
  have h : (Cond.arrayOver (.array t)).holds args s none s [] = true := h
  simp only [Cond.holds, Cond.value, beq_iff_eq] at h
  cases hc : s.vm.findClass (FieldType.array t).toString with
  | none => simp [hc] at h
  | some comp =>
    simp only [hc, Option.bind_some, Option.bind_eq_some_iff, Option.map_eq_some_iff] at h
    obtain ⟨c, hi, k, hk, hb⟩ := h
    have hp := (Array.findIdx?_eq_some_iff_getElem.mp hi).2.1
    rw [(Array.getElem?_eq_some_iff.mp hk).2] at hp
    cases hkind : k.kind <;> rw [hkind] at hb hp <;> simp at hb hp
    exact ⟨comp, c, k, rfl, hk, by rw [hkind, hp, hb.1], hb.2⟩
/-- the three classes' facts, that stay as the tables grow warm -/
def va_OA (U : State) : Prop := ∃ comp cA kA kC cc, U.vm.findClass "[B" = some comp ∧ U.vm.classes[cA]? = some kA ∧ kA.kind = .array comp (.array .byte) ∧ U.vm.findClass "[[B" = some cA ∧ U.vm.classes[comp]? = some kC ∧ kC.kind = .array cc .byte
theorem va_OA.of {args : Array Value} {s : State} (h : (Cond.arrayOver (.array .byte)).before args s = true) (h2 : (Cond.arrayClass .byte).before args s = true) : va_OA s := by
  obtain ⟨comp, cA, kA, h3, h4, h5, h6⟩ := x_over h
  obtain ⟨comp', kC, cc, h7, h8, h9⟩ := Cond.arrayClass_spec h2
  cases Option.some.inj (h7.symm.trans h3)
  exact ⟨comp, cA, kA, kC, cc, h3, h4, h5, h6, h8, h9⟩
theorem va_OA.moved {u U : State} (hvm : u.vm.Alike U.vm) (h : va_OA u) : va_OA U := by
  obtain ⟨comp, cA, kA, kC, cc, h3, h4, h5, h6, h8, h9⟩ := h
  obtain ⟨k1, q1, e1⟩ := hvm.2.2 _ _ h4
  obtain ⟨k2, q2, e2⟩ := hvm.2.2 _ _ h8
  exact ⟨comp, cA, k1, k2, cc, by rw [hvm.findClass]; exact h3, q1, by rw [e1]; exact h5, by rw [hvm.findClass]; exact h6, q2, by rw [e2]; exact h9⟩
theorem x_g2_top (s : State) (f : JFrame) (c comp : ClassId) (n : Nat) (v : Value) : x_g2 (s.setTop f) c comp n v = (x_g2 s c comp n v).setTop f := by
  simp only [x_g2, x_g1, State.heap_setTop, State.pushCell_setTop, State.setCell_setTop]
section XM2
variable {p : Program} {l : Launch} {e : Env} {R : Room} {s : State} {m : MethodId} {args : Array Value} {below : List Frame} {meth : Method} {c : Code} {H : Heap} {locs : List Loc} {cells slots : Nat} {Q : State → Prop}
variable {cc : ByteArray} {pc : Nat} {ls : Array Slot} {rest : List Value} {D : va_G} {cl : List vw_C} {A : Nat → Prop} {tys : List (ClassId × FieldType)} {ws : va_W} {H0 : Heap}
/-- new byte[2][n]: a reference to something new; the world stays -/
theorem x_grid (hexec : p.tables.exec = Jvm.exec) (hb : c.code = cc) {own : String} {index : Nat} (hown : s.vm.findClass own = some m.cls) (hclink : (Cond.classLink own index "[[B").before args s = true) (hO : va_OA s)
    (hP : va_P D cl ws H) (hS : va_S A s.heap H locs) {n : Int32} {N : Nat} (hn : ¬ n < 0) (hN : n.toNatClampNeg = N) (hN2 : N ≤ 536870912) (hcells : cells + 3 ≤ R.cells) (hslots : slots + (2 + 2 * N) ≤ R.slots) (hdg : decode cc pc = .ok (.multianewarray index 2, 4))
    (kk : ∀ (q : Nat) (H1 : Heap), va_P D cl ws H1 → va_S A s.heap H1 locs → W p l e R s m args below meth c H1 locs (cells + 3) (slots + (2 + 2 * N)) Q (F0 m (pc + 4) ls (.ref q :: rest))) : W p l e R s m args below meth c H locs cells slots Q (F0 m pc ls (.int n :: .int 2 :: rest)) := by
  subst hN
  intro T hT X
  have hpl : e.platform.magicAccessors = ({} : Platform).magicAccessors := by rw [X.admits.platform]
  obtain ⟨comp, cA, kA, kC, c3, hcomp, hkA, hkindA, hnameA, hkC, hkindC⟩ := hO
  obtain ⟨c0, hfc0, hcl⟩ := Cond.classLink_spec hown hclink e.platform hpl
  cases hnameA.symm.trans hfc0
  obtain ⟨hg1, hwarm, hready⟩ := State.classEntry (e := e) X.warmed hcl
  generalize T.vm.noted m.cls index (.cls cA) = vm1 at hg1 hwarm hready
  obtain ⟨k1, hk1, e1⟩ := hwarm.alike.2.2 _ _ hkA
  obtain ⟨k2, hk2, e2⟩ := hwarm.alike.2.2 _ _ hkC
  have X1 := X.noted hwarm
  obtain ⟨hr1, hr2⟩ := X.roomAbove hcells hslots
  have Xa := X1.pushed (x_o0 cA)
  have Xb := Xa.pushed (x_in comp n.toNatClampNeg (defaultValue .byte))
  have hsz : T.heap.size < ((T.setVm vm1).pushCell (x_o0 cA)).heap.size := by simp
  have hb0 : (((T.setVm vm1).pushCell (x_o0 cA)).pushCell (x_in comp n.toNatClampNeg (defaultValue .byte))).heap[T.heap.size]? = some (x_o0 cA) := by rw [State.heap_pushCell_of_lt (h := hsz)]; exact State.heap_pushCell_size _ _
  have Xc := Xb.stored hb0 0 (.ref (T.heap.size + 1))
  have hgT : (((T.setVm vm1).pushCell (x_o0 cA)).pushCell (x_in comp n.toNatClampNeg (defaultValue .byte))).setCell T.heap.size ((x_o0 cA).setSlot 0 (.ref (T.heap.size + 1))) = x_g1 (T.setVm vm1) cA comp n.toNatClampNeg (defaultValue .byte) := rfl
  rw [hgT] at Xc
  have h1 : (x_g1 (T.setVm vm1) cA comp n.toNatClampNeg (defaultValue .byte)).heap.size = T.heap.size + 2 := by simp [x_g1, State.setCell]
  have h4 : (x_g1 (T.setVm vm1) cA comp n.toNatClampNeg (defaultValue .byte)).heap[T.heap.size]? = some ((x_o0 cA).setSlot 0 (.ref (T.heap.size + 1))) := State.heap_setCell_self (c := x_o0 cA) hb0
  have Xd := Xc.pushed (x_in comp n.toNatClampNeg (defaultValue .byte))
  have hb1 : ((x_g1 (T.setVm vm1) cA comp n.toNatClampNeg (defaultValue .byte)).pushCell (x_in comp n.toNatClampNeg (defaultValue .byte))).heap[T.heap.size]? = some ((x_o0 cA).setSlot 0 (.ref (T.heap.size + 1))) := by rw [State.heap_pushCell_of_lt (h := show T.heap.size < (x_g1 (T.setVm vm1) cA comp n.toNatClampNeg (defaultValue .byte)).heap.size by rw [h1]; omega)]; exact h4
  have Xe := Xd.stored hb1 1 (.ref (T.heap.size + 2))
  have hgT2 : ((x_g1 (T.setVm vm1) cA comp n.toNatClampNeg (defaultValue .byte)).pushCell (x_in comp n.toNatClampNeg (defaultValue .byte))).setCell T.heap.size (((x_o0 cA).setSlot 0 (.ref (T.heap.size + 1))).setSlot 1 (.ref (T.heap.size + 2))) = x_g2 (T.setVm vm1) cA comp n.toNatClampNeg (defaultValue .byte) := rfl
  rw [hgT2] at Xe
  have hold : ∀ q : Nat, q < T.heap.size → (x_g2 (T.setVm vm1) cA comp n.toNatClampNeg (defaultValue .byte)).heap[q]? = T.heap[q]? := by
    intro q hq
    show (((x_g1 (T.setVm vm1) cA comp n.toNatClampNeg (defaultValue .byte)).pushCell _).setCell T.heap.size _).heap[q]? = _
    rw [State.heap_setCell_other (Nat.ne_of_gt hq), State.heap_pushCell_of_lt (h := show q < (x_g1 (T.setVm vm1) cA comp n.toNatClampNeg (defaultValue .byte)).heap.size by rw [h1]; omega)]
    show ((((T.setVm vm1).pushCell (x_o0 cA)).pushCell _).setCell T.heap.size _).heap[q]? = _
    rw [State.heap_setCell_other (Nat.ne_of_gt hq), State.heap_pushCell_of_lt (h := Nat.lt_trans hq hsz), State.heap_pushCell_of_lt (h := show q < (T.setVm vm1).heap.size from hq)]
    rfl
  have hsz2 : (x_g2 (T.setVm vm1) cA comp n.toNatClampNeg (defaultValue .byte)).heap.size = T.heap.size + 3 := by simp [x_g2, x_g1, State.setCell]
  have hge : s.heap.size ≤ T.heap.size := X.same.2.1
  have Xf : Stand p l e R s m args below meth c (x_g2 (T.setVm vm1) cA comp n.toNatClampNeg (defaultValue .byte)) locs (cells + 3) (slots + (2 + 2 * n.toNatClampNeg)) := by
    have Xe' := Stand.forget (extra := [⟨T.heap.size, 0⟩, ⟨T.heap.size, 1⟩]) (locs := locs) (by simpa [List.append_assoc] using Xe) (fun q hq => by
      simp only [List.mem_cons, List.not_mem_nil, or_false] at hq
      rcases hq with rfl | rfl <;> exact hge)
    have ec : cells + 1 + 1 + 1 = cells + 3 := by omega
    have es : slots + (x_o0 cA).slots.size + (x_in comp n.toNatClampNeg (defaultValue .byte)).slots.size + (x_in comp n.toNatClampNeg (defaultValue .byte)).slots.size = slots + (2 + 2 * n.toNatClampNeg) := by simp [x_o0, x_in]; omega
    rw [← ec, ← es]
    exact Xe'
  obtain ⟨t, a1, b1⟩ := kk T.heap.size _ (hP.kept (fun k x hx => by rw [hold x.1 (by rw [hT]; exact (hP k x hx).lt), hT])) ⟨by rw [hsz2]; omega, fun q h1 h2 => by rw [hold q (Nat.lt_of_lt_of_le h1 hge), hT]; exact hS.2.1 q h1 h2, hS.2.2⟩ _ rfl Xf
  refine ⟨t, ?_, b1⟩
  have hl1 : ¬ 2 > e.platform.arrayLengthLimit := by rw [Launch.admits_arrayLengthLimit X.admits]; omega
  have hh1 : ¬ 2 * componentBytes (.array .byte) > e.platform.maxHeapBytes := by
    rw [Launch.admits_maxHeapBytes X.admits]; show ¬ 2 * 4 > 536870912; omega
  have hl2 : ¬ n.toNatClampNeg > e.platform.arrayLengthLimit := by rw [Launch.admits_arrayLengthLimit X.admits]; omega
  have hh2 : ¬ n.toNatClampNeg * componentBytes .byte > e.platform.maxHeapBytes := by rw [Launch.admits_maxHeapBytes X.admits]; show ¬ n.toNatClampNeg * 1 > 536870912; omega
  jvm_step X.here [hexec, hb, hdg]
  simp only [multianewarray.sem, wp_bind', W.resolveClassAt_links (State.method?_setTop (F0 m pc ls (.int n :: .int 2 :: rest)) X.here.top) hg1]
  rw [W.popN, if_neg (by decide)]
  refine ⟨F0 m pc ls (.int n :: .int 2 :: rest), State.topJava?_setTop' (s := T.setVm vm1) _ X.here.top, [.int 2, .int n], rest, rfl, rfl, ?_⟩
  simp only [List.mapM_cons, List.mapM_nil, wp_bind', wp_pure']
  refine x_make2 (k := k1) (kc := k2) (comp := comp) (cc := c3) (t0 := .array .byte) (ty := .byte) hk1 (by rw [e1]; exact hkindA) (fun v hv => by cases v <;> first | rfl | cases hv) hk2 (by rw [e2]; exact hkindC) hn hl1 hh1 hl2 hh2 rfl (by show T.heap.size + 3 ≤ _; omega) (by show T.slotsUsed + _ ≤ _; omega) (fun d' acts' => ?_)
  have eS : ((T.setTop (F0 m pc ls (.int n :: .int 2 :: rest))).setVm vm1).setTop (F0 m pc ls rest) = (T.setVm vm1).setTop (F0 m pc ls rest) := by
    show ((T.setVm vm1).setTop (F0 m pc ls (.int n :: .int 2 :: rest))).setTop _ = _
    rw [State.setTop_setTop]
  rw [show ({ method := m, pc := pc, locals := ls, stack := rest, locked := none } : JFrame) = F0 m pc ls rest from rfl, eS, x_g2_top]
  simp only [wp_bind', W.mark, W.pushRef, State.topJava?_setTop' _ Xf.here.top, Option.some.injEq, exists_eq_left', State.setTop_setTop, State.heap_setTop]
  intro acts
  simp [jvm, Xf.here.top]
  exact a1
end XM2
end
section
/-! ===== what stands in every start of a contract beside its world: links, strings and statics ===== -/
def xnF : List Cond := [.castable "java/lang/IllegalStateException" "java/lang/IllegalStateException", .castable "java/lang/IllegalArgumentException" "java/lang/IllegalArgumentException", .castable "java/lang/IndexOutOfBoundsException" "java/lang/IndexOutOfBoundsException", .declares ⟨"java/lang/RuntimeException", "<init>", "(Ljava/lang/String;)V"⟩, .declares ⟨"java/lang/Exception", "<init>", "(Ljava/lang/String;)V"⟩, .declares ⟨"java/lang/Throwable", "<init>", "(Ljava/lang/String;)V"⟩]
def xnM : List (String × Nat × MethodName) := [("ObjectForge", 9, y_As_init), ("ObjectForge$Assembler", 11, y_So_init), ("ObjectForge$Assembler", 20, y_Un_init), ("ObjectForge$Unit", 25, y_Sy_init), ("ObjectForge$Unit", 32, y_Re_init), ("ObjectForge", 18, y_Li_init), ("ObjectForge", 33, y_Un_init)]
def xnS : List (Nat × String) := [(56, "not 0 to 15, or not so many"), (84, "what is not 0 to 4"), (179, "there is no such"), (125, "what is not 0 to 3"), (151, "the base is no multiple of 8"), (153, "there are no objects"), (162, "no word of the image")]
def xN (U : State) : Prop := (∀ w ∈ xnF, w.before #[] U = true) ∧ (∀ q ∈ xnM, va_Nw (.methodLinkNest q.1 q.2.1 q.2.2 "ObjectForge") U) ∧ (∀ q ∈ xnS, ∃ a, vk_R "ObjectForge" q.1 q.2 a U) ∧ va_Nc "java/lang/IllegalStateException" "java/lang/IllegalArgumentException" U ∧ va_AO "ObjectForge$Unit" U ∧ va_OA U
theorem xnF_face : ∀ w ∈ xnF, w.keepsFace = true ∧ w.onTables = true := by
  intro w hw
  simp only [xnF, List.mem_cons, List.not_mem_nil, or_false] at hw
  rcases hw with rfl | rfl | rfl | rfl | rfl | rfl <;> exact ⟨rfl, rfl⟩
theorem xN.warm {s U : State} (hW : s.WarmedH U.vm) (h : xN s) : xN U := by
  obtain ⟨h1, h2, h3, h4, h5, h6⟩ := h
  refine ⟨fun w hw => ?_, fun q hq => (h2 q hq).warmM hW, fun q hq => ?_, h4.moved hW.alike, h5.moved hW.alike, h6.moved hW.alike⟩
  · have h0 := Cond.before_shiftedFace (State.Shifted.of_warmed hW) w (xnF_face w hw).1 (h1 w hw)
    exact va_tabs (xnF_face w hw).2 (u := s.setVm U.vm) (U := U) rfl h0
  · obtain ⟨a, ha⟩ := h3 q hq
    exact ⟨a, ha.warm hW⟩
theorem xN.same {u U : State} (hv : u.vm = U.vm) (h : xN u) : xN U := by
  obtain ⟨h1, h2, h3, h4, h5, h6⟩ := h
  have ha : u.vm.Alike U.vm := by rw [hv]; exact Vm.Alike.refl _
  refine ⟨fun w hw => va_tabs (xnF_face w hw).2 hv (h1 w hw), fun q hq => ?_, fun q hq => ?_, h4.moved ha, h5.moved ha, h6.moved ha⟩
  · exact va_tabs rfl hv (h2 q hq)
  · obtain ⟨a, ha⟩ := h3 q hq
    exact ⟨a, vk_R.same hv.symm ha⟩
/-- a static that holds a reference, or null, in a cell that A does not have -/
def xz1 (n d : String) (A : Nat → Prop) (U : State) (H : Heap) : Prop := ∃ (c : ClassId) (k : Class) (i : Nat) (f : Field) (a : Nat) (cell : Cell) (v : Value), U.vm.findClass "java/lang/Throwable" = some c ∧ U.fieldFound? "java/lang/Throwable" n d = some (c, k, i, f) ∧ f.isStatic = true ∧ k.statics = some a ∧ H[a]? = some cell ∧ cell.vm.isStatics = true ∧ cell.cls = c ∧ f.slot < cell.slots.size ∧ k.staticTypes[f.slot]? = some f.type ∧ cell.slots[f.slot]? = some v ∧ (v = .null ∨ ∃ t, v = .ref t) ∧ ¬ A a
theorem xz1.moved {n d : String} {A : Nat → Prop} {u U : State} {H : Heap} (hvm : u.vm.Alike U.vm) (h : xz1 n d A u H) : xz1 n d A U H := by
  obtain ⟨c, k, i, f, a, cell, v, h1, h2, h3, h4, h5, h6, h7, h8, h9, h10⟩ := h
  obtain ⟨k', hi', he⟩ := State.fieldFound?_setVm hvm h2
  exact ⟨c, k', i, f, a, cell, v, by rw [hvm.findClass]; exact h1, hi', h3, by rw [he]; exact h4, h5, h6, h7, h8, by rw [he]; exact h9, h10⟩
theorem xz1.kept {n d : String} {A : Nat → Prop} {U : State} {H H1 : Heap} (h : xz1 n d A U H) (hq : ∀ a : Nat, a < H.size → ¬ A a → H1[a]? = H[a]?) : xz1 n d A U H1 := by
  obtain ⟨c, k, i, f, a, cell, v, h1, h2, h3, h4, h5, h6, h7, h8, h9, h10, h11, h12⟩ := h
  exact ⟨c, k, i, f, a, cell, v, h1, h2, h3, h4, by rw [hq a (Array.getElem?_eq_some_iff.mp h5).1 h12]; exact h5, h6, h7, h8, h9, h10, h11, h12⟩
theorem xz1.narrow {n d : String} {A B : Nat → Prop} {U : State} {H : Heap} (h : xz1 n d A U H) (hAB : ∀ q, B q → A q) : xz1 n d B U H := by
  obtain ⟨c, k, i, f, a, cell, v, h1, h2, h3, h4, h5, h6, h7, h8, h9, h10, h11, h12⟩ := h
  exact ⟨c, k, i, f, a, cell, v, h1, h2, h3, h4, h5, h6, h7, h8, h9, h10, h11, fun z => h12 (hAB a z)⟩
theorem xz1.lays {n d : String} {A : Nat → Prop} {U : State} {args : Array Value} (h : xz1 n d A U U.heap) : (Cond.laysStatic "java/lang/Throwable" n d).before args U = true := by
  obtain ⟨c, k, i, f, a, cell, v, h1, h2, h3, h4, h5, h6, h7, h8, h9, -⟩ := h
  simp [Cond.before, Cond.holds, Cond.value, h1, h2, h3, h4, h5, h6, h7, h8, h9]
theorem xz1.isRef {n d : String} {A : Nat → Prop} {U : State} {args : Array Value} (h : xz1 n d A U U.heap) : (Cond.isRef (.static "java/lang/Throwable" n d)).before args U = true := by
  obtain ⟨c, k, i, f, a, cell, v, h1, h2, h3, h4, h5, h6, h7, h8, h9, h10, h11, -⟩ := h
  have he : (Term.static "java/lang/Throwable" n d).eval args U none [] U = some v := by
    simp [Term.eval, State.fieldNamed?, h2, h3, h4, h5, h6, h10]
  simp only [Cond.before, Cond.holds, Cond.value, he]
  rcases h11 with rfl | ⟨x, rfl⟩ <;> simp
theorem xz1.of {n d : String} {A : Nat → Prop} {U : State} {args : Array Value} (h1 : (Cond.laysStatic "java/lang/Throwable" n d).before args U = true) (h2 : (Cond.isRef (.static "java/lang/Throwable" n d)).before args U = true) (hA : ∀ a : Nat, a < U.heap.size → ¬ A a) : xz1 n d A U U.heap := by
  obtain ⟨c, k, i, f, a, cell, q1, q2, q3, q4, q5, q6, q7, q8, q9⟩ := Cond.laysStatic_spec h1
  cases hv : (Term.static "java/lang/Throwable" n d).eval args U none [] U with
  | none => simp [Cond.before, Cond.holds, Cond.value, hv] at h2
  | some w =>
    obtain ⟨hst', a', cell', ha', hcell', -, hslot⟩ := Term.static_spec q2 hv
    cases q4.symm.trans ha'
    cases q5.symm.trans hcell'
    simp only [Cond.before, Cond.holds, Cond.value, hv] at h2
    refine ⟨c, k, i, f, a, cell, w, q1, q2, q3, q4, q5, q6, q7, q8, q9, hslot, ?_, hA a (Array.getElem?_eq_some_iff.mp q5).1⟩
    cases w with
    | null => exact Or.inl rfl
    | ref t => exact Or.inr ⟨t, rfl⟩
    | _ => simp at h2
def xZ (A : Nat → Prop) (U : State) (H : Heap) : Prop := xz1 "UNASSIGNED_STACK" "[Ljava/lang/StackTraceElement;" A U H ∧ xz1 "SUPPRESSED_SENTINEL" "Ljava/util/List;" A U H
theorem xZ.call {A : Nat → Prop} {s U : State} {H : Heap} {locs : List Loc} {wc : va_W} (h : xZ A s s.heap) (hS : va_S A s.heap H locs) (hF : ∀ q, va_A wc H.size q → A q) (hU : U.heap = H) (hvm : s.vm.Alike U.vm) : xZ (va_A wc H.size) U U.heap := by
  rw [hU]
  exact ⟨((h.1.kept hS.2.1).narrow hF).moved hvm, ((h.2.kept hS.2.1).narrow hF).moved hvm⟩
/-- the start of a contract: its world, and what stands beside it -/
def xP (D : va_G) (tys : List (ClassId × FieldType)) (sz : Nat) (ws : va_W) (U : State) : Prop := U.heap.size = sz ∧ va_P D cls ws U.heap ∧ va_K D cls tys U ∧ va_D (fun _ => True) ws ∧ xN U ∧ xZ (va_A ws sz) U U.heap
theorem xP.blind {D : va_G} {tys : List (ClassId × FieldType)} {sz : Nat} {ws : va_W} {av : List Value} : FrameBlind (va_Pc av (xP D tys sz ws)) := fun a U g mk q => by
  obtain ⟨q0, q1, q2, q3, q4, q5, q6⟩ := q
  exact ⟨q0, q1, q2, va_K.moved (u := U) (U := U.calling g mk a) (Vm.Alike.refl U.vm) q3, q4, q5.same (u := U) (U := U.calling g mk a) rfl, q6.1.moved (u := U) (U := U.calling g mk a) (Vm.Alike.refl U.vm), q6.2.moved (u := U) (U := U.calling g mk a) (Vm.Alike.refl U.vm)⟩
theorem xP.at {D : va_G} {A : Nat → Prop} {tys tc : List (ClassId × FieldType)} {ws wc : va_W} {s : State} {H : Heap} {locs : List Loc} {av : List Value} (hP : va_P D cls ws H) (hD : va_D A ws) (hK : va_K D cls tys s) (hS : va_S A s.heap H locs) (hN : xN s) (hZ : xZ A s s.heap) (hF : ∀ q, va_A wc H.size q → A q)
    (isC : List Nat) (hC : isC.map (fun i => ws[i]?) = wc.map some) (hnC : va_nd isC = true) (ktC : List Nat) (htC : ktC.filterMap (fun i => tys[i]?) = tc) : ∀ U : State, U.heap = H → s.WarmedH U.vm → va_Pc av (xP D tc H.size wc) av.toArray U := by
  intro U hU hW
  have hf : isC.filterMap (fun i => ws[i]?) = wc := by
    have : ∀ (l : List Nat) (w : va_W), l.map (fun i => ws[i]?) = w.map some → l.filterMap (fun i => ws[i]?) = w := by
      intro l
      induction l with
      | nil => intro w h; cases w with
        | nil => rfl
        | cons a b => simp at h
      | cons a b ih => intro w h; cases w with
        | nil => simp at h
        | cons c d =>
          simp only [List.map_cons, List.cons.injEq] at h
          rw [List.filterMap_cons, h.1, ih d h.2]
    exact this isC wc hC
  exact ⟨rfl, by rw [hU], by rw [hU]; exact hP.sub isC hf, va_K.moved hW.alike (hK.sub ktC htC), (hD.sub isC hnC hC).weaken (fun _ _ _ _ => trivial), hN.warm hW, hZ.call hS hF hU hW.alike⟩
/-- the end of a contract: an answer, a world -/
def xQ {S : Type} (vf : S → Option Value) (w1 : S → va_W) (t1 : S → List (ClassId × FieldType)) (D : va_G) (A : Nat → Prop) : Array Value → State → Outcome → State → Prop := fun _ st oc t => (∃ u : S, oc = .returned (vf u) ∧ va_P D cls (w1 u) t.heap ∧ va_K D cls (t1 u) t ∧ va_D A (w1 u)) ∧ va_F A st t
section XC
variable {p : Program} {l : Launch} {e : Env} {R : Room} {s : State} {m : MethodId} {args : Array Value} {below : List Frame} {meth : Method} {c : Code} {H : Heap} {locs : List Loc} {cells slots : Nat} {Q : State → Prop}
variable {pc : Nat} {ls : Array Slot} {rest st0 : List Value} {D : va_G} {A : Nat → Prop} {ws wc wr : va_W} {tys tc tr : List (ClassId × FieldType)} {mc ms : Nat}
/-- behind a call -/
theorem xc_go {S : Type} {vf : S → Option Value} {w1 : S → va_W} {t1 : S → List (ClassId × FieldType)} {a : Array Value} (hr : va_Run p l e R s m args below meth c H locs cells slots mc ms (F0 m pc ls st0) rest (xQ vf w1 t1 D (va_A wc H.size) a) (va_A wc H.size))
    (hP : va_P D cls ws H) (hD : va_D A ws) (hK : va_K D cls tys s) (hS : va_S A s.heap H locs) (hA : ∀ q, s.heap.size ≤ q → A q) (isC isR : List Nat) (hC : isC.map (fun i => ws[i]?) = wc.map some) (hR : isR.map (fun i => ws[i]?) = wr.map some) (hnR : va_nd isR = true) (hdis : ∀ i ∈ isR, i ∉ isC) (ktR : List Nat) (htR : ktR.filterMap (fun i => tys[i]?) = tr)
    (kk : ∀ (u : S) (H1 : Heap) (locs1 : List Loc), va_P D cls (wr ++ w1 u) H1 → va_D A (wr ++ w1 u) → va_K D cls (tr ++ t1 u) s → va_S A s.heap H1 locs1 → W p l e R s m args below meth c H1 locs1 (cells + mc) (slots + ms) Q (F0 m (pc + 3) ls ((vf u).toList ++ rest))) : W p l e R s m args below meth c H locs cells slots Q (F0 m pc ls st0) := by
  have hF := va_free (wc := wc) hD hS hA isC hC
  intro T hT X
  obtain ⟨v, st₀, t, T', L, h0, X', hL, e1, e2, ⟨⟨u, hv, hP1, hK1, hD1⟩, hz, hk⟩, st⟩ := hr T hT X
  cases hv
  rw [h0] at hz hk
  obtain ⟨hP2, hD2⟩ := va_join (wr := wr) (w1 := w1 u) hP hD isC isR hC hR hnR hdis hk hF hP1 hD1
  have ha : s.vm.Alike t.vm := by rw [← e2]; exact X'.warmed.alike
  have hK2 := (hK.sub ktR htR).app (va_K.moved ha.symm hK1)
  obtain ⟨t2, a1, b1⟩ := kk u t.heap (locs ++ L) hP2 hD2 hK2 ⟨Nat.le_trans hS.1 hz, fun q h1 h2 => by rw [hk q (Nat.lt_of_lt_of_le h1 hS.1) (fun z => h2 (hF q z))]; exact hS.2.1 q h1 h2, fun q hq => by
    rcases List.mem_append.mp hq with h | h
    · exact hS.2.2 q h
    · exact hF _ (hL q h)⟩ T' e1 X'
  exact ⟨t2, st t2 a1, b1⟩
end XC
end
section
/-! ===== calls, ends and throws over the common words ===== -/
/-- the end of a method that throws an X, a new one -/
def xQT (X : String) (A : Nat → Prop) : Array Value → State → Addr → State → Prop := fun _ st x t => (st.heap.size ≤ x ∧ ∃ cell : Cell, t.heap[x]? = some cell ∧ cell.vm.isStatics = false ∧ t.vm.findClass X = some cell.cls) ∧ va_F A st t
abbrev xMH (y : MethodName) (n : Nat) : Prop := y.cls ≠ "java/lang/invoke/MethodHandle" ∧ y.cls ≠ "java/lang/invoke/VarHandle" ∧ (parseMethodDescriptor y.desc).map (fun d => d.parameters.length) = some n
section XD
variable {p : Program} {l : Launch} {e : Env} {R : Room} {s : State} {m : MethodId} {args : Array Value} {below : List Frame} {meth : Method} {c : Code} {H : Heap} {locs : List Loc} {cells slots : Nat} {Q : State → Prop}
variable {pc : Nat} {ls : Array Slot} {rest st0 : List Value} {D : va_G} {A : Nat → Prop} {ws wc wr : va_W} {tys tc tr : List (ClassId × FieldType)} {mc ms : Nat}
variable {S : Type} {vf : S → Option Value} {w1 : S → va_W} {t1 : S → List (ClassId × FieldType)} {y : MethodName} {bytes cc : ByteArray} {maxL nL n index ci q0 : Nat} {ret : Option FieldType} {rm : Room} {own C : String} {b : Addr} {As : List Value} {q : vw_C} {fs : List Value}
theorem xc_V (F : CallFix p m c cc nL s args bw own) (hM : Met l y (Cond.code y bytes maxL ret :: bw) rm (va_Pc (.ref b :: As) (xP D tc H.size wc)) (xQ vf w1 t1 D (va_A wc H.size)) mc ms (va_A wc H.size)) (hrc : rm.cells = mc) (hrs : rm.slots = ms)
    (k1 : Cond.code y bytes maxL ret ∈ bw) (k2 : Cond.methodLink own index y ∈ bw) (k3 : Cond.instanceMethod y ∈ bw) (k4 : Cond.selects y.cls y y ∈ bw) (k5 : Cond.initialized y.cls ∈ bw) (hd : xMH y n) (hR : rm.frames + 1 ≤ R.frames ∧ 8 + (maxL + 11) + rm.locals ≤ R.locals)
    (hP : va_P D cls ws H) (hD : va_D A ws) (hK : va_K D cls tys s) (hS : va_S A s.heap H locs) (hA : ∀ q, s.heap.size ≤ q → A q) (hN : xN s) (hZ : xZ A s s.heap) (isC isR : List Nat) (hC : isC.map (fun i => ws[i]?) = wc.map some) (hR' : isR.map (fun i => ws[i]?) = wr.map some) (hnC : va_nd isC = true) (hnR : va_nd isR = true) (hdis : ∀ i ∈ isR, i ∉ isC) (ktC ktR : List Nat) (htC : ktC.filterMap (fun i => tys[i]?) = tc) (htR : ktR.filterMap (fun i => tys[i]?) = tr)
    (hc : cls[ci]? = some q) (hq : q.1 = y.cls) (he : wc[q0]? = some (b, .inr (ci, fs)))
    (hn : As.length = n) (hsize : ls.size = nL) (hst : st0 = As.reverse ++ .ref b :: rest) (hW : (rest.map fun v => v.category).sum ≤ 8) (hdg : decode cc pc = .ok (.invokevirtual index, 3)) (hf : cells + mc ≤ R.cells ∧ slots + ms ≤ R.slots)
    (kk : ∀ (u : S) (H1 : Heap) (locs1 : List Loc), va_P D cls (wr ++ w1 u) H1 → va_D A (wr ++ w1 u) → va_K D cls (tr ++ t1 u) s → va_S A s.heap H1 locs1 → W p l e R s m args below meth c H1 locs1 (cells + mc) (slots + ms) Q (F0 m (pc + 3) ls ((vf u).toList ++ rest))) : W p l e R s m args below meth c H locs cells slots Q (F0 m pc ls st0) := by
  subst hst
  obtain ⟨hx, hb, hml, hown, hts⟩ := F
  have hF := va_free (wc := wc) hD hS hA isC hC
  have hpre := xP.at (av := .ref b :: As) hP hD hK hS hN hZ hF isC hC hnC ktC htC
  have hPc : va_P D cls wc H := by
    intro k x hk
    have h1 : (isC.map (fun i => ws[i]?))[k]? = some (some x) := by rw [hC, List.getElem?_map, hk]; rfl
    rw [List.getElem?_map] at h1
    cases hi : isC[k]? with
    | none => rw [hi] at h1; cases h1
    | some i => rw [hi] at h1; exact hP i x (Option.some.inj h1)
  have cw : CallW R s args own y.cls index y bytes maxL ret (Cond.code y bytes maxL ret :: bw) rm mc ms n :=
    ⟨callB_of n hts (xg k1) rfl hrc hrs (hts _ k5) (hts _ k2) hd hR, hts _ k3, hts _ k4⟩
  exact xc_go (va_runV (C := y.cls) (As := As) (rest := rest) ⟨hx, hb, hml, hown, hts⟩ hM cw ⟨xP.blind, hq ▸ va_recv hK hPc hc he, hpre⟩ rfl hn hsize rfl (lv_room hW) hdg hf) hP hD hK hS hA isC isR hC hR' hnR hdis ktR htR kk
theorem xc_S (F : CallFix p m c cc nL s args bw own) (hM : Met l y (Cond.code y bytes maxL ret :: bw) rm (va_Pc As (xP D tc H.size wc)) (xQ vf w1 t1 D (va_A wc H.size)) mc ms (va_A wc H.size)) (hrc : rm.cells = mc) (hrs : rm.slots = ms)
    (k1 : Cond.code y bytes maxL ret ∈ bw) (k2 : Cond.methodLink own index y ∈ bw) (k3 : Cond.static y ∈ bw) (k5 : Cond.initialized y.cls ∈ bw) (hd : xMH y n) (hR : rm.frames + 1 ≤ R.frames ∧ 8 + (maxL + 11) + rm.locals ≤ R.locals)
    (hP : va_P D cls ws H) (hD : va_D A ws) (hK : va_K D cls tys s) (hS : va_S A s.heap H locs) (hA : ∀ q, s.heap.size ≤ q → A q) (hN : xN s) (hZ : xZ A s s.heap) (isC isR : List Nat) (hC : isC.map (fun i => ws[i]?) = wc.map some) (hR' : isR.map (fun i => ws[i]?) = wr.map some) (hnC : va_nd isC = true) (hnR : va_nd isR = true) (hdis : ∀ i ∈ isR, i ∉ isC) (ktC ktR : List Nat) (htC : ktC.filterMap (fun i => tys[i]?) = tc) (htR : ktR.filterMap (fun i => tys[i]?) = tr)
    (hn : As.length = n) (hsize : ls.size = nL) (hst : st0 = As.reverse ++ rest) (hW : (rest.map fun v => v.category).sum ≤ 8) (hdg : decode cc pc = .ok (.invokestatic index, 3)) (hf : cells + mc ≤ R.cells ∧ slots + ms ≤ R.slots)
    (kk : ∀ (u : S) (H1 : Heap) (locs1 : List Loc), va_P D cls (wr ++ w1 u) H1 → va_D A (wr ++ w1 u) → va_K D cls (tr ++ t1 u) s → va_S A s.heap H1 locs1 → W p l e R s m args below meth c H1 locs1 (cells + mc) (slots + ms) Q (F0 m (pc + 3) ls ((vf u).toList ++ rest))) : W p l e R s m args below meth c H locs cells slots Q (F0 m pc ls st0) := by
  subst hst
  obtain ⟨hx, hb, hml, hown, hts⟩ := F
  have hF := va_free (wc := wc) hD hS hA isC hC
  have hpre := xP.at (av := As) hP hD hK hS hN hZ hF isC hC hnC ktC htC
  exact xc_go (va_runS (As := As) (rest := rest) ⟨hx, hb, hml, hown, hts⟩ hM ⟨callB_of n hts (xg k1) rfl hrc hrs (hts _ k5) (hts _ k2) hd hR, hts _ k3⟩ ⟨xP.blind, hpre⟩ rfl hn hsize rfl (lv_room hW) hdg hf) hP hD hK hS hA isC isR hC hR' hnR hdis ktR htR kk
theorem xc_I (F : CallFix p m c cc nL s args bw own) (hM : Met l y (Cond.code y bytes maxL none :: bw) rm (va_Pc (.ref b :: As) (xP D tc H.size wc)) (xQ vf w1 t1 D (va_A wc H.size)) mc ms (va_A wc H.size)) (hrc : rm.cells = mc) (hrs : rm.slots = ms) (hy : y.name = "<init>")
    (k1 : Cond.code y bytes maxL none ∈ bw) (k2 : Cond.methodLink own index y ∈ bw) (k3 : Cond.instanceMethod y ∈ bw) (k5 : Cond.initialized y.cls ∈ bw) (hd : xMH y n) (hR : rm.frames + 1 ≤ R.frames ∧ 8 + (maxL + 11) + rm.locals ≤ R.locals)
    (hP : va_P D cls ws H) (hD : va_D A ws) (hK : va_K D cls tys s) (hS : va_S A s.heap H locs) (hA : ∀ q, s.heap.size ≤ q → A q) (hN : xN s) (hZ : xZ A s s.heap) (isC isR : List Nat) (hC : isC.map (fun i => ws[i]?) = wc.map some) (hR' : isR.map (fun i => ws[i]?) = wr.map some) (hnC : va_nd isC = true) (hnR : va_nd isR = true) (hdis : ∀ i ∈ isR, i ∉ isC) (ktC ktR : List Nat) (htC : ktC.filterMap (fun i => tys[i]?) = tc) (htR : ktR.filterMap (fun i => tys[i]?) = tr)
    (hn : As.length = n) (hsize : ls.size = nL) (hst : st0 = As.reverse ++ .ref b :: rest) (hW : (rest.map fun v => v.category).sum ≤ 8) (hdg : decode cc pc = .ok (.invokespecial index, 3)) (hf : cells + mc ≤ R.cells ∧ slots + ms ≤ R.slots)
    (kk : ∀ (u : S) (H1 : Heap) (locs1 : List Loc), va_P D cls (wr ++ w1 u) H1 → va_D A (wr ++ w1 u) → va_K D cls (tr ++ t1 u) s → va_S A s.heap H1 locs1 → W p l e R s m args below meth c H1 locs1 (cells + mc) (slots + ms) Q (F0 m (pc + 3) ls ((vf u).toList ++ rest))) : W p l e R s m args below meth c H locs cells slots Q (F0 m pc ls st0) := by
  subst hst
  obtain ⟨hx, hb, hml, hown, hts⟩ := F
  have hF := va_free (wc := wc) hD hS hA isC hC
  have hpre := xP.at (av := .ref b :: As) hP hD hK hS hN hZ hF isC hC hnC ktC htC
  exact xc_go (va_runI (As := As) (rest := rest) ⟨hx, hb, hml, hown, hts⟩ hM ⟨callB_of n hts (xg k1) rfl hrc hrs (hts _ k5) (hts _ k2) hd hR, hy, hts _ k3⟩ ⟨xP.blind, hpre⟩ rfl hn hsize rfl (lv_room hW) hdg hf) hP hD hK hS hA isC isR hC hR' hnR hdis ktR htR kk
theorem xc_IN (F : CallFix p m c cc nL s args bw own) (hM : Met l y (Cond.code y bytes maxL none :: bw) rm (va_Pc (.ref b :: As) (xP D tc H.size wc)) (xQ vf w1 t1 D (va_A wc H.size)) mc ms (va_A wc H.size)) (hrc : rm.cells = mc) (hrs : rm.slots = ms) (hy : y.name = "<init>")
    (k1 : Cond.code y bytes maxL none ∈ bw) (k2 : (own, index, y) ∈ xnM) (k3 : Cond.instanceMethod y ∈ bw) (k5 : Cond.initialized y.cls ∈ bw) (hd : xMH y n) (hR : rm.frames + 1 ≤ R.frames ∧ 8 + (maxL + 11) + rm.locals ≤ R.locals)
    (hP : va_P D cls ws H) (hD : va_D A ws) (hK : va_K D cls tys s) (hS : va_S A s.heap H locs) (hA : ∀ q, s.heap.size ≤ q → A q) (hN : xN s) (hZ : xZ A s s.heap) (isC isR : List Nat) (hC : isC.map (fun i => ws[i]?) = wc.map some) (hR' : isR.map (fun i => ws[i]?) = wr.map some) (hnC : va_nd isC = true) (hnR : va_nd isR = true) (hdis : ∀ i ∈ isR, i ∉ isC) (ktC ktR : List Nat) (htC : ktC.filterMap (fun i => tys[i]?) = tc) (htR : ktR.filterMap (fun i => tys[i]?) = tr)
    (hn : As.length = n) (hsize : ls.size = nL) (hst : st0 = As.reverse ++ .ref b :: rest) (hW : (rest.map fun v => v.category).sum ≤ 8) (hdg : decode cc pc = .ok (.invokespecial index, 3)) (hf : cells + mc ≤ R.cells ∧ slots + ms ≤ R.slots)
    (kk : ∀ (u : S) (H1 : Heap) (locs1 : List Loc), va_P D cls (wr ++ w1 u) H1 → va_D A (wr ++ w1 u) → va_K D cls (tr ++ t1 u) s → va_S A s.heap H1 locs1 → W p l e R s m args below meth c H1 locs1 (cells + mc) (slots + ms) Q (F0 m (pc + 3) ls ((vf u).toList ++ rest))) : W p l e R s m args below meth c H locs cells slots Q (F0 m pc ls st0) := by
  subst hst
  obtain ⟨hx, hb, hml, hown, hts⟩ := F
  have hF := va_free (wc := wc) hD hS hA isC hC
  have hpre := xP.at (av := .ref b :: As) hP hD hK hS hN hZ hF isC hC hnC ktC htC
  exact xc_go (va_runIN (host := "ObjectForge") (As := As) (rest := rest) ⟨hx, hb, hml, hown, hts⟩ hM ⟨va_cnB n hts (xg k1) rfl hrc hrs (hN.2.1 _ k2) (hts _ k5) hd hR, hy, hts _ k3⟩ ⟨xP.blind, hpre⟩ rfl hn hsize rfl (lv_room hW) hdg hf) hP hD hK hS hA isC isR hC hR' hnR hdis ktR htR kk
/-- the ends -/
theorem xr_i {v : Int32} (hx : p.tables.exec = Jvm.exec) (hb : c.code = cc) (hr : meth.sig.returnType = some .int) (hlocks : meth.locks = false) (hP : va_P D cls ws H) (hD : va_D A ws) (hK : va_K D cls tys s) (hS : va_S A s.heap H locs) (u : S) (isC : List Nat) (hC : isC.map (fun i => ws[i]?) = (w1 u).map some) (hC' : isC.filterMap (fun i => ws[i]?) = w1 u) (hnC : va_nd isC = true) (ktC : List Nat) (htC : ktC.filterMap (fun i => tys[i]?) = t1 u) (hv : vf u = some (.int v)) (hdg : decode cc pc = .ok (.ireturn, 1)) :
    W p l e R s m args below meth c H locs cells slots (MQ below (xQ vf w1 t1 D A) args s cells slots A) (F0 m pc ls [.int v]) :=
  W.iret (v := v) hx hb hr (fun t ht hW => ⟨⟨u, by rw [hv], by rw [ht]; exact hP.sub isC hC', va_K.moved hW.alike (hK.sub ktC htC), hD.sub isC hnC hC⟩, hS.F ht⟩) hS.2.2 hdg hlocks
theorem xr_z {v : Int32} {ty : FieldType} (hx : p.tables.exec = Jvm.exec) (hb : c.code = cc) (hr : meth.sig.returnType = some ty) (hnar : narrow ty (.int v) = .int v) (hlocks : meth.locks = false) (hP : va_P D cls ws H) (hD : va_D A ws) (hK : va_K D cls tys s) (hS : va_S A s.heap H locs) (u : S) (isC : List Nat) (hC : isC.map (fun i => ws[i]?) = (w1 u).map some) (hC' : isC.filterMap (fun i => ws[i]?) = w1 u) (hnC : va_nd isC = true) (ktC : List Nat) (htC : ktC.filterMap (fun i => tys[i]?) = t1 u) (hv : vf u = some (.int v)) (hdg : decode cc pc = .ok (.ireturn, 1)) :
    W p l e R s m args below meth c H locs cells slots (MQ below (xQ vf w1 t1 D A) args s cells slots A) (F0 m pc ls [.int v]) :=
  W.zret (v := v) hx hb hr hnar (fun t ht hW => ⟨⟨u, by rw [hv], by rw [ht]; exact hP.sub isC hC', va_K.moved hW.alike (hK.sub ktC htC), hD.sub isC hnC hC⟩, hS.F ht⟩) hS.2.2 hdg
theorem xr_v (hx : p.tables.exec = Jvm.exec) (hb : c.code = cc) (hr : meth.sig.returnType = none) (hlocks : meth.locks = false) (hP : va_P D cls ws H) (hD : va_D A ws) (hK : va_K D cls tys s) (hS : va_S A s.heap H locs) (u : S) (isC : List Nat) (hC : isC.map (fun i => ws[i]?) = (w1 u).map some) (hC' : isC.filterMap (fun i => ws[i]?) = w1 u) (hnC : va_nd isC = true) (ktC : List Nat) (htC : ktC.filterMap (fun i => tys[i]?) = t1 u) (hv : vf u = none) (hdg : decode cc pc = .ok (.return_, 1)) :
    W p l e R s m args below meth c H locs cells slots (MQ below (xQ vf w1 t1 D A) args s cells slots A) (F0 m pc ls []) :=
  W.vret hx hb hr (fun t ht hW => ⟨⟨u, by rw [hv], by rw [ht]; exact hP.sub isC hC', va_K.moved hW.alike (hK.sub ktC htC), hD.sub isC hnC hC⟩, hS.F ht⟩) hS.2.2 hdg
end XD
end
section
/-! ===== a throw of the class's own, calls of methods that throw, calls of methods with an exception table ===== -/
def xnZ : List Cond := [.laysStatic "java/lang/Throwable" "UNASSIGNED_STACK" "[Ljava/lang/StackTraceElement;", .laysStatic "java/lang/Throwable" "SUPPRESSED_SENTINEL" "Ljava/util/List;", .isRef (.static "java/lang/Throwable" "UNASSIGNED_STACK" "[Ljava/lang/StackTraceElement;"), .isRef (.static "java/lang/Throwable" "SUPPRESSED_SENTINEL" "Ljava/util/List;")]
abbrev xUp : List String := ["java/lang/RuntimeException", "java/lang/Exception"]
/-- an exception's words are among mine -/
def xOwn (ic : Nat) (X : String) : Prop := ∀ a ∈ Bundle.ownAtoms "ObjectForge" ic X xUp, a ∈ bw ∨ a ∈ xnF ∨ a ∈ xnZ
theorem xOwn.use {ic : Nat} {X : String} {args : Array Value} {s : State} {A : Nat → Prop} (h : xOwn ic X) (hts : ∀ w ∈ bw, w.before args s = true) (hN : xN s) (hZ : xZ A s s.heap) : ∀ a ∈ Bundle.ownAtoms "ObjectForge" ic X xUp, a.before args s = true := by
  intro a ha
  rcases h a ha with h1 | h1 | h1
  · exact hts a h1
  · exact va_tabs (xnF_face a h1).2 rfl (hN.1 a h1)
  · simp only [xnZ, List.mem_cons, List.not_mem_nil, or_false] at h1
    rcases h1 with rfl | rfl | rfl | rfl
    · exact hZ.1.lays
    · exact hZ.2.lays
    · exact hZ.1.isRef
    · exact hZ.2.isRef
set_option maxRecDepth 100000 in
theorem own_ioobe : xOwn 86 "java/lang/IndexOutOfBoundsException" := by unfold xOwn; decide +kernel
set_option maxRecDepth 100000 in
theorem own_iae : xOwn 58 "java/lang/IllegalArgumentException" := by unfold xOwn; decide +kernel
set_option maxRecDepth 100000 in
theorem own_ise : xOwn 47 "java/lang/IllegalStateException" := by unfold xOwn; decide +kernel
end
section
theorem x_locs {D : va_G} {cl : List vw_C} {ws : va_W} {s : State} {H : Heap} {locs : List Loc} (hP : va_P D cl ws s.heap) (hS : va_S (va_A ws s.heap.size) s.heap H locs) : ∀ x ∈ locs, ∀ cell, s.heap[x.base]? = some cell → cell.vm.isStatics = false := by
  intro x hx cell hc
  rcases hS.2.2 x hx with ⟨k, e, hk⟩ | h
  · have h1 := hP k _ hk
    cases e with
    | inl a =>
      have h2 : s.heap[x.base]? = some (vp_cell a.1 a.2) := h1
      rw [hc] at h2
      cases h2
      obtain ⟨a1, a2, a3⟩ := a
      rcases a3 with f | f | f | f | f <;> rfl
    | inr o =>
      obtain ⟨r, -, cell', h2, -, h3, -⟩ := h1
      rw [hc] at h2
      cases h2
      rw [h3]
      rfl
  · have := (Array.getElem?_eq_some_iff.mp hc).1
    exact absurd h (by omega)
section XE
variable {p : Program} {l : Launch} {e : Env} {R : Room} {s : State} {m : MethodId} {args : Array Value} {below : List Frame} {meth : Method} {c : Code} {H : Heap} {locs : List Loc} {cells slots : Nat} {Q : State → Prop}
variable {pc : Nat} {ls : Array Slot} {rest st0 : List Value} {D : va_G} {A : Nat → Prop} {ws wc wr : va_W} {tys tc tr : List (ClassId × FieldType)} {mc ms : Nat}
variable {y : MethodName} {bytes cc : ByteArray} {maxL nL n index ci q0 : Nat} {ret : Option FieldType} {rm : Room} {own C : String} {b : Addr} {As : List Value} {q : vw_C} {fs : List Value}
/-- throw new X("..."): new, dup, ldc, invokespecial, athrow -/
theorem x_throw {X : String} {ixC ixS ixI : Nat} {tx : String} (hx : p.tables.exec = Jvm.exec) (hb : c.code = cc) (hml : c.maxLocals = nL) (hown : s.vm.findClass "ObjectForge" = some m.cls) (hts : ∀ w ∈ bw, w.before args s = true) (hN : xN s) (hZ : xZ A s s.heap) (htr : l.stackTraces = false)
    (hno : ∀ x ∈ c.exceptionTable.toList, ∀ k : Nat, covers x k = false) (hlocks : meth.locks = false) (hOwn : xOwn ixI X) (hfit : Bundle.fit X = true) (k1 : Cond.classLink "ObjectForge" ixC X ∈ bw) (k2 : Cond.instantiable X 6 ∈ bw) (k3 : Cond.initialized X ∈ bw) (k4 : (ixS, tx) ∈ xnS)
    (hS : va_S A s.heap H locs) (hlocs : ∀ x ∈ locs, ∀ cell, s.heap[x.base]? = some cell → cell.vm.isStatics = false) (hsize : ls.size = nL) (hcells : cells + 1 ≤ R.cells) (hslots : slots + 6 ≤ R.slots) (hfr : 6 ≤ R.frames) (hlo : 100 ≤ R.locals)
    (d0 : decode cc pc = .ok (.new ixC, 3)) (d3 : decode cc (pc + 3) = .ok (.dup, 1)) (d4 : decode cc (pc + 4) = .ok (.ldc ixS, 2)) (d6 : decode cc (pc + 6) = .ok (.invokespecial ixI, 3)) (d9 : decode cc (pc + 9) = .ok (.athrow, 1)) :
    W p l e R s m args below meth c H locs cells slots (MQT below (xQT X A) args s (cells + 1) (slots + 6) A) (F0 m pc ls []) := by
  obtain ⟨qs, hq⟩ := hN.2.2.1 _ k4
  have hge : s.heap.size ≤ H.size := hS.1
  refine W.newc hx hb hown (hts _ k1) (hts _ k2) (hts _ k3) rfl d0 hcells hslots (fun cC kC hfc hkC hkind hsz => ?_)
  refine W.eq (g2 := F0 m (pc + 3) ls [.ref H.size]) rfl ?_
  refine lv_dup hx hb d3 rfl ?_
  refine va_ldcS hx hb hown hq d4 ?_
  intro T hT X0
  have htr' : e.platform.stackTraces = false := by rw [X0.admits.platform]; exact htr
  obtain ⟨U, h1, h2, h3, h4, h5, ce, h6, h7⟩ := X0.ctorThrowS hx htr' (own := "ObjectForge") (cls := X) (names := xUp) (ic := ixI) hown hfit (by decide) (hOwn.use hts hN hZ) hlocs (a := H.size) (cX := cC) (kX := kC) hfc hkC
    (by rw [hT]; simp [freshCell]) hge (msg := .ref qs) rfl (g := F0 m (pc + 6) ls [.ref qs, .ref H.size, .ref H.size]) rfl (hsize.trans hml.symm) rfl rfl (rest := []) rfl (by rw [hb]; exact d6) (by rw [hb]; exact d9) (fun x hx' => hno x hx' _) (by show 2 + 3 < R.frames; omega) (by show 2 * 0 + 1 + (13 * 3 + 42) ≤ R.locals; omega) hlocks
  refine ⟨U, h1, H.size, h2, h3, ⟨⟨hge, ce, h6, by rw [h7.vm]; rfl, ?_⟩, ?_⟩, locs, ⟨h4, h5⟩, hS.2.2⟩
  · rw [h4.alike.findClass]; exact h7.cls
  · refine ⟨h5.2.1, fun q hq1 hq2 => ?_⟩
    have hkeep : ∀ cell, s.heap[q]? = some cell → U.heap[q]? = some cell := fun cell hcell => by
      obtain ⟨cell', hc', he, hsz', hk⟩ := h5.2.2.2.2.2 q cell hcell
      have hc'' : U.heap[q]? = some cell' := hc'
      have hs : cell'.slots = cell.slots := Array.ext_getElem? (fun i => hk i (fun hmem => hq2 (hS.2.2 _ hmem)))
      rw [hc'', he, hs]
    cases hcell : s.heap[q]? with
    | none => exact absurd (Array.getElem?_eq_none_iff.mp hcell) (by omega)
    | some cell => exact hkeep cell hcell
/-- invokevirtual of a method that throws -/
theorem xt_V {X : String} (F : CallFix p m c cc nL s args bw own) (hM : MetT l y (Cond.code y bytes maxL ret :: bw) rm (va_Pc (.ref b :: As) (xP D tc H.size wc)) (xQT X (va_A wc H.size)) mc ms (va_A wc H.size)) (hrc : rm.cells = mc) (hrs : rm.slots = ms)
    (k1 : Cond.code y bytes maxL ret ∈ bw) (k2 : Cond.methodLink own index y ∈ bw) (k3 : Cond.instanceMethod y ∈ bw) (k4 : Cond.selects y.cls y y ∈ bw) (k5 : Cond.initialized y.cls ∈ bw) (hd : xMH y n) (hR : rm.frames + 1 ≤ R.frames ∧ 8 + (maxL + 11) + rm.locals ≤ R.locals)
    (hP : va_P D cls ws H) (hD : va_D A ws) (hK : va_K D cls tys s) (hS : va_S A s.heap H locs) (hA : ∀ q, s.heap.size ≤ q → A q) (hN : xN s) (hZ : xZ A s s.heap) (isC isR : List Nat) (hC : isC.map (fun i => ws[i]?) = wc.map some) (hR' : isR.map (fun i => ws[i]?) = wr.map some) (hnC : va_nd isC = true) (hnR : va_nd isR = true) (hdis : ∀ i ∈ isR, i ∉ isC) (ktC : List Nat) (htC : ktC.filterMap (fun i => tys[i]?) = tc)
    (hc : cls[ci]? = some q) (hq : q.1 = y.cls) (he : wc[q0]? = some (b, .inr (ci, fs)))
    (hn : As.length = n) (hsize : ls.size = nL) (hst : st0 = As.reverse ++ .ref b :: rest) (hW : (rest.map fun v => v.category).sum ≤ 8) (hdg : decode cc pc = .ok (.invokevirtual index, 3)) (hf : cells + mc ≤ R.cells ∧ slots + ms ≤ R.slots)
    (kk : ∀ (x : Addr) (H1 : Heap) (locs1 : List Loc), s.heap.size ≤ x → (∃ cell : Cell, H1[x]? = some cell ∧ cell.vm.isStatics = false ∧ s.vm.findClass X = some cell.cls) → va_P D cls wr H1 → va_D A wr → va_S A s.heap H1 locs1 → WT p l e R s m args below meth c H1 locs1 (cells + mc) (slots + ms) Q (F0 m pc ls rest) x) : W p l e R s m args below meth c H locs cells slots Q (F0 m pc ls st0) := by
  subst hst
  obtain ⟨hx, hb, hml, hown, hts⟩ := F
  have hF := va_free (wc := wc) hD hS hA isC hC
  have hpre := xP.at (av := .ref b :: As) hP hD hK hS hN hZ hF isC hC hnC ktC htC
  have hPc : va_P D cls wc H := by
    intro k x hk
    have h1 : (isC.map (fun i => ws[i]?))[k]? = some (some x) := by rw [hC, List.getElem?_map, hk]; rfl
    rw [List.getElem?_map] at h1
    cases hi : isC[k]? with
    | none => rw [hi] at h1; cases h1
    | some i => rw [hi] at h1; exact hP i x (Option.some.inj h1)
  obtain ⟨cellB, hcB, hoB, hclB⟩ := hq ▸ va_recv hK hPc hc he
  intro T hT X0
  obtain ⟨mk, methM, hnamed, hmethM, hstM, habM⟩ := Cond.instanceMethod_spec (hts _ k3)
  obtain ⟨methM', cM, hmethM', -, -, -, -, -, -, hsigM⟩ := Cond.code_spec hnamed (hts _ k1)
  cases hmethM.symm.trans hmethM'
  obtain ⟨c2, r2, m2, q1, q2, q3, q4, kP, hkP, hkPi⟩ := Cond.selects_spec (hts _ k4)
  cases hclB.symm.trans q1
  cases (State.methodFound?_of_named hnamed ⟨hd.1, hd.2.1⟩).symm.trans q2
  cases hnamed.symm.trans q3
  have hselP : selectMethod e.platform s.vm cellB.cls mk = .method mk := by rw [Launch.admits_selectMethod X0.admits]; exact q4
  have hlen : As.length = methM.sig.parameters.length := by
    have h2 := hd.2.2
    rw [hsigM] at h2
    rw [hn]
    exact (Option.some.inj h2).symm
  obtain ⟨vm₁, X₁, hstep₁⟩ := X0.invokevirtual hx hown (hts _ k2) hnamed hmethM hstM hkP hkPi ⟨hd.1, hd.2.1⟩ (a := b) (cell := cellB) (by rw [hT]; exact hcB)
    (fun z h => by rw [h] at hoB; cases hoB) hselP hmethM habM hkP hkPi (g := F0 m pc ls (As.reverse ++ .ref b :: rest)) rfl (argsL := As) (rest := rest) hlen rfl (by rw [hb]; exact hdg)
  obtain ⟨x, T', t, L, X', hL, e1, e2, ⟨⟨hxn, cell, hcx, hcs, hcc⟩, hz, hk⟩, hsteps⟩ := hM.at (T := T.setVm vm₁) (g := F0 m pc ls rest) (mk := mk) (a := (Value.ref b :: As).toArray) (Wd := 8) (bytes := bytes) (maxL := maxL) (ret := ret) xP.blind hrc hrs hR.1 hR.2 (pay_in hts (xg k1)) List.mem_cons_self
    (fun a' U hW => word_at hW (Or.inl (by first | rfl | simp [Cond.onTables, Cond.keeps, Cond.steady])) (hts _ k5)) X₁ rfl (hsize.trans hml.symm) (by rw [hb]; exact hdg) (lv_room hW) (X₁.named hnamed) hf.1 hf.2 (hpre (T.setVm vm₁) hT X₁.warmed)
  have hz : H.size ≤ t.heap.size := by rw [← hT]; exact hz
  have hk : ∀ q : Nat, q < H.size → ¬ va_A wc H.size q → t.heap[q]? = H[q]? := fun q h1 h2 => by rw [← hT]; exact hk q (by rw [← hT] at h1; exact h1) h2
  obtain ⟨hP2, hD2⟩ := va_join (wr := wr) (w1 := []) hP hD isC isR hC hR' hnR hdis hk hF (fun k x h => by simp at h) ⟨fun i j p q h => by simp at h, fun k q h => by simp at h⟩
  rw [List.append_nil] at hP2 hD2
  have hxH : H.size ≤ x := by rw [← hT]; exact hxn
  obtain ⟨t2, a1, b1⟩ := kk x t.heap (locs ++ L) (Nat.le_trans hS.1 hxH) ⟨cell, hcx, hcs, by rw [← hcc, ← e2, X'.warmed.alike.findClass]⟩ hP2 hD2 ⟨Nat.le_trans hS.1 hz, fun q h1 h2 => by rw [hk q (Nat.lt_of_lt_of_le h1 hS.1) (fun z => h2 (hF q z))]; exact hS.2.1 q h1 h2, fun q hq => by
    rcases List.mem_append.mp hq with h | h
    · exact hS.2.2 q h
    · exact hF _ (hL q h)⟩ T' e1 X'
  exact ⟨t2, hstep₁ _ (fun acts => by rw [doInvoke_state]; exact hsteps.trans a1), b1⟩
/-- invokestatic of a method that throws -/
theorem xt_S {X : String} (F : CallFix p m c cc nL s args bw own) (hM : MetT l y (Cond.code y bytes maxL ret :: bw) rm (va_Pc As (xP D tc H.size wc)) (xQT X (va_A wc H.size)) mc ms (va_A wc H.size)) (hrc : rm.cells = mc) (hrs : rm.slots = ms)
    (k1 : Cond.code y bytes maxL ret ∈ bw) (k2 : Cond.methodLink own index y ∈ bw) (k3 : Cond.static y ∈ bw) (k5 : Cond.initialized y.cls ∈ bw) (hd : xMH y n) (hR : rm.frames + 1 ≤ R.frames ∧ 8 + (maxL + 11) + rm.locals ≤ R.locals)
    (hP : va_P D cls ws H) (hD : va_D A ws) (hK : va_K D cls tys s) (hS : va_S A s.heap H locs) (hA : ∀ q, s.heap.size ≤ q → A q) (hN : xN s) (hZ : xZ A s s.heap) (isC isR : List Nat) (hC : isC.map (fun i => ws[i]?) = wc.map some) (hR' : isR.map (fun i => ws[i]?) = wr.map some) (hnC : va_nd isC = true) (hnR : va_nd isR = true) (hdis : ∀ i ∈ isR, i ∉ isC) (ktC : List Nat) (htC : ktC.filterMap (fun i => tys[i]?) = tc)
    (hn : As.length = n) (hsize : ls.size = nL) (hst : st0 = As.reverse ++ rest) (hW : (rest.map fun v => v.category).sum ≤ 8) (hdg : decode cc pc = .ok (.invokestatic index, 3)) (hf : cells + mc ≤ R.cells ∧ slots + ms ≤ R.slots)
    (kk : ∀ (x : Addr) (H1 : Heap) (locs1 : List Loc), s.heap.size ≤ x → (∃ cell : Cell, H1[x]? = some cell ∧ cell.vm.isStatics = false ∧ s.vm.findClass X = some cell.cls) → va_P D cls wr H1 → va_D A wr → va_S A s.heap H1 locs1 → WT p l e R s m args below meth c H1 locs1 (cells + mc) (slots + ms) Q (F0 m pc ls rest) x) : W p l e R s m args below meth c H locs cells slots Q (F0 m pc ls st0) := by
  subst hst
  obtain ⟨hx, hb, hml, hown, hts⟩ := F
  have hF := va_free (wc := wc) hD hS hA isC hC
  have hpre := xP.at (av := As) hP hD hK hS hN hZ hF isC hC hnC ktC htC
  intro T hT X0
  obtain ⟨mk, hnamed⟩ := Cond.code_named (hts _ k1)
  obtain ⟨methM, cM, hmethM, -, -, -, -, -, -, hsigM⟩ := Cond.code_spec hnamed (hts _ k1)
  have hstatic : methM.isStatic = true := Cond.static_spec hnamed hmethM (hts _ k3)
  obtain ⟨kP, hkP, -⟩ := className_of_methodNamed hnamed
  have hinitP : kP.init = .initialized := Cond.initialized_spec (findClass_of_methodNamed hnamed) hkP (hts _ k5)
  have hlen : As.length = methM.sig.parameters.length := by
    have h2 := hd.2.2
    rw [hsigM] at h2
    rw [hn]
    exact (Option.some.inj h2).symm
  obtain ⟨vm₁, X₁, hstep₁⟩ := X0.invokestatic hx hown (hts _ k2) hnamed hmethM hstatic hkP hinitP ⟨hd.1, hd.2.1⟩ (g := F0 m pc ls (As.reverse ++ rest)) rfl (argsL := As) (rest := rest) hlen rfl (by rw [hb]; exact hdg)
  obtain ⟨x, T', t, L, X', hL, e1, e2, ⟨⟨hxn, cell, hcx, hcs, hcc⟩, hz, hk⟩, hsteps⟩ := hM.at (T := T.setVm vm₁) (g := F0 m pc ls rest) (mk := mk) (a := As.toArray) (Wd := 8) (bytes := bytes) (maxL := maxL) (ret := ret) xP.blind hrc hrs hR.1 hR.2 (pay_in hts (xg k1)) List.mem_cons_self
    (fun a' U hW => word_at hW (Or.inl (by first | rfl | simp [Cond.onTables, Cond.keeps, Cond.steady])) (hts _ k5)) X₁ rfl (hsize.trans hml.symm) (by rw [hb]; exact hdg) (lv_room hW) (X₁.named hnamed) hf.1 hf.2 (hpre (T.setVm vm₁) hT X₁.warmed)
  have hz : H.size ≤ t.heap.size := by rw [← hT]; exact hz
  have hk : ∀ q : Nat, q < H.size → ¬ va_A wc H.size q → t.heap[q]? = H[q]? := fun q h1 h2 => by rw [← hT]; exact hk q (by rw [← hT] at h1; exact h1) h2
  obtain ⟨hP2, hD2⟩ := va_join (wr := wr) (w1 := []) hP hD isC isR hC hR' hnR hdis hk hF (fun k x h => by simp at h) ⟨fun i j p q h => by simp at h, fun k q h => by simp at h⟩
  rw [List.append_nil] at hP2 hD2
  have hxH : H.size ≤ x := by rw [← hT]; exact hxn
  obtain ⟨t2, a1, b1⟩ := kk x t.heap (locs ++ L) (Nat.le_trans hS.1 hxH) ⟨cell, hcx, hcs, by rw [← hcc, ← e2, X'.warmed.alike.findClass]⟩ hP2 hD2 ⟨Nat.le_trans hS.1 hz, fun q h1 h2 => by rw [hk q (Nat.lt_of_lt_of_le h1 hS.1) (fun z => h2 (hF q z))]; exact hS.2.1 q h1 h2, fun q hq => by
    rcases List.mem_append.mp hq with h | h
    · exact hS.2.2 q h
    · exact hF _ (hL q h)⟩ T' e1 X'
  exact ⟨t2, hstep₁ _ (fun acts => by rw [doInvoke_state]; exact hsteps.trans a1), b1⟩
end XE
end
section
/-- a room by depth -/
abbrev xR (d c n : Nat) : Room := { frames := 10 * d, cells := c, slots := n, locals := 200 * d }
section XF
variable {p : Program} {l : Launch} {e : Env} {R : Room} {s : State} {m : MethodId} {args : Array Value} {below : List Frame} {meth : Method} {c : Code} {H : Heap} {locs : List Loc} {cells slots : Nat} {Q : State → Prop}
variable {cc : ByteArray} {pc : Nat} {ls : Array Slot} {rest : List Value} {D : va_G} {cl : List vw_C} {A : Nat → Prop} {tys : List (ClassId × FieldType)} {ws : va_W} {H0 : Heap}
/-- a new array that is not looked at again -/
theorem x_newa (hexec : p.tables.exec = Jvm.exec) (hb : c.code = cc) {atype : ArrayType} (harr : (Cond.arrayClass (newarray.typeOf atype)).before args s = true) {ty : FieldType} (hty : newarray.typeOf atype = ty) (hK : va_K D cl tys s) (hP : va_P D cl ws H) (hD : va_D A ws) (hS : va_S A H0 H locs) (hA : ∀ q, H0.size ≤ q → A q)
    {n : Int32} {N' : Nat} {a0 : vp_A} (ha : ∀ cA : ClassId, vp_cell cA a0 = arrV cA N' (fun _ => defaultValue ty)) (hn : ¬ n < 0) (hN : n.toNatClampNeg = N') (hbytes : N' * componentBytes ty ≤ 536870912) (hcells : cells + 1 ≤ R.cells) (hslots : slots + N' ≤ R.slots) (hdg : decode cc pc = .ok (.newarray atype, 2))
    (kk : ∀ (q : Nat) (H1 : Heap), va_P D cl ws H1 → va_D A ws → va_S A H0 H1 locs → W p l e R s m args below meth c H1 locs (cells + 1) (slots + N') Q (F0 m (pc + 2) ls (.ref q :: rest))) : W p l e R s m args below meth c H locs cells slots Q (F0 m pc ls (.int n :: rest)) :=
  va_newa hexec hb harr hty hK hP hD hS hA ha hn hN hbytes hcells hslots hdg (fun q cA H1 _ hP1 _ hS1 => kk q H1 (fun k x hk => hP1 k x (by rw [List.getElem?_append_left (List.getElem?_eq_some_iff.mp hk).1]; exact hk)) hD hS1)
end XF
end
section
theorem d_Re_init_0 : decode b_Re_init 0 = .ok (.aload_n 0, 1) := by decide +kernel
theorem d_Re_init_1 : decode b_Re_init 1 = .ok (.invokespecial 3, 3) := by decide +kernel
theorem d_Re_init_4 : decode b_Re_init 4 = .ok (.aload_n 0, 1) := by decide +kernel
theorem d_Re_init_5 : decode b_Re_init 5 = .ok (.sipush 256, 3) := by decide +kernel
theorem d_Re_init_8 : decode b_Re_init 8 = .ok (.newarray .int, 2) := by decide +kernel
theorem d_Re_init_10 : decode b_Re_init 10 = .ok (.putfield 9, 3) := by decide +kernel
theorem d_Re_init_13 : decode b_Re_init 13 = .ok (.aload_n 0, 1) := by decide +kernel
theorem d_Re_init_14 : decode b_Re_init 14 = .ok (.sipush 256, 3) := by decide +kernel
theorem d_Re_init_17 : decode b_Re_init 17 = .ok (.newarray .int, 2) := by decide +kernel
theorem d_Re_init_19 : decode b_Re_init 19 = .ok (.putfield 15, 3) := by decide +kernel
theorem d_Re_init_22 : decode b_Re_init 22 = .ok (.aload_n 0, 1) := by decide +kernel
theorem d_Re_init_23 : decode b_Re_init 23 = .ok (.sipush 256, 3) := by decide +kernel
theorem d_Re_init_26 : decode b_Re_init 26 = .ok (.newarray .int, 2) := by decide +kernel
theorem d_Re_init_28 : decode b_Re_init 28 = .ok (.putfield 18, 3) := by decide +kernel
theorem d_Re_init_31 : decode b_Re_init 31 = .ok (.aload_n 0, 1) := by decide +kernel
theorem d_Re_init_32 : decode b_Re_init 32 = .ok (.sipush 256, 3) := by decide +kernel
theorem d_Re_init_35 : decode b_Re_init 35 = .ok (.newarray .int, 2) := by decide +kernel
theorem d_Re_init_37 : decode b_Re_init 37 = .ok (.putfield 21, 3) := by decide +kernel
theorem d_Re_init_40 : decode b_Re_init 40 = .ok (.aload_n 0, 1) := by decide +kernel
theorem d_Re_init_41 : decode b_Re_init 41 = .ok (.sipush 256, 3) := by decide +kernel
theorem d_Re_init_44 : decode b_Re_init 44 = .ok (.newarray .long, 2) := by decide +kernel
theorem d_Re_init_46 : decode b_Re_init 46 = .ok (.putfield 24, 3) := by decide +kernel
theorem d_Re_init_49 : decode b_Re_init 49 = .ok (.aload_n 0, 1) := by decide +kernel
theorem d_Re_init_50 : decode b_Re_init 50 = .ok (.sipush 256, 3) := by decide +kernel
theorem d_Re_init_53 : decode b_Re_init 53 = .ok (.newarray .int, 2) := by decide +kernel
theorem d_Re_init_55 : decode b_Re_init 55 = .ok (.putfield 28, 3) := by decide +kernel
theorem d_Re_init_58 : decode b_Re_init 58 = .ok (.aload_n 0, 1) := by decide +kernel
theorem d_Re_init_59 : decode b_Re_init 59 = .ok (.iconst 0, 1) := by decide +kernel
theorem d_Re_init_60 : decode b_Re_init 60 = .ok (.putfield 31, 3) := by decide +kernel
theorem d_Re_init_63 : decode b_Re_init 63 = .ok (.return_, 1) := by decide +kernel
set_option maxHeartbeats 4000000 in
set_option maxRecDepth 100000 in
theorem c_Re_init (l : Launch) (D : va_G) (h0 : Nat) (sz : Nat) : Met l y_Re_init (Cond.code y_Re_init b_Re_init 1 none :: bw) (xR 1 6 1536) (va_Pc [.ref h0] (xP D [] sz [(h0, .inr (3, [.null, .null, .null, .null, .null, .null, .int 0]))])) (xQ (S := ((Nat → Nat) × (Nat → ClassId))) (fun u => none) (fun u => [(h0, .inr (3, [.ref (u.1 0), .ref (u.1 1), .ref (u.1 2), .ref (u.1 3), .ref (u.1 4), .ref (u.1 5), .int 0]))]) (fun u => []) D (va_A [(h0, .inr (3, [.null, .null, .null, .null, .null, .null, .int 0]))] sz)) 6 1536 (va_A [(h0, .inr (3, [.null, .null, .null, .null, .null, .null, .int 0]))] sz) := by
  refine Met.ofW (cc := b_Re_init) (maxL := 1) (ret := none) (by decide) rfl ?_
  intro p e s m args below meth c s₁ B hml hv
  obtain ⟨rfl, hsz, hP, hK, hD0, hN, hZ⟩ := hv
  have hx := B.exec
  have hb := B.bytes
  have hr := B.returns
  have hlocks := B.notSynchronized
  have hts : ∀ w ∈ bw, w.before _ s = true := fun w h => atoms_spec (ws := Cond.code y_Re_init b_Re_init 1 none :: bw) B.pre w (List.mem_cons_of_mem _ h)
  have hown : s.vm.findClass "ObjectForge$Relocations" = some m.cls := findClass_of_methodNamed B.named
  have hin : meth.name = "<init>" := (name_of_methodNamed B.named B.method).1
  subst hsz
  have hP0 := hP
  have hD := hD0.self (sz := s.heap.size)
  generalize hAe : va_A [(h0, .inr (3, [.null, .null, .null, .null, .null, .null, .int 0]))] s.heap.size = A at hD hZ ⊢
  have hA : ∀ q : Nat, s.heap.size ≤ q → A q := fun q h => by rw [← hAe]; exact Or.inr h
  have hS : va_S A s.heap s.heap [] := va_S.rf
  have hl := lv_entry ([.ref h0]) (n := 1) (Nat.le_of_ble_eq_true rfl)
  rw [lg_entry_eq]
  generalize (lg_sl ([.ref h0]) ++ List.replicate (1 - (lg_sl ([.ref h0])).length) Slot.unset).toArray = ls at hl ⊢
  have hl : lv_has ls 1 [(0, .ref h0)] := hl
  refine lv_aload_n hx hb d_Re_init_0 rfl (lv_at hl 0 rfl) ?_
  refine W.objInit hx hb hown (hts _ w_79) (hts _ w_22) (hts _ w_23) rfl (by rw [hml]; exact hl.1) rfl d_Re_init_1 (Nat.le_of_ble_eq_true rfl) (Nat.le_of_ble_eq_true rfl) ?_
  refine W.eq (g2 := F0 m 4 ls []) rfl ?_
  refine lv_aload_n hx hb d_Re_init_4 rfl (lv_at hl 0 rfl) ?_
  refine lv_sipush (v := 256) hx hb d_Re_init_5 (by decide) ?_
  refine x_newa (atype := .int) (ty := .int) (n := 256) (N' := 256) (a0 := (256, .inl (fun _ => 0))) hx hb (hts _ w_43) rfl hK hP hD hS hA (fun _ => rfl) (by decide) (by decide) (by decide) (Nat.le_of_ble_eq_true rfl) (Nat.le_of_ble_eq_true rfl) d_Re_init_8 (fun q1 H hP hD hS => ?_)
  refine W.widen (k := 1) (n := 256) (by omega) (by omega) ?_
  refine va_putF (D := D) (ci := 3) (v := .ref q1) (ty := .array .int) (C := R_Re) (T := F_Re) (N := 7) hx hb hts i_Re t_Re t_Re_ok n_Re hown hK hP hD hS 0 rfl rfl 0 (by decide) (hts _ w_80) (fun _ h9 => h9) rfl hin rfl (by decide +kernel) rfl rfl (Nat.le_of_ble_eq_true rfl) d_Re_init_10 (fun H locs hP hD hS => ?_)
  have hP : va_P D cls [(h0, .inr (3, [.ref q1, .null, .null, .null, .null, .null, .int 0]))] H := hP
  have hD : va_D A [(h0, .inr (3, [.ref q1, .null, .null, .null, .null, .null, .int 0]))] := hD
  refine lv_aload_n hx hb d_Re_init_13 rfl (lv_at hl 0 rfl) ?_
  refine lv_sipush (v := 256) hx hb d_Re_init_14 (by decide) ?_
  refine x_newa (atype := .int) (ty := .int) (n := 256) (N' := 256) (a0 := (256, .inl (fun _ => 0))) hx hb (hts _ w_43) rfl hK hP hD hS hA (fun _ => rfl) (by decide) (by decide) (by decide) (Nat.le_of_ble_eq_true rfl) (Nat.le_of_ble_eq_true rfl) d_Re_init_17 (fun q2 H hP hD hS => ?_)
  refine W.widen (k := 2) (n := 512) (by omega) (by omega) ?_
  refine va_putF (D := D) (ci := 3) (v := .ref q2) (ty := .array .int) (C := R_Re) (T := F_Re) (N := 7) hx hb hts i_Re t_Re t_Re_ok n_Re hown hK hP hD hS 0 rfl rfl 1 (by decide) (hts _ w_82) (fun _ h9 => h9) rfl hin rfl (by decide +kernel) rfl rfl (Nat.le_of_ble_eq_true rfl) d_Re_init_19 (fun H locs hP hD hS => ?_)
  have hP : va_P D cls [(h0, .inr (3, [.ref q1, .ref q2, .null, .null, .null, .null, .int 0]))] H := hP
  have hD : va_D A [(h0, .inr (3, [.ref q1, .ref q2, .null, .null, .null, .null, .int 0]))] := hD
  refine lv_aload_n hx hb d_Re_init_22 rfl (lv_at hl 0 rfl) ?_
  refine lv_sipush (v := 256) hx hb d_Re_init_23 (by decide) ?_
  refine x_newa (atype := .int) (ty := .int) (n := 256) (N' := 256) (a0 := (256, .inl (fun _ => 0))) hx hb (hts _ w_43) rfl hK hP hD hS hA (fun _ => rfl) (by decide) (by decide) (by decide) (Nat.le_of_ble_eq_true rfl) (Nat.le_of_ble_eq_true rfl) d_Re_init_26 (fun q3 H hP hD hS => ?_)
  refine W.widen (k := 3) (n := 768) (by omega) (by omega) ?_
  refine va_putF (D := D) (ci := 3) (v := .ref q3) (ty := .array .int) (C := R_Re) (T := F_Re) (N := 7) hx hb hts i_Re t_Re t_Re_ok n_Re hown hK hP hD hS 0 rfl rfl 2 (by decide) (hts _ w_85) (fun _ h9 => h9) rfl hin rfl (by decide +kernel) rfl rfl (Nat.le_of_ble_eq_true rfl) d_Re_init_28 (fun H locs hP hD hS => ?_)
  have hP : va_P D cls [(h0, .inr (3, [.ref q1, .ref q2, .ref q3, .null, .null, .null, .int 0]))] H := hP
  have hD : va_D A [(h0, .inr (3, [.ref q1, .ref q2, .ref q3, .null, .null, .null, .int 0]))] := hD
  refine lv_aload_n hx hb d_Re_init_31 rfl (lv_at hl 0 rfl) ?_
  refine lv_sipush (v := 256) hx hb d_Re_init_32 (by decide) ?_
  refine x_newa (atype := .int) (ty := .int) (n := 256) (N' := 256) (a0 := (256, .inl (fun _ => 0))) hx hb (hts _ w_43) rfl hK hP hD hS hA (fun _ => rfl) (by decide) (by decide) (by decide) (Nat.le_of_ble_eq_true rfl) (Nat.le_of_ble_eq_true rfl) d_Re_init_35 (fun q4 H hP hD hS => ?_)
  refine W.widen (k := 4) (n := 1024) (by omega) (by omega) ?_
  refine va_putF (D := D) (ci := 3) (v := .ref q4) (ty := .array .int) (C := R_Re) (T := F_Re) (N := 7) hx hb hts i_Re t_Re t_Re_ok n_Re hown hK hP hD hS 0 rfl rfl 3 (by decide) (hts _ w_88) (fun _ h9 => h9) rfl hin rfl (by decide +kernel) rfl rfl (Nat.le_of_ble_eq_true rfl) d_Re_init_37 (fun H locs hP hD hS => ?_)
  have hP : va_P D cls [(h0, .inr (3, [.ref q1, .ref q2, .ref q3, .ref q4, .null, .null, .int 0]))] H := hP
  have hD : va_D A [(h0, .inr (3, [.ref q1, .ref q2, .ref q3, .ref q4, .null, .null, .int 0]))] := hD
  refine lv_aload_n hx hb d_Re_init_40 rfl (lv_at hl 0 rfl) ?_
  refine lv_sipush (v := 256) hx hb d_Re_init_41 (by decide) ?_
  refine x_newa (atype := .long) (ty := .long) (n := 256) (N' := 256) (a0 := (256, .inr (.inl (fun _ => 0)))) hx hb (hts _ w_100) rfl hK hP hD hS hA (fun _ => rfl) (by decide) (by decide) (by decide) (Nat.le_of_ble_eq_true rfl) (Nat.le_of_ble_eq_true rfl) d_Re_init_44 (fun q5 H hP hD hS => ?_)
  refine W.widen (k := 5) (n := 1280) (by omega) (by omega) ?_
  refine va_putF (D := D) (ci := 3) (v := .ref q5) (ty := .array .long) (C := R_Re) (T := F_Re) (N := 7) hx hb hts i_Re t_Re t_Re_ok n_Re hown hK hP hD hS 0 rfl rfl 4 (by decide) (hts _ w_91) (fun _ h9 => h9) rfl hin rfl (by decide +kernel) rfl rfl (Nat.le_of_ble_eq_true rfl) d_Re_init_46 (fun H locs hP hD hS => ?_)
  have hP : va_P D cls [(h0, .inr (3, [.ref q1, .ref q2, .ref q3, .ref q4, .ref q5, .null, .int 0]))] H := hP
  have hD : va_D A [(h0, .inr (3, [.ref q1, .ref q2, .ref q3, .ref q4, .ref q5, .null, .int 0]))] := hD
  refine lv_aload_n hx hb d_Re_init_49 rfl (lv_at hl 0 rfl) ?_
  refine lv_sipush (v := 256) hx hb d_Re_init_50 (by decide) ?_
  refine x_newa (atype := .int) (ty := .int) (n := 256) (N' := 256) (a0 := (256, .inl (fun _ => 0))) hx hb (hts _ w_43) rfl hK hP hD hS hA (fun _ => rfl) (by decide) (by decide) (by decide) (Nat.le_of_ble_eq_true rfl) (Nat.le_of_ble_eq_true rfl) d_Re_init_53 (fun q6 H hP hD hS => ?_)
  refine W.widen (k := 6) (n := 1536) (by omega) (by omega) ?_
  refine va_putF (D := D) (ci := 3) (v := .ref q6) (ty := .array .int) (C := R_Re) (T := F_Re) (N := 7) hx hb hts i_Re t_Re t_Re_ok n_Re hown hK hP hD hS 0 rfl rfl 5 (by decide) (hts _ w_94) (fun _ h9 => h9) rfl hin rfl (by decide +kernel) rfl rfl (Nat.le_of_ble_eq_true rfl) d_Re_init_55 (fun H locs hP hD hS => ?_)
  have hP : va_P D cls [(h0, .inr (3, [.ref q1, .ref q2, .ref q3, .ref q4, .ref q5, .ref q6, .int 0]))] H := hP
  have hD : va_D A [(h0, .inr (3, [.ref q1, .ref q2, .ref q3, .ref q4, .ref q5, .ref q6, .int 0]))] := hD
  refine lv_aload_n hx hb d_Re_init_58 rfl (lv_at hl 0 rfl) ?_
  refine lv_iconst (v := 0) hx hb d_Re_init_59 (by decide) ?_
  refine va_put (D := D) (ci := 3) (v := .int 0) (ty := .int) (C := R_Re) (T := F_Re) (N := 7) hx hb hts i_Re t_Re t_Re_ok n_Re hown hK hP hD hS 0 rfl rfl 6 (by decide) (hts _ w_96) (fun _ h9 => h9) rfl (by decide +kernel) rfl rfl (Nat.le_of_ble_eq_true rfl) d_Re_init_60 (fun H locs hP hD hS => ?_)
  have hP : va_P D cls [(h0, .inr (3, [.ref q1, .ref q2, .ref q3, .ref q4, .ref q5, .ref q6, .int 0]))] H := hP
  have hD : va_D A [(h0, .inr (3, [.ref q1, .ref q2, .ref q3, .ref q4, .ref q5, .ref q6, .int 0]))] := hD
  exact xr_v hx hb hr hlocks hP hD hK hS (((fun k => [q1, q2, q3, q4, q5, q6].getD k 0), (fun k => [].getD k 0))) [0] rfl rfl (by decide) [] rfl rfl d_Re_init_63

theorem d_Sy_init_0 : decode b_Sy_init 0 = .ok (.aload_n 0, 1) := by decide +kernel
theorem d_Sy_init_1 : decode b_Sy_init 1 = .ok (.invokespecial 3, 3) := by decide +kernel
theorem d_Sy_init_4 : decode b_Sy_init 4 = .ok (.aload_n 0, 1) := by decide +kernel
theorem d_Sy_init_5 : decode b_Sy_init 5 = .ok (.sipush 1536, 3) := by decide +kernel
theorem d_Sy_init_8 : decode b_Sy_init 8 = .ok (.newarray .byte, 2) := by decide +kernel
theorem d_Sy_init_10 : decode b_Sy_init 10 = .ok (.putfield 9, 3) := by decide +kernel
theorem d_Sy_init_13 : decode b_Sy_init 13 = .ok (.aload_n 0, 1) := by decide +kernel
theorem d_Sy_init_14 : decode b_Sy_init 14 = .ok (.bipush 64, 2) := by decide +kernel
theorem d_Sy_init_16 : decode b_Sy_init 16 = .ok (.newarray .int, 2) := by decide +kernel
theorem d_Sy_init_18 : decode b_Sy_init 18 = .ok (.putfield 15, 3) := by decide +kernel
theorem d_Sy_init_21 : decode b_Sy_init 21 = .ok (.aload_n 0, 1) := by decide +kernel
theorem d_Sy_init_22 : decode b_Sy_init 22 = .ok (.bipush 64, 2) := by decide +kernel
theorem d_Sy_init_24 : decode b_Sy_init 24 = .ok (.newarray .int, 2) := by decide +kernel
theorem d_Sy_init_26 : decode b_Sy_init 26 = .ok (.putfield 19, 3) := by decide +kernel
theorem d_Sy_init_29 : decode b_Sy_init 29 = .ok (.aload_n 0, 1) := by decide +kernel
theorem d_Sy_init_30 : decode b_Sy_init 30 = .ok (.bipush 64, 2) := by decide +kernel
theorem d_Sy_init_32 : decode b_Sy_init 32 = .ok (.newarray .int, 2) := by decide +kernel
theorem d_Sy_init_34 : decode b_Sy_init 34 = .ok (.putfield 22, 3) := by decide +kernel
theorem d_Sy_init_37 : decode b_Sy_init 37 = .ok (.aload_n 0, 1) := by decide +kernel
theorem d_Sy_init_38 : decode b_Sy_init 38 = .ok (.bipush 64, 2) := by decide +kernel
theorem d_Sy_init_40 : decode b_Sy_init 40 = .ok (.newarray .boolean, 2) := by decide +kernel
theorem d_Sy_init_42 : decode b_Sy_init 42 = .ok (.putfield 25, 3) := by decide +kernel
theorem d_Sy_init_45 : decode b_Sy_init 45 = .ok (.aload_n 0, 1) := by decide +kernel
theorem d_Sy_init_46 : decode b_Sy_init 46 = .ok (.bipush 64, 2) := by decide +kernel
theorem d_Sy_init_48 : decode b_Sy_init 48 = .ok (.newarray .int, 2) := by decide +kernel
theorem d_Sy_init_50 : decode b_Sy_init 50 = .ok (.putfield 29, 3) := by decide +kernel
theorem d_Sy_init_53 : decode b_Sy_init 53 = .ok (.aload_n 0, 1) := by decide +kernel
theorem d_Sy_init_54 : decode b_Sy_init 54 = .ok (.bipush 64, 2) := by decide +kernel
theorem d_Sy_init_56 : decode b_Sy_init 56 = .ok (.newarray .int, 2) := by decide +kernel
theorem d_Sy_init_58 : decode b_Sy_init 58 = .ok (.putfield 32, 3) := by decide +kernel
theorem d_Sy_init_61 : decode b_Sy_init 61 = .ok (.aload_n 0, 1) := by decide +kernel
theorem d_Sy_init_62 : decode b_Sy_init 62 = .ok (.iconst 0, 1) := by decide +kernel
theorem d_Sy_init_63 : decode b_Sy_init 63 = .ok (.putfield 35, 3) := by decide +kernel
theorem d_Sy_init_66 : decode b_Sy_init 66 = .ok (.return_, 1) := by decide +kernel
set_option maxHeartbeats 4000000 in
set_option maxRecDepth 100000 in
theorem c_Sy_init (l : Launch) (D : va_G) (h0 : Nat) (sz : Nat) : Met l y_Sy_init (Cond.code y_Sy_init b_Sy_init 1 none :: bw) (xR 1 7 1920) (va_Pc [.ref h0] (xP D [] sz [(h0, .inr (5, [.null, .null, .null, .null, .null, .null, .null, .int 0]))])) (xQ (S := ((Nat → Nat) × (Nat → ClassId))) (fun u => none) (fun u => [(h0, .inr (5, [.ref (u.1 0), .ref (u.1 1), .ref (u.1 2), .ref (u.1 3), .ref (u.1 4), .ref (u.1 5), .ref (u.1 6), .int 0]))]) (fun u => []) D (va_A [(h0, .inr (5, [.null, .null, .null, .null, .null, .null, .null, .int 0]))] sz)) 7 1920 (va_A [(h0, .inr (5, [.null, .null, .null, .null, .null, .null, .null, .int 0]))] sz) := by
  refine Met.ofW (cc := b_Sy_init) (maxL := 1) (ret := none) (by decide) rfl ?_
  intro p e s m args below meth c s₁ B hml hv
  obtain ⟨rfl, hsz, hP, hK, hD0, hN, hZ⟩ := hv
  have hx := B.exec
  have hb := B.bytes
  have hr := B.returns
  have hlocks := B.notSynchronized
  have hts : ∀ w ∈ bw, w.before _ s = true := fun w h => atoms_spec (ws := Cond.code y_Sy_init b_Sy_init 1 none :: bw) B.pre w (List.mem_cons_of_mem _ h)
  have hown : s.vm.findClass "ObjectForge$Symbols" = some m.cls := findClass_of_methodNamed B.named
  have hin : meth.name = "<init>" := (name_of_methodNamed B.named B.method).1
  subst hsz
  have hP0 := hP
  have hD := hD0.self (sz := s.heap.size)
  generalize hAe : va_A [(h0, .inr (5, [.null, .null, .null, .null, .null, .null, .null, .int 0]))] s.heap.size = A at hD hZ ⊢
  have hA : ∀ q : Nat, s.heap.size ≤ q → A q := fun q h => by rw [← hAe]; exact Or.inr h
  have hS : va_S A s.heap s.heap [] := va_S.rf
  have hl := lv_entry ([.ref h0]) (n := 1) (Nat.le_of_ble_eq_true rfl)
  rw [lg_entry_eq]
  generalize (lg_sl ([.ref h0]) ++ List.replicate (1 - (lg_sl ([.ref h0])).length) Slot.unset).toArray = ls at hl ⊢
  have hl : lv_has ls 1 [(0, .ref h0)] := hl
  refine lv_aload_n hx hb d_Sy_init_0 rfl (lv_at hl 0 rfl) ?_
  refine W.objInit hx hb hown (hts _ w_54) (hts _ w_22) (hts _ w_23) rfl (by rw [hml]; exact hl.1) rfl d_Sy_init_1 (Nat.le_of_ble_eq_true rfl) (Nat.le_of_ble_eq_true rfl) ?_
  refine W.eq (g2 := F0 m 4 ls []) rfl ?_
  refine lv_aload_n hx hb d_Sy_init_4 rfl (lv_at hl 0 rfl) ?_
  refine lv_sipush (v := 1536) hx hb d_Sy_init_5 (by decide) ?_
  refine x_newa (atype := .byte) (ty := .byte) (n := 1536) (N' := 1536) (a0 := (1536, .inl (fun _ => 0))) hx hb (hts _ w_42) rfl hK hP hD hS hA (fun _ => rfl) (by decide) (by decide) (by decide) (Nat.le_of_ble_eq_true rfl) (Nat.le_of_ble_eq_true rfl) d_Sy_init_8 (fun q1 H hP hD hS => ?_)
  refine W.widen (k := 1) (n := 1536) (by omega) (by omega) ?_
  refine va_putF (D := D) (ci := 5) (v := .ref q1) (ty := .array .byte) (C := R_Sy) (T := F_Sy) (N := 8) hx hb hts i_Sy t_Sy t_Sy_ok n_Sy hown hK hP hD hS 0 rfl rfl 0 (by decide) (hts _ w_55) (fun _ h9 => h9) rfl hin rfl (by decide +kernel) rfl rfl (Nat.le_of_ble_eq_true rfl) d_Sy_init_10 (fun H locs hP hD hS => ?_)
  have hP : va_P D cls [(h0, .inr (5, [.ref q1, .null, .null, .null, .null, .null, .null, .int 0]))] H := hP
  have hD : va_D A [(h0, .inr (5, [.ref q1, .null, .null, .null, .null, .null, .null, .int 0]))] := hD
  refine lv_aload_n hx hb d_Sy_init_13 rfl (lv_at hl 0 rfl) ?_
  refine lv_bipush (v := 64) hx hb d_Sy_init_14 (by decide) ?_
  refine x_newa (atype := .int) (ty := .int) (n := 64) (N' := 64) (a0 := (64, .inl (fun _ => 0))) hx hb (hts _ w_43) rfl hK hP hD hS hA (fun _ => rfl) (by decide) (by decide) (by decide) (Nat.le_of_ble_eq_true rfl) (Nat.le_of_ble_eq_true rfl) d_Sy_init_16 (fun q2 H hP hD hS => ?_)
  refine W.widen (k := 2) (n := 1600) (by omega) (by omega) ?_
  refine va_putF (D := D) (ci := 5) (v := .ref q2) (ty := .array .int) (C := R_Sy) (T := F_Sy) (N := 8) hx hb hts i_Sy t_Sy t_Sy_ok n_Sy hown hK hP hD hS 0 rfl rfl 1 (by decide) (hts _ w_57) (fun _ h9 => h9) rfl hin rfl (by decide +kernel) rfl rfl (Nat.le_of_ble_eq_true rfl) d_Sy_init_18 (fun H locs hP hD hS => ?_)
  have hP : va_P D cls [(h0, .inr (5, [.ref q1, .ref q2, .null, .null, .null, .null, .null, .int 0]))] H := hP
  have hD : va_D A [(h0, .inr (5, [.ref q1, .ref q2, .null, .null, .null, .null, .null, .int 0]))] := hD
  refine lv_aload_n hx hb d_Sy_init_21 rfl (lv_at hl 0 rfl) ?_
  refine lv_bipush (v := 64) hx hb d_Sy_init_22 (by decide) ?_
  refine x_newa (atype := .int) (ty := .int) (n := 64) (N' := 64) (a0 := (64, .inl (fun _ => 0))) hx hb (hts _ w_43) rfl hK hP hD hS hA (fun _ => rfl) (by decide) (by decide) (by decide) (Nat.le_of_ble_eq_true rfl) (Nat.le_of_ble_eq_true rfl) d_Sy_init_24 (fun q3 H hP hD hS => ?_)
  refine W.widen (k := 3) (n := 1664) (by omega) (by omega) ?_
  refine va_putF (D := D) (ci := 5) (v := .ref q3) (ty := .array .int) (C := R_Sy) (T := F_Sy) (N := 8) hx hb hts i_Sy t_Sy t_Sy_ok n_Sy hown hK hP hD hS 0 rfl rfl 2 (by decide) (hts _ w_59) (fun _ h9 => h9) rfl hin rfl (by decide +kernel) rfl rfl (Nat.le_of_ble_eq_true rfl) d_Sy_init_26 (fun H locs hP hD hS => ?_)
  have hP : va_P D cls [(h0, .inr (5, [.ref q1, .ref q2, .ref q3, .null, .null, .null, .null, .int 0]))] H := hP
  have hD : va_D A [(h0, .inr (5, [.ref q1, .ref q2, .ref q3, .null, .null, .null, .null, .int 0]))] := hD
  refine lv_aload_n hx hb d_Sy_init_29 rfl (lv_at hl 0 rfl) ?_
  refine lv_bipush (v := 64) hx hb d_Sy_init_30 (by decide) ?_
  refine x_newa (atype := .int) (ty := .int) (n := 64) (N' := 64) (a0 := (64, .inl (fun _ => 0))) hx hb (hts _ w_43) rfl hK hP hD hS hA (fun _ => rfl) (by decide) (by decide) (by decide) (Nat.le_of_ble_eq_true rfl) (Nat.le_of_ble_eq_true rfl) d_Sy_init_32 (fun q4 H hP hD hS => ?_)
  refine W.widen (k := 4) (n := 1728) (by omega) (by omega) ?_
  refine va_putF (D := D) (ci := 5) (v := .ref q4) (ty := .array .int) (C := R_Sy) (T := F_Sy) (N := 8) hx hb hts i_Sy t_Sy t_Sy_ok n_Sy hown hK hP hD hS 0 rfl rfl 3 (by decide) (hts _ w_62) (fun _ h9 => h9) rfl hin rfl (by decide +kernel) rfl rfl (Nat.le_of_ble_eq_true rfl) d_Sy_init_34 (fun H locs hP hD hS => ?_)
  have hP : va_P D cls [(h0, .inr (5, [.ref q1, .ref q2, .ref q3, .ref q4, .null, .null, .null, .int 0]))] H := hP
  have hD : va_D A [(h0, .inr (5, [.ref q1, .ref q2, .ref q3, .ref q4, .null, .null, .null, .int 0]))] := hD
  refine lv_aload_n hx hb d_Sy_init_37 rfl (lv_at hl 0 rfl) ?_
  refine lv_bipush (v := 64) hx hb d_Sy_init_38 (by decide) ?_
  refine x_newa (atype := .boolean) (ty := .boolean) (n := 64) (N' := 64) (a0 := (64, .inl (fun _ => 0))) hx hb (hts _ w_74) rfl hK hP hD hS hA (fun _ => rfl) (by decide) (by decide) (by decide) (Nat.le_of_ble_eq_true rfl) (Nat.le_of_ble_eq_true rfl) d_Sy_init_40 (fun q5 H hP hD hS => ?_)
  refine W.widen (k := 5) (n := 1792) (by omega) (by omega) ?_
  refine va_putF (D := D) (ci := 5) (v := .ref q5) (ty := .array .boolean) (C := R_Sy) (T := F_Sy) (N := 8) hx hb hts i_Sy t_Sy t_Sy_ok n_Sy hown hK hP hD hS 0 rfl rfl 4 (by decide) (hts _ w_65) (fun _ h9 => h9) rfl hin rfl (by decide +kernel) rfl rfl (Nat.le_of_ble_eq_true rfl) d_Sy_init_42 (fun H locs hP hD hS => ?_)
  have hP : va_P D cls [(h0, .inr (5, [.ref q1, .ref q2, .ref q3, .ref q4, .ref q5, .null, .null, .int 0]))] H := hP
  have hD : va_D A [(h0, .inr (5, [.ref q1, .ref q2, .ref q3, .ref q4, .ref q5, .null, .null, .int 0]))] := hD
  refine lv_aload_n hx hb d_Sy_init_45 rfl (lv_at hl 0 rfl) ?_
  refine lv_bipush (v := 64) hx hb d_Sy_init_46 (by decide) ?_
  refine x_newa (atype := .int) (ty := .int) (n := 64) (N' := 64) (a0 := (64, .inl (fun _ => 0))) hx hb (hts _ w_43) rfl hK hP hD hS hA (fun _ => rfl) (by decide) (by decide) (by decide) (Nat.le_of_ble_eq_true rfl) (Nat.le_of_ble_eq_true rfl) d_Sy_init_48 (fun q6 H hP hD hS => ?_)
  refine W.widen (k := 6) (n := 1856) (by omega) (by omega) ?_
  refine va_putF (D := D) (ci := 5) (v := .ref q6) (ty := .array .int) (C := R_Sy) (T := F_Sy) (N := 8) hx hb hts i_Sy t_Sy t_Sy_ok n_Sy hown hK hP hD hS 0 rfl rfl 5 (by decide) (hts _ w_67) (fun _ h9 => h9) rfl hin rfl (by decide +kernel) rfl rfl (Nat.le_of_ble_eq_true rfl) d_Sy_init_50 (fun H locs hP hD hS => ?_)
  have hP : va_P D cls [(h0, .inr (5, [.ref q1, .ref q2, .ref q3, .ref q4, .ref q5, .ref q6, .null, .int 0]))] H := hP
  have hD : va_D A [(h0, .inr (5, [.ref q1, .ref q2, .ref q3, .ref q4, .ref q5, .ref q6, .null, .int 0]))] := hD
  refine lv_aload_n hx hb d_Sy_init_53 rfl (lv_at hl 0 rfl) ?_
  refine lv_bipush (v := 64) hx hb d_Sy_init_54 (by decide) ?_
  refine x_newa (atype := .int) (ty := .int) (n := 64) (N' := 64) (a0 := (64, .inl (fun _ => 0))) hx hb (hts _ w_43) rfl hK hP hD hS hA (fun _ => rfl) (by decide) (by decide) (by decide) (Nat.le_of_ble_eq_true rfl) (Nat.le_of_ble_eq_true rfl) d_Sy_init_56 (fun q7 H hP hD hS => ?_)
  refine W.widen (k := 7) (n := 1920) (by omega) (by omega) ?_
  refine va_putF (D := D) (ci := 5) (v := .ref q7) (ty := .array .int) (C := R_Sy) (T := F_Sy) (N := 8) hx hb hts i_Sy t_Sy t_Sy_ok n_Sy hown hK hP hD hS 0 rfl rfl 6 (by decide) (hts _ w_69) (fun _ h9 => h9) rfl hin rfl (by decide +kernel) rfl rfl (Nat.le_of_ble_eq_true rfl) d_Sy_init_58 (fun H locs hP hD hS => ?_)
  have hP : va_P D cls [(h0, .inr (5, [.ref q1, .ref q2, .ref q3, .ref q4, .ref q5, .ref q6, .ref q7, .int 0]))] H := hP
  have hD : va_D A [(h0, .inr (5, [.ref q1, .ref q2, .ref q3, .ref q4, .ref q5, .ref q6, .ref q7, .int 0]))] := hD
  refine lv_aload_n hx hb d_Sy_init_61 rfl (lv_at hl 0 rfl) ?_
  refine lv_iconst (v := 0) hx hb d_Sy_init_62 (by decide) ?_
  refine va_put (D := D) (ci := 5) (v := .int 0) (ty := .int) (C := R_Sy) (T := F_Sy) (N := 8) hx hb hts i_Sy t_Sy t_Sy_ok n_Sy hown hK hP hD hS 0 rfl rfl 7 (by decide) (hts _ w_70) (fun _ h9 => h9) rfl (by decide +kernel) rfl rfl (Nat.le_of_ble_eq_true rfl) d_Sy_init_63 (fun H locs hP hD hS => ?_)
  have hP : va_P D cls [(h0, .inr (5, [.ref q1, .ref q2, .ref q3, .ref q4, .ref q5, .ref q6, .ref q7, .int 0]))] H := hP
  have hD : va_D A [(h0, .inr (5, [.ref q1, .ref q2, .ref q3, .ref q4, .ref q5, .ref q6, .ref q7, .int 0]))] := hD
  exact xr_v hx hb hr hlocks hP hD hK hS (((fun k => [q1, q2, q3, q4, q5, q6, q7].getD k 0), (fun k => [].getD k 0))) [0] rfl rfl (by decide) [] rfl rfl d_Sy_init_66

theorem d_So_init_0 : decode b_So_init 0 = .ok (.aload_n 0, 1) := by decide +kernel
theorem d_So_init_1 : decode b_So_init 1 = .ok (.invokespecial 3, 3) := by decide +kernel
theorem d_So_init_4 : decode b_So_init 4 = .ok (.aload_n 0, 1) := by decide +kernel
theorem d_So_init_5 : decode b_So_init 5 = .ok (.sipush 8192, 3) := by decide +kernel
theorem d_So_init_8 : decode b_So_init 8 = .ok (.newarray .byte, 2) := by decide +kernel
theorem d_So_init_10 : decode b_So_init 10 = .ok (.putfield 9, 3) := by decide +kernel
theorem d_So_init_13 : decode b_So_init 13 = .ok (.aload_n 0, 1) := by decide +kernel
theorem d_So_init_14 : decode b_So_init 14 = .ok (.iconst 0, 1) := by decide +kernel
theorem d_So_init_15 : decode b_So_init 15 = .ok (.putfield 15, 3) := by decide +kernel
theorem d_So_init_18 : decode b_So_init 18 = .ok (.aload_n 0, 1) := by decide +kernel
theorem d_So_init_19 : decode b_So_init 19 = .ok (.sipush 8192, 3) := by decide +kernel
theorem d_So_init_22 : decode b_So_init 22 = .ok (.newarray .int, 2) := by decide +kernel
theorem d_So_init_24 : decode b_So_init 24 = .ok (.putfield 19, 3) := by decide +kernel
theorem d_So_init_27 : decode b_So_init 27 = .ok (.aload_n 0, 1) := by decide +kernel
theorem d_So_init_28 : decode b_So_init 28 = .ok (.sipush 8192, 3) := by decide +kernel
theorem d_So_init_31 : decode b_So_init 31 = .ok (.newarray .int, 2) := by decide +kernel
theorem d_So_init_33 : decode b_So_init 33 = .ok (.putfield 23, 3) := by decide +kernel
theorem d_So_init_36 : decode b_So_init 36 = .ok (.aload_n 0, 1) := by decide +kernel
theorem d_So_init_37 : decode b_So_init 37 = .ok (.sipush 8192, 3) := by decide +kernel
theorem d_So_init_40 : decode b_So_init 40 = .ok (.newarray .int, 2) := by decide +kernel
theorem d_So_init_42 : decode b_So_init 42 = .ok (.putfield 26, 3) := by decide +kernel
theorem d_So_init_45 : decode b_So_init 45 = .ok (.aload_n 0, 1) := by decide +kernel
theorem d_So_init_46 : decode b_So_init 46 = .ok (.iconst 0, 1) := by decide +kernel
theorem d_So_init_47 : decode b_So_init 47 = .ok (.putfield 29, 3) := by decide +kernel
theorem d_So_init_50 : decode b_So_init 50 = .ok (.aload_n 0, 1) := by decide +kernel
theorem d_So_init_51 : decode b_So_init 51 = .ok (.iconst 0, 1) := by decide +kernel
theorem d_So_init_52 : decode b_So_init 52 = .ok (.putfield 32, 3) := by decide +kernel
theorem d_So_init_55 : decode b_So_init 55 = .ok (.return_, 1) := by decide +kernel
set_option maxHeartbeats 4000000 in
set_option maxRecDepth 100000 in
theorem c_So_init (l : Launch) (D : va_G) (h0 : Nat) (sz : Nat) : Met l y_So_init (Cond.code y_So_init b_So_init 1 none :: bw) (xR 1 4 32768) (va_Pc [.ref h0] (xP D [] sz [(h0, .inr (4, [.null, .int 0, .int 0, .int 0, .null, .null, .null]))])) (xQ (S := ((Nat → Nat) × (Nat → ClassId))) (fun u => none) (fun u => [(h0, .inr (4, [.ref (u.1 0), .int 0, .int 0, .int 0, .ref (u.1 1), .ref (u.1 2), .ref (u.1 3)])), ((u.1 0), .inl ((u.2 0), 8192, .inl (fun _ => 0)))]) (fun u => [((u.2 0), .byte)]) D (va_A [(h0, .inr (4, [.null, .int 0, .int 0, .int 0, .null, .null, .null]))] sz)) 4 32768 (va_A [(h0, .inr (4, [.null, .int 0, .int 0, .int 0, .null, .null, .null]))] sz) := by
  refine Met.ofW (cc := b_So_init) (maxL := 1) (ret := none) (by decide) rfl ?_
  intro p e s m args below meth c s₁ B hml hv
  obtain ⟨rfl, hsz, hP, hK, hD0, hN, hZ⟩ := hv
  have hx := B.exec
  have hb := B.bytes
  have hr := B.returns
  have hlocks := B.notSynchronized
  have hts : ∀ w ∈ bw, w.before _ s = true := fun w h => atoms_spec (ws := Cond.code y_So_init b_So_init 1 none :: bw) B.pre w (List.mem_cons_of_mem _ h)
  have hown : s.vm.findClass "ObjectForge$Source" = some m.cls := findClass_of_methodNamed B.named
  have hin : meth.name = "<init>" := (name_of_methodNamed B.named B.method).1
  subst hsz
  have hP0 := hP
  have hD := hD0.self (sz := s.heap.size)
  generalize hAe : va_A [(h0, .inr (4, [.null, .int 0, .int 0, .int 0, .null, .null, .null]))] s.heap.size = A at hD hZ ⊢
  have hA : ∀ q : Nat, s.heap.size ≤ q → A q := fun q h => by rw [← hAe]; exact Or.inr h
  have hS : va_S A s.heap s.heap [] := va_S.rf
  have hl := lv_entry ([.ref h0]) (n := 1) (Nat.le_of_ble_eq_true rfl)
  rw [lg_entry_eq]
  generalize (lg_sl ([.ref h0]) ++ List.replicate (1 - (lg_sl ([.ref h0])).length) Slot.unset).toArray = ls at hl ⊢
  have hl : lv_has ls 1 [(0, .ref h0)] := hl
  refine lv_aload_n hx hb d_So_init_0 rfl (lv_at hl 0 rfl) ?_
  refine W.objInit hx hb hown (hts _ w_33) (hts _ w_22) (hts _ w_23) rfl (by rw [hml]; exact hl.1) rfl d_So_init_1 (Nat.le_of_ble_eq_true rfl) (Nat.le_of_ble_eq_true rfl) ?_
  refine W.eq (g2 := F0 m 4 ls []) rfl ?_
  refine lv_aload_n hx hb d_So_init_4 rfl (lv_at hl 0 rfl) ?_
  refine lv_sipush (v := 8192) hx hb d_So_init_5 (by decide) ?_
  refine va_newa (atype := .byte) (ty := .byte) (n := 8192) (N' := 8192) (a0 := (8192, .inl (fun _ => 0))) hx hb (hts _ w_42) rfl hK hP hD hS hA (fun _ => rfl) (by decide) (by decide) (by decide) (Nat.le_of_ble_eq_true rfl) (Nat.le_of_ble_eq_true rfl) d_So_init_8 (fun q1 cq1 H hK hP hD hS => ?_)
  have hP : va_P D cls [(h0, .inr (4, [.null, .int 0, .int 0, .int 0, .null, .null, .null])), (q1, .inl (cq1, 8192, .inl (fun _ => 0)))] H := hP
  have hD : va_D A [(h0, .inr (4, [.null, .int 0, .int 0, .int 0, .null, .null, .null])), (q1, .inl (cq1, 8192, .inl (fun _ => 0)))] := hD
  have hK : va_K D cls [(cq1, .byte)] s := hK
  refine W.widen (k := 1) (n := 8192) (by omega) (by omega) ?_
  refine va_putF (D := D) (ci := 4) (v := .ref q1) (ty := .array .byte) (C := R_So) (T := F_So) (N := 7) hx hb hts i_So t_So t_So_ok n_So hown hK hP hD hS 0 rfl rfl 0 (by decide) (hts _ w_34) (fun _ h9 => h9) rfl hin rfl (by decide +kernel) rfl rfl (Nat.le_of_ble_eq_true rfl) d_So_init_10 (fun H locs hP hD hS => ?_)
  have hP : va_P D cls [(h0, .inr (4, [.ref q1, .int 0, .int 0, .int 0, .null, .null, .null])), (q1, .inl (cq1, 8192, .inl (fun _ => 0)))] H := hP
  have hD : va_D A [(h0, .inr (4, [.ref q1, .int 0, .int 0, .int 0, .null, .null, .null])), (q1, .inl (cq1, 8192, .inl (fun _ => 0)))] := hD
  refine lv_aload_n hx hb d_So_init_13 rfl (lv_at hl 0 rfl) ?_
  refine lv_iconst (v := 0) hx hb d_So_init_14 (by decide) ?_
  refine va_put (D := D) (ci := 4) (v := .int 0) (ty := .int) (C := R_So) (T := F_So) (N := 7) hx hb hts i_So t_So t_So_ok n_So hown hK hP hD hS 0 rfl rfl 1 (by decide) (hts _ w_35) (fun _ h9 => h9) rfl (by decide +kernel) rfl rfl (Nat.le_of_ble_eq_true rfl) d_So_init_15 (fun H locs hP hD hS => ?_)
  have hP : va_P D cls [(h0, .inr (4, [.ref q1, .int 0, .int 0, .int 0, .null, .null, .null])), (q1, .inl (cq1, 8192, .inl (fun _ => 0)))] H := hP
  have hD : va_D A [(h0, .inr (4, [.ref q1, .int 0, .int 0, .int 0, .null, .null, .null])), (q1, .inl (cq1, 8192, .inl (fun _ => 0)))] := hD
  refine lv_aload_n hx hb d_So_init_18 rfl (lv_at hl 0 rfl) ?_
  refine lv_sipush (v := 8192) hx hb d_So_init_19 (by decide) ?_
  refine x_newa (atype := .int) (ty := .int) (n := 8192) (N' := 8192) (a0 := (8192, .inl (fun _ => 0))) hx hb (hts _ w_43) rfl hK hP hD hS hA (fun _ => rfl) (by decide) (by decide) (by decide) (Nat.le_of_ble_eq_true rfl) (Nat.le_of_ble_eq_true rfl) d_So_init_22 (fun q2 H hP hD hS => ?_)
  refine W.widen (k := 2) (n := 16384) (by omega) (by omega) ?_
  refine va_putF (D := D) (ci := 4) (v := .ref q2) (ty := .array .int) (C := R_So) (T := F_So) (N := 7) hx hb hts i_So t_So t_So_ok n_So hown hK hP hD hS 0 rfl rfl 4 (by decide) (hts _ w_37) (fun _ h9 => h9) rfl hin rfl (by decide +kernel) rfl rfl (Nat.le_of_ble_eq_true rfl) d_So_init_24 (fun H locs hP hD hS => ?_)
  have hP : va_P D cls [(h0, .inr (4, [.ref q1, .int 0, .int 0, .int 0, .ref q2, .null, .null])), (q1, .inl (cq1, 8192, .inl (fun _ => 0)))] H := hP
  have hD : va_D A [(h0, .inr (4, [.ref q1, .int 0, .int 0, .int 0, .ref q2, .null, .null])), (q1, .inl (cq1, 8192, .inl (fun _ => 0)))] := hD
  refine lv_aload_n hx hb d_So_init_27 rfl (lv_at hl 0 rfl) ?_
  refine lv_sipush (v := 8192) hx hb d_So_init_28 (by decide) ?_
  refine x_newa (atype := .int) (ty := .int) (n := 8192) (N' := 8192) (a0 := (8192, .inl (fun _ => 0))) hx hb (hts _ w_43) rfl hK hP hD hS hA (fun _ => rfl) (by decide) (by decide) (by decide) (Nat.le_of_ble_eq_true rfl) (Nat.le_of_ble_eq_true rfl) d_So_init_31 (fun q3 H hP hD hS => ?_)
  refine W.widen (k := 3) (n := 24576) (by omega) (by omega) ?_
  refine va_putF (D := D) (ci := 4) (v := .ref q3) (ty := .array .int) (C := R_So) (T := F_So) (N := 7) hx hb hts i_So t_So t_So_ok n_So hown hK hP hD hS 0 rfl rfl 5 (by decide) (hts _ w_38) (fun _ h9 => h9) rfl hin rfl (by decide +kernel) rfl rfl (Nat.le_of_ble_eq_true rfl) d_So_init_33 (fun H locs hP hD hS => ?_)
  have hP : va_P D cls [(h0, .inr (4, [.ref q1, .int 0, .int 0, .int 0, .ref q2, .ref q3, .null])), (q1, .inl (cq1, 8192, .inl (fun _ => 0)))] H := hP
  have hD : va_D A [(h0, .inr (4, [.ref q1, .int 0, .int 0, .int 0, .ref q2, .ref q3, .null])), (q1, .inl (cq1, 8192, .inl (fun _ => 0)))] := hD
  refine lv_aload_n hx hb d_So_init_36 rfl (lv_at hl 0 rfl) ?_
  refine lv_sipush (v := 8192) hx hb d_So_init_37 (by decide) ?_
  refine x_newa (atype := .int) (ty := .int) (n := 8192) (N' := 8192) (a0 := (8192, .inl (fun _ => 0))) hx hb (hts _ w_43) rfl hK hP hD hS hA (fun _ => rfl) (by decide) (by decide) (by decide) (Nat.le_of_ble_eq_true rfl) (Nat.le_of_ble_eq_true rfl) d_So_init_40 (fun q4 H hP hD hS => ?_)
  refine W.widen (k := 4) (n := 32768) (by omega) (by omega) ?_
  refine va_putF (D := D) (ci := 4) (v := .ref q4) (ty := .array .int) (C := R_So) (T := F_So) (N := 7) hx hb hts i_So t_So t_So_ok n_So hown hK hP hD hS 0 rfl rfl 6 (by decide) (hts _ w_39) (fun _ h9 => h9) rfl hin rfl (by decide +kernel) rfl rfl (Nat.le_of_ble_eq_true rfl) d_So_init_42 (fun H locs hP hD hS => ?_)
  have hP : va_P D cls [(h0, .inr (4, [.ref q1, .int 0, .int 0, .int 0, .ref q2, .ref q3, .ref q4])), (q1, .inl (cq1, 8192, .inl (fun _ => 0)))] H := hP
  have hD : va_D A [(h0, .inr (4, [.ref q1, .int 0, .int 0, .int 0, .ref q2, .ref q3, .ref q4])), (q1, .inl (cq1, 8192, .inl (fun _ => 0)))] := hD
  refine lv_aload_n hx hb d_So_init_45 rfl (lv_at hl 0 rfl) ?_
  refine lv_iconst (v := 0) hx hb d_So_init_46 (by decide) ?_
  refine va_put (D := D) (ci := 4) (v := .int 0) (ty := .int) (C := R_So) (T := F_So) (N := 7) hx hb hts i_So t_So t_So_ok n_So hown hK hP hD hS 0 rfl rfl 2 (by decide) (hts _ w_40) (fun _ h9 => h9) rfl (by decide +kernel) rfl rfl (Nat.le_of_ble_eq_true rfl) d_So_init_47 (fun H locs hP hD hS => ?_)
  have hP : va_P D cls [(h0, .inr (4, [.ref q1, .int 0, .int 0, .int 0, .ref q2, .ref q3, .ref q4])), (q1, .inl (cq1, 8192, .inl (fun _ => 0)))] H := hP
  have hD : va_D A [(h0, .inr (4, [.ref q1, .int 0, .int 0, .int 0, .ref q2, .ref q3, .ref q4])), (q1, .inl (cq1, 8192, .inl (fun _ => 0)))] := hD
  refine lv_aload_n hx hb d_So_init_50 rfl (lv_at hl 0 rfl) ?_
  refine lv_iconst (v := 0) hx hb d_So_init_51 (by decide) ?_
  refine va_put (D := D) (ci := 4) (v := .int 0) (ty := .int) (C := R_So) (T := F_So) (N := 7) hx hb hts i_So t_So t_So_ok n_So hown hK hP hD hS 0 rfl rfl 3 (by decide) (hts _ w_41) (fun _ h9 => h9) rfl (by decide +kernel) rfl rfl (Nat.le_of_ble_eq_true rfl) d_So_init_52 (fun H locs hP hD hS => ?_)
  have hP : va_P D cls [(h0, .inr (4, [.ref q1, .int 0, .int 0, .int 0, .ref q2, .ref q3, .ref q4])), (q1, .inl (cq1, 8192, .inl (fun _ => 0)))] H := hP
  have hD : va_D A [(h0, .inr (4, [.ref q1, .int 0, .int 0, .int 0, .ref q2, .ref q3, .ref q4])), (q1, .inl (cq1, 8192, .inl (fun _ => 0)))] := hD
  exact xr_v hx hb hr hlocks hP hD hK hS (((fun k => [q1, q2, q3, q4].getD k 0), (fun k => [cq1].getD k 0))) [0, 1] rfl rfl (by decide) [0] rfl rfl d_So_init_55

theorem d_Un_init_0 : decode b_Un_init 0 = .ok (.aload_n 0, 1) := by decide +kernel
theorem d_Un_init_1 : decode b_Un_init 1 = .ok (.invokespecial 3, 3) := by decide +kernel
theorem d_Un_init_4 : decode b_Un_init 4 = .ok (.aload_n 0, 1) := by decide +kernel
theorem d_Un_init_5 : decode b_Un_init 5 = .ok (.iconst 2, 1) := by decide +kernel
theorem d_Un_init_6 : decode b_Un_init 6 = .ok (.sipush 4096, 3) := by decide +kernel
theorem d_Un_init_9 : decode b_Un_init 9 = .ok (.multianewarray 9 2, 4) := by decide +kernel
theorem d_Un_init_13 : decode b_Un_init 13 = .ok (.putfield 11, 3) := by decide +kernel
theorem d_Un_init_16 : decode b_Un_init 16 = .ok (.aload_n 0, 1) := by decide +kernel
theorem d_Un_init_17 : decode b_Un_init 17 = .ok (.iconst 3, 1) := by decide +kernel
theorem d_Un_init_18 : decode b_Un_init 18 = .ok (.newarray .int, 2) := by decide +kernel
theorem d_Un_init_20 : decode b_Un_init 20 = .ok (.putfield 16, 3) := by decide +kernel
theorem d_Un_init_23 : decode b_Un_init 23 = .ok (.aload_n 0, 1) := by decide +kernel
theorem d_Un_init_24 : decode b_Un_init 24 = .ok (.iconst 3, 1) := by decide +kernel
theorem d_Un_init_25 : decode b_Un_init 25 = .ok (.newarray .int, 2) := by decide +kernel
theorem d_Un_init_27 : decode b_Un_init 27 = .ok (.putfield 20, 3) := by decide +kernel
theorem d_Un_init_30 : decode b_Un_init 30 = .ok (.aload_n 0, 1) := by decide +kernel
theorem d_Un_init_31 : decode b_Un_init 31 = .ok (.new 23, 3) := by decide +kernel
theorem d_Un_init_34 : decode b_Un_init 34 = .ok (.dup, 1) := by decide +kernel
theorem d_Un_init_35 : decode b_Un_init 35 = .ok (.invokespecial 25, 3) := by decide +kernel
theorem d_Un_init_38 : decode b_Un_init 38 = .ok (.putfield 26, 3) := by decide +kernel
theorem d_Un_init_41 : decode b_Un_init 41 = .ok (.aload_n 0, 1) := by decide +kernel
theorem d_Un_init_42 : decode b_Un_init 42 = .ok (.new 30, 3) := by decide +kernel
theorem d_Un_init_45 : decode b_Un_init 45 = .ok (.dup, 1) := by decide +kernel
theorem d_Un_init_46 : decode b_Un_init 46 = .ok (.invokespecial 32, 3) := by decide +kernel
theorem d_Un_init_49 : decode b_Un_init 49 = .ok (.putfield 33, 3) := by decide +kernel
theorem d_Un_init_52 : decode b_Un_init 52 = .ok (.return_, 1) := by decide +kernel
set_option maxHeartbeats 4000000 in
set_option maxRecDepth 100000 in
theorem c_Un_init (l : Launch) (D : va_G) (h0 : Nat) (sz : Nat) : Met l y_Un_init (Cond.code y_Un_init b_Un_init 1 none :: bw) (xR 2 20 11671) (va_Pc [.ref h0] (xP D [] sz [(h0, .inr (6, [.null, .null, .null, .null, .null]))])) (xQ (S := ((Nat → Nat) × (Nat → ClassId))) (fun u => none) (fun u => [(h0, .inr (6, [.ref (u.1 0), .ref (u.1 1), .ref (u.1 2), .ref (u.1 3), .ref (u.1 4)])), ((u.1 1), .inl ((u.2 0), 3, .inl (fun _ => 0))), ((u.1 3), .inr (5, [.ref (u.1 5), .ref (u.1 6), .ref (u.1 7), .ref (u.1 8), .ref (u.1 9), .ref (u.1 10), .ref (u.1 11), .int 0])), ((u.1 4), .inr (3, [.ref (u.1 12), .ref (u.1 13), .ref (u.1 14), .ref (u.1 15), .ref (u.1 16), .ref (u.1 17), .int 0]))]) (fun u => [((u.2 0), .int)]) D (va_A [(h0, .inr (6, [.null, .null, .null, .null, .null]))] sz)) 20 11671 (va_A [(h0, .inr (6, [.null, .null, .null, .null, .null]))] sz) := by
  refine Met.ofW (cc := b_Un_init) (maxL := 1) (ret := none) (by decide) rfl ?_
  intro p e s m args below meth c s₁ B hml hv
  obtain ⟨rfl, hsz, hP, hK, hD0, hN, hZ⟩ := hv
  have hx := B.exec
  have hb := B.bytes
  have hr := B.returns
  have hlocks := B.notSynchronized
  have hts : ∀ w ∈ bw, w.before _ s = true := fun w h => atoms_spec (ws := Cond.code y_Un_init b_Un_init 1 none :: bw) B.pre w (List.mem_cons_of_mem _ h)
  have hown : s.vm.findClass "ObjectForge$Unit" = some m.cls := findClass_of_methodNamed B.named
  have hin : meth.name = "<init>" := (name_of_methodNamed B.named B.method).1
  subst hsz
  have hP0 := hP
  have hD := hD0.self (sz := s.heap.size)
  generalize hAe : va_A [(h0, .inr (6, [.null, .null, .null, .null, .null]))] s.heap.size = A at hD hZ ⊢
  have hA : ∀ q : Nat, s.heap.size ≤ q → A q := fun q h => by rw [← hAe]; exact Or.inr h
  have hS : va_S A s.heap s.heap [] := va_S.rf
  have hl := lv_entry ([.ref h0]) (n := 1) (Nat.le_of_ble_eq_true rfl)
  rw [lg_entry_eq]
  generalize (lg_sl ([.ref h0]) ++ List.replicate (1 - (lg_sl ([.ref h0])).length) Slot.unset).toArray = ls at hl ⊢
  have hl : lv_has ls 1 [(0, .ref h0)] := hl
  refine lv_aload_n hx hb d_Un_init_0 rfl (lv_at hl 0 rfl) ?_
  refine W.objInit hx hb hown (hts _ w_48) (hts _ w_22) (hts _ w_23) rfl (by rw [hml]; exact hl.1) rfl d_Un_init_1 (Nat.le_of_ble_eq_true rfl) (Nat.le_of_ble_eq_true rfl) ?_
  refine W.eq (g2 := F0 m 4 ls []) rfl ?_
  refine lv_aload_n hx hb d_Un_init_4 rfl (lv_at hl 0 rfl) ?_
  refine lv_iconst (v := 2) hx hb d_Un_init_5 (by decide) ?_
  refine lv_sipush (v := 4096) hx hb d_Un_init_6 (by decide) ?_
  refine x_grid (n := 4096) (N := 4096) hx hb hown (hts _ w_49) hN.2.2.2.2.2 hP hS (by decide) (by decide) (by decide) (Nat.le_of_ble_eq_true rfl) (Nat.le_of_ble_eq_true rfl) d_Un_init_9 (fun q1 H hP hS => ?_)
  refine W.widen (k := 3) (n := 8194) (by omega) (by omega) ?_
  refine va_putF (D := D) (ci := 6) (v := .ref q1) (ty := .array (.array .byte)) (C := R_Un) (T := F_Un) (N := 5) hx hb hts i_Un t_Un t_Un_ok n_Un hown hK hP hD hS 0 rfl rfl 0 (by decide) (hts _ w_101) (fun _ h9 => h9) rfl hin rfl (by decide +kernel) rfl rfl (Nat.le_of_ble_eq_true rfl) d_Un_init_13 (fun H locs hP hD hS => ?_)
  have hP : va_P D cls [(h0, .inr (6, [.ref q1, .null, .null, .null, .null]))] H := hP
  have hD : va_D A [(h0, .inr (6, [.ref q1, .null, .null, .null, .null]))] := hD
  refine lv_aload_n hx hb d_Un_init_16 rfl (lv_at hl 0 rfl) ?_
  refine lv_iconst (v := 3) hx hb d_Un_init_17 (by decide) ?_
  refine va_newa (atype := .int) (ty := .int) (n := 3) (N' := 3) (a0 := (3, .inl (fun _ => 0))) hx hb (hts _ w_43) rfl hK hP hD hS hA (fun _ => rfl) (by decide) (by decide) (by decide) (Nat.le_of_ble_eq_true rfl) (Nat.le_of_ble_eq_true rfl) d_Un_init_18 (fun q2 cq2 H hK hP hD hS => ?_)
  have hP : va_P D cls [(h0, .inr (6, [.ref q1, .null, .null, .null, .null])), (q2, .inl (cq2, 3, .inl (fun _ => 0)))] H := hP
  have hD : va_D A [(h0, .inr (6, [.ref q1, .null, .null, .null, .null])), (q2, .inl (cq2, 3, .inl (fun _ => 0)))] := hD
  have hK : va_K D cls [(cq2, .int)] s := hK
  refine W.widen (k := 4) (n := 8197) (by omega) (by omega) ?_
  refine va_putF (D := D) (ci := 6) (v := .ref q2) (ty := .array .int) (C := R_Un) (T := F_Un) (N := 5) hx hb hts i_Un t_Un t_Un_ok n_Un hown hK hP hD hS 0 rfl rfl 1 (by decide) (hts _ w_103) (fun _ h9 => h9) rfl hin rfl (by decide +kernel) rfl rfl (Nat.le_of_ble_eq_true rfl) d_Un_init_20 (fun H locs hP hD hS => ?_)
  have hP : va_P D cls [(h0, .inr (6, [.ref q1, .ref q2, .null, .null, .null])), (q2, .inl (cq2, 3, .inl (fun _ => 0)))] H := hP
  have hD : va_D A [(h0, .inr (6, [.ref q1, .ref q2, .null, .null, .null])), (q2, .inl (cq2, 3, .inl (fun _ => 0)))] := hD
  refine lv_aload_n hx hb d_Un_init_23 rfl (lv_at hl 0 rfl) ?_
  refine lv_iconst (v := 3) hx hb d_Un_init_24 (by decide) ?_
  refine x_newa (atype := .int) (ty := .int) (n := 3) (N' := 3) (a0 := (3, .inl (fun _ => 0))) hx hb (hts _ w_43) rfl hK hP hD hS hA (fun _ => rfl) (by decide) (by decide) (by decide) (Nat.le_of_ble_eq_true rfl) (Nat.le_of_ble_eq_true rfl) d_Un_init_25 (fun q3 H hP hD hS => ?_)
  refine W.widen (k := 5) (n := 8200) (by omega) (by omega) ?_
  refine va_putF (D := D) (ci := 6) (v := .ref q3) (ty := .array .int) (C := R_Un) (T := F_Un) (N := 5) hx hb hts i_Un t_Un t_Un_ok n_Un hown hK hP hD hS 0 rfl rfl 2 (by decide) (hts _ w_106) (fun _ h9 => h9) rfl hin rfl (by decide +kernel) rfl rfl (Nat.le_of_ble_eq_true rfl) d_Un_init_27 (fun H locs hP hD hS => ?_)
  have hP : va_P D cls [(h0, .inr (6, [.ref q1, .ref q2, .ref q3, .null, .null])), (q2, .inl (cq2, 3, .inl (fun _ => 0)))] H := hP
  have hD : va_D A [(h0, .inr (6, [.ref q1, .ref q2, .ref q3, .null, .null])), (q2, .inl (cq2, 3, .inl (fun _ => 0)))] := hD
  refine lv_aload_n hx hb d_Un_init_30 rfl (lv_at hl 0 rfl) ?_
  refine va_new (ci := 5) (fs := [.null, .null, .null, .null, .null, .null, .null, .int 0]) (C := R_Sy) (T := F_Sy) (N := 8) hx hb hts i_Sy t_Sy t_Sy_ok hown (hts _ w_50) (hts _ w_51) (hts _ w_5) hK hP hD hS hA rfl (by decide) (Nat.le_of_ble_eq_true rfl) (Nat.le_of_ble_eq_true rfl) d_Un_init_31 (fun q4 H hP hD hS => ?_)
  have hP : va_P D cls [(h0, .inr (6, [.ref q1, .ref q2, .ref q3, .null, .null])), (q2, .inl (cq2, 3, .inl (fun _ => 0))), (q4, .inr (5, [.null, .null, .null, .null, .null, .null, .null, .int 0]))] H := hP
  have hD : va_D A [(h0, .inr (6, [.ref q1, .ref q2, .ref q3, .null, .null])), (q2, .inl (cq2, 3, .inl (fun _ => 0))), (q4, .inr (5, [.null, .null, .null, .null, .null, .null, .null, .int 0]))] := hD
  refine W.widen (k := 6) (n := 8208) (by omega) (by omega) ?_
  refine lv_dup hx hb d_Un_init_34 rfl ?_
  refine xc_IN (As := []) (rest := [.ref q4, .ref h0]) (wc := [(q4, .inr (5, [.null, .null, .null, .null, .null, .null, .null, .int 0]))]) (wr := [(h0, .inr (6, [.ref q1, .ref q2, .ref q3, .null, .null])), (q2, .inl (cq2, 3, .inl (fun _ => 0)))]) (tc := []) (tr := [(cq2, .int)]) ⟨hx, hb, hml, hown, hts⟩ (c_Sy_init l D q4 H.size) rfl rfl rfl w_53 (by simp [xnM]) w_52 w_5 (by decide +kernel) ⟨Nat.le_of_ble_eq_true rfl, Nat.le_of_ble_eq_true rfl⟩ hP hD hK hS hA hN hZ [2] [0, 1] rfl rfl (by decide) (by decide) (by decide) [] [0] rfl rfl rfl hl.1 rfl (Nat.le_of_ble_eq_true rfl) d_Un_init_35 ⟨Nat.le_of_ble_eq_true rfl, Nat.le_of_ble_eq_true rfl⟩ (fun u5 H locs hP hD hK hS => ?_)
  have hP : va_P D cls [(h0, .inr (6, [.ref q1, .ref q2, .ref q3, .null, .null])), (q2, .inl (cq2, 3, .inl (fun _ => 0))), (q4, .inr (5, [.ref (u5.1 0), .ref (u5.1 1), .ref (u5.1 2), .ref (u5.1 3), .ref (u5.1 4), .ref (u5.1 5), .ref (u5.1 6), .int 0]))] H := hP
  have hD : va_D A [(h0, .inr (6, [.ref q1, .ref q2, .ref q3, .null, .null])), (q2, .inl (cq2, 3, .inl (fun _ => 0))), (q4, .inr (5, [.ref (u5.1 0), .ref (u5.1 1), .ref (u5.1 2), .ref (u5.1 3), .ref (u5.1 4), .ref (u5.1 5), .ref (u5.1 6), .int 0]))] := hD
  have hK : va_K D cls [(cq2, .int)] s := hK
  refine W.widen (k := 13) (n := 10128) (by omega) (by omega) ?_
  refine W.eq (g2 := F0 m 38 ls [.ref q4, .ref h0]) rfl ?_
  refine va_putF (D := D) (ci := 6) (v := .ref q4) (ty := .object "ObjectForge$Symbols") (C := R_Un) (T := F_Un) (N := 5) hx hb hts i_Un t_Un t_Un_ok n_Un hown hK hP hD hS 0 rfl rfl 3 (by decide) (hts _ w_107) (fun _ h9 => h9) rfl hin rfl (by decide +kernel) rfl rfl (Nat.le_of_ble_eq_true rfl) d_Un_init_38 (fun H locs hP hD hS => ?_)
  have hP : va_P D cls [(h0, .inr (6, [.ref q1, .ref q2, .ref q3, .ref q4, .null])), (q2, .inl (cq2, 3, .inl (fun _ => 0))), (q4, .inr (5, [.ref (u5.1 0), .ref (u5.1 1), .ref (u5.1 2), .ref (u5.1 3), .ref (u5.1 4), .ref (u5.1 5), .ref (u5.1 6), .int 0]))] H := hP
  have hD : va_D A [(h0, .inr (6, [.ref q1, .ref q2, .ref q3, .ref q4, .null])), (q2, .inl (cq2, 3, .inl (fun _ => 0))), (q4, .inr (5, [.ref (u5.1 0), .ref (u5.1 1), .ref (u5.1 2), .ref (u5.1 3), .ref (u5.1 4), .ref (u5.1 5), .ref (u5.1 6), .int 0]))] := hD
  refine lv_aload_n hx hb d_Un_init_41 rfl (lv_at hl 0 rfl) ?_
  refine va_new (ci := 3) (fs := [.null, .null, .null, .null, .null, .null, .int 0]) (C := R_Re) (T := F_Re) (N := 7) hx hb hts i_Re t_Re t_Re_ok hown (hts _ w_75) (hts _ w_76) (hts _ w_6) hK hP hD hS hA rfl (by decide) (Nat.le_of_ble_eq_true rfl) (Nat.le_of_ble_eq_true rfl) d_Un_init_42 (fun q6 H hP hD hS => ?_)
  have hP : va_P D cls [(h0, .inr (6, [.ref q1, .ref q2, .ref q3, .ref q4, .null])), (q2, .inl (cq2, 3, .inl (fun _ => 0))), (q4, .inr (5, [.ref (u5.1 0), .ref (u5.1 1), .ref (u5.1 2), .ref (u5.1 3), .ref (u5.1 4), .ref (u5.1 5), .ref (u5.1 6), .int 0])), (q6, .inr (3, [.null, .null, .null, .null, .null, .null, .int 0]))] H := hP
  have hD : va_D A [(h0, .inr (6, [.ref q1, .ref q2, .ref q3, .ref q4, .null])), (q2, .inl (cq2, 3, .inl (fun _ => 0))), (q4, .inr (5, [.ref (u5.1 0), .ref (u5.1 1), .ref (u5.1 2), .ref (u5.1 3), .ref (u5.1 4), .ref (u5.1 5), .ref (u5.1 6), .int 0])), (q6, .inr (3, [.null, .null, .null, .null, .null, .null, .int 0]))] := hD
  refine W.widen (k := 14) (n := 10135) (by omega) (by omega) ?_
  refine lv_dup hx hb d_Un_init_45 rfl ?_
  refine xc_IN (As := []) (rest := [.ref q6, .ref h0]) (wc := [(q6, .inr (3, [.null, .null, .null, .null, .null, .null, .int 0]))]) (wr := [(h0, .inr (6, [.ref q1, .ref q2, .ref q3, .ref q4, .null])), (q2, .inl (cq2, 3, .inl (fun _ => 0))), (q4, .inr (5, [.ref (u5.1 0), .ref (u5.1 1), .ref (u5.1 2), .ref (u5.1 3), .ref (u5.1 4), .ref (u5.1 5), .ref (u5.1 6), .int 0]))]) (tc := []) (tr := [(cq2, .int)]) ⟨hx, hb, hml, hown, hts⟩ (c_Re_init l D q6 H.size) rfl rfl rfl w_78 (by simp [xnM]) w_77 w_6 (by decide +kernel) ⟨Nat.le_of_ble_eq_true rfl, Nat.le_of_ble_eq_true rfl⟩ hP hD hK hS hA hN hZ [3] [0, 1, 2] rfl rfl (by decide) (by decide) (by decide) [] [0] rfl rfl rfl hl.1 rfl (Nat.le_of_ble_eq_true rfl) d_Un_init_46 ⟨Nat.le_of_ble_eq_true rfl, Nat.le_of_ble_eq_true rfl⟩ (fun u7 H locs hP hD hK hS => ?_)
  have hP : va_P D cls [(h0, .inr (6, [.ref q1, .ref q2, .ref q3, .ref q4, .null])), (q2, .inl (cq2, 3, .inl (fun _ => 0))), (q4, .inr (5, [.ref (u5.1 0), .ref (u5.1 1), .ref (u5.1 2), .ref (u5.1 3), .ref (u5.1 4), .ref (u5.1 5), .ref (u5.1 6), .int 0])), (q6, .inr (3, [.ref (u7.1 0), .ref (u7.1 1), .ref (u7.1 2), .ref (u7.1 3), .ref (u7.1 4), .ref (u7.1 5), .int 0]))] H := hP
  have hD : va_D A [(h0, .inr (6, [.ref q1, .ref q2, .ref q3, .ref q4, .null])), (q2, .inl (cq2, 3, .inl (fun _ => 0))), (q4, .inr (5, [.ref (u5.1 0), .ref (u5.1 1), .ref (u5.1 2), .ref (u5.1 3), .ref (u5.1 4), .ref (u5.1 5), .ref (u5.1 6), .int 0])), (q6, .inr (3, [.ref (u7.1 0), .ref (u7.1 1), .ref (u7.1 2), .ref (u7.1 3), .ref (u7.1 4), .ref (u7.1 5), .int 0]))] := hD
  have hK : va_K D cls [(cq2, .int)] s := hK
  refine W.widen (k := 20) (n := 11671) (by omega) (by omega) ?_
  refine W.eq (g2 := F0 m 49 ls [.ref q6, .ref h0]) rfl ?_
  refine va_putF (D := D) (ci := 6) (v := .ref q6) (ty := .object "ObjectForge$Relocations") (C := R_Un) (T := F_Un) (N := 5) hx hb hts i_Un t_Un t_Un_ok n_Un hown hK hP hD hS 0 rfl rfl 4 (by decide) (hts _ w_110) (fun _ h9 => h9) rfl hin rfl (by decide +kernel) rfl rfl (Nat.le_of_ble_eq_true rfl) d_Un_init_49 (fun H locs hP hD hS => ?_)
  have hP : va_P D cls [(h0, .inr (6, [.ref q1, .ref q2, .ref q3, .ref q4, .ref q6])), (q2, .inl (cq2, 3, .inl (fun _ => 0))), (q4, .inr (5, [.ref (u5.1 0), .ref (u5.1 1), .ref (u5.1 2), .ref (u5.1 3), .ref (u5.1 4), .ref (u5.1 5), .ref (u5.1 6), .int 0])), (q6, .inr (3, [.ref (u7.1 0), .ref (u7.1 1), .ref (u7.1 2), .ref (u7.1 3), .ref (u7.1 4), .ref (u7.1 5), .int 0]))] H := hP
  have hD : va_D A [(h0, .inr (6, [.ref q1, .ref q2, .ref q3, .ref q4, .ref q6])), (q2, .inl (cq2, 3, .inl (fun _ => 0))), (q4, .inr (5, [.ref (u5.1 0), .ref (u5.1 1), .ref (u5.1 2), .ref (u5.1 3), .ref (u5.1 4), .ref (u5.1 5), .ref (u5.1 6), .int 0])), (q6, .inr (3, [.ref (u7.1 0), .ref (u7.1 1), .ref (u7.1 2), .ref (u7.1 3), .ref (u7.1 4), .ref (u7.1 5), .int 0]))] := hD
  exact xr_v hx hb hr hlocks hP hD hK hS (((fun k => [q1, q2, q3, q4, q6, (u5.1 0), (u5.1 1), (u5.1 2), (u5.1 3), (u5.1 4), (u5.1 5), (u5.1 6), (u7.1 0), (u7.1 1), (u7.1 2), (u7.1 3), (u7.1 4), (u7.1 5)].getD k 0), (fun k => [cq2].getD k 0))) [0, 1, 2, 3] rfl rfl (by decide) [0] rfl rfl d_Un_init_52

theorem d_Li_init_0 : decode b_Li_init 0 = .ok (.aload_n 0, 1) := by decide +kernel
theorem d_Li_init_1 : decode b_Li_init 1 = .ok (.invokespecial 3, 3) := by decide +kernel
theorem d_Li_init_4 : decode b_Li_init 4 = .ok (.aload_n 0, 1) := by decide +kernel
theorem d_Li_init_5 : decode b_Li_init 5 = .ok (.ldc 9, 2) := by decide +kernel
theorem d_Li_init_7 : decode b_Li_init 7 = .ok (.newarray .byte, 2) := by decide +kernel
theorem d_Li_init_9 : decode b_Li_init 9 = .ok (.putfield 10, 3) := by decide +kernel
theorem d_Li_init_12 : decode b_Li_init 12 = .ok (.aload_n 0, 1) := by decide +kernel
theorem d_Li_init_13 : decode b_Li_init 13 = .ok (.iconst 0, 1) := by decide +kernel
theorem d_Li_init_14 : decode b_Li_init 14 = .ok (.putfield 16, 3) := by decide +kernel
theorem d_Li_init_17 : decode b_Li_init 17 = .ok (.aload_n 0, 1) := by decide +kernel
theorem d_Li_init_18 : decode b_Li_init 18 = .ok (.iconst 0, 1) := by decide +kernel
theorem d_Li_init_19 : decode b_Li_init 19 = .ok (.putfield 20, 3) := by decide +kernel
theorem d_Li_init_22 : decode b_Li_init 22 = .ok (.aload_n 0, 1) := by decide +kernel
theorem d_Li_init_23 : decode b_Li_init 23 = .ok (.iconst 0, 1) := by decide +kernel
theorem d_Li_init_24 : decode b_Li_init 24 = .ok (.putfield 23, 3) := by decide +kernel
theorem d_Li_init_27 : decode b_Li_init 27 = .ok (.aload_n 0, 1) := by decide +kernel
theorem d_Li_init_28 : decode b_Li_init 28 = .ok (.iconst 0, 1) := by decide +kernel
theorem d_Li_init_29 : decode b_Li_init 29 = .ok (.putfield 26, 3) := by decide +kernel
theorem d_Li_init_32 : decode b_Li_init 32 = .ok (.aload_n 0, 1) := by decide +kernel
theorem d_Li_init_33 : decode b_Li_init 33 = .ok (.iconst (-1), 1) := by decide +kernel
theorem d_Li_init_34 : decode b_Li_init 34 = .ok (.putfield 29, 3) := by decide +kernel
theorem d_Li_init_37 : decode b_Li_init 37 = .ok (.aload_n 0, 1) := by decide +kernel
theorem d_Li_init_38 : decode b_Li_init 38 = .ok (.iconst (-1), 1) := by decide +kernel
theorem d_Li_init_39 : decode b_Li_init 39 = .ok (.putfield 32, 3) := by decide +kernel
theorem d_Li_init_42 : decode b_Li_init 42 = .ok (.return_, 1) := by decide +kernel
set_option maxHeartbeats 4000000 in
set_option maxRecDepth 100000 in
theorem c_Li_init (l : Launch) (D : va_G) (h0 : Nat) (sz : Nat) : Met l y_Li_init (Cond.code y_Li_init b_Li_init 1 none :: bw) (xR 1 1 32768) (va_Pc [.ref h0] (xP D [] sz [(h0, .inr (2, [.null, .int 0, .int 0, .int 0, .int 0, .int 0, .int 0]))])) (xQ (S := ((Nat → Nat) × (Nat → ClassId))) (fun u => none) (fun u => [(h0, .inr (2, [.ref (u.1 0), .int 0, .int 0, .int 0, .int 0, .int (-1), .int (-1)]))]) (fun u => []) D (va_A [(h0, .inr (2, [.null, .int 0, .int 0, .int 0, .int 0, .int 0, .int 0]))] sz)) 1 32768 (va_A [(h0, .inr (2, [.null, .int 0, .int 0, .int 0, .int 0, .int 0, .int 0]))] sz) := by
  refine Met.ofW (cc := b_Li_init) (maxL := 1) (ret := none) (by decide) rfl ?_
  intro p e s m args below meth c s₁ B hml hv
  obtain ⟨rfl, hsz, hP, hK, hD0, hN, hZ⟩ := hv
  have hx := B.exec
  have hb := B.bytes
  have hr := B.returns
  have hlocks := B.notSynchronized
  have hts : ∀ w ∈ bw, w.before _ s = true := fun w h => atoms_spec (ws := Cond.code y_Li_init b_Li_init 1 none :: bw) B.pre w (List.mem_cons_of_mem _ h)
  have hown : s.vm.findClass "ObjectForge$Linker" = some m.cls := findClass_of_methodNamed B.named
  have hin : meth.name = "<init>" := (name_of_methodNamed B.named B.method).1
  subst hsz
  have hP0 := hP
  have hD := hD0.self (sz := s.heap.size)
  generalize hAe : va_A [(h0, .inr (2, [.null, .int 0, .int 0, .int 0, .int 0, .int 0, .int 0]))] s.heap.size = A at hD hZ ⊢
  have hA : ∀ q : Nat, s.heap.size ≤ q → A q := fun q h => by rw [← hAe]; exact Or.inr h
  have hS : va_S A s.heap s.heap [] := va_S.rf
  have hl := lv_entry ([.ref h0]) (n := 1) (Nat.le_of_ble_eq_true rfl)
  rw [lg_entry_eq]
  generalize (lg_sl ([.ref h0]) ++ List.replicate (1 - (lg_sl ([.ref h0])).length) Slot.unset).toArray = ls at hl ⊢
  have hl : lv_has ls 1 [(0, .ref h0)] := hl
  refine lv_aload_n hx hb d_Li_init_0 rfl (lv_at hl 0 rfl) ?_
  refine W.objInit hx hb hown (hts _ w_136) (hts _ w_22) (hts _ w_23) rfl (by rw [hml]; exact hl.1) rfl d_Li_init_1 (Nat.le_of_ble_eq_true rfl) (Nat.le_of_ble_eq_true rfl) ?_
  refine W.eq (g2 := F0 m 4 ls []) rfl ?_
  refine lv_aload_n hx hb d_Li_init_4 rfl (lv_at hl 0 rfl) ?_
  refine lv_ldc (v := 32768) hx hb hown (hts _ w_137) d_Li_init_5 ?_
  refine x_newa (atype := .byte) (ty := .byte) (n := 32768) (N' := 32768) (a0 := (32768, .inl (fun _ => 0))) hx hb (hts _ w_42) rfl hK hP hD hS hA (fun _ => rfl) (by decide) (by decide) (by decide) (Nat.le_of_ble_eq_true rfl) (Nat.le_of_ble_eq_true rfl) d_Li_init_7 (fun q1 H hP hD hS => ?_)
  refine W.widen (k := 1) (n := 32768) (by omega) (by omega) ?_
  refine va_putF (D := D) (ci := 2) (v := .ref q1) (ty := .array .byte) (C := R_Li) (T := F_Li) (N := 7) hx hb hts i_Li t_Li t_Li_ok n_Li hown hK hP hD hS 0 rfl rfl 0 (by decide) (hts _ w_138) (fun _ h9 => h9) rfl hin rfl (by decide +kernel) rfl rfl (Nat.le_of_ble_eq_true rfl) d_Li_init_9 (fun H locs hP hD hS => ?_)
  have hP : va_P D cls [(h0, .inr (2, [.ref q1, .int 0, .int 0, .int 0, .int 0, .int 0, .int 0]))] H := hP
  have hD : va_D A [(h0, .inr (2, [.ref q1, .int 0, .int 0, .int 0, .int 0, .int 0, .int 0]))] := hD
  refine lv_aload_n hx hb d_Li_init_12 rfl (lv_at hl 0 rfl) ?_
  refine lv_iconst (v := 0) hx hb d_Li_init_13 (by decide) ?_
  refine va_put (D := D) (ci := 2) (v := .int 0) (ty := .int) (C := R_Li) (T := F_Li) (N := 7) hx hb hts i_Li t_Li t_Li_ok n_Li hown hK hP hD hS 0 rfl rfl 1 (by decide) (hts _ w_139) (fun _ h9 => h9) rfl (by decide +kernel) rfl rfl (Nat.le_of_ble_eq_true rfl) d_Li_init_14 (fun H locs hP hD hS => ?_)
  have hP : va_P D cls [(h0, .inr (2, [.ref q1, .int 0, .int 0, .int 0, .int 0, .int 0, .int 0]))] H := hP
  have hD : va_D A [(h0, .inr (2, [.ref q1, .int 0, .int 0, .int 0, .int 0, .int 0, .int 0]))] := hD
  refine lv_aload_n hx hb d_Li_init_17 rfl (lv_at hl 0 rfl) ?_
  refine lv_iconst (v := 0) hx hb d_Li_init_18 (by decide) ?_
  refine va_put (D := D) (ci := 2) (v := .int 0) (ty := .int) (C := R_Li) (T := F_Li) (N := 7) hx hb hts i_Li t_Li t_Li_ok n_Li hown hK hP hD hS 0 rfl rfl 2 (by decide) (hts _ w_140) (fun _ h9 => h9) rfl (by decide +kernel) rfl rfl (Nat.le_of_ble_eq_true rfl) d_Li_init_19 (fun H locs hP hD hS => ?_)
  have hP : va_P D cls [(h0, .inr (2, [.ref q1, .int 0, .int 0, .int 0, .int 0, .int 0, .int 0]))] H := hP
  have hD : va_D A [(h0, .inr (2, [.ref q1, .int 0, .int 0, .int 0, .int 0, .int 0, .int 0]))] := hD
  refine lv_aload_n hx hb d_Li_init_22 rfl (lv_at hl 0 rfl) ?_
  refine lv_iconst (v := 0) hx hb d_Li_init_23 (by decide) ?_
  refine va_put (D := D) (ci := 2) (v := .int 0) (ty := .int) (C := R_Li) (T := F_Li) (N := 7) hx hb hts i_Li t_Li t_Li_ok n_Li hown hK hP hD hS 0 rfl rfl 3 (by decide) (hts _ w_141) (fun _ h9 => h9) rfl (by decide +kernel) rfl rfl (Nat.le_of_ble_eq_true rfl) d_Li_init_24 (fun H locs hP hD hS => ?_)
  have hP : va_P D cls [(h0, .inr (2, [.ref q1, .int 0, .int 0, .int 0, .int 0, .int 0, .int 0]))] H := hP
  have hD : va_D A [(h0, .inr (2, [.ref q1, .int 0, .int 0, .int 0, .int 0, .int 0, .int 0]))] := hD
  refine lv_aload_n hx hb d_Li_init_27 rfl (lv_at hl 0 rfl) ?_
  refine lv_iconst (v := 0) hx hb d_Li_init_28 (by decide) ?_
  refine va_put (D := D) (ci := 2) (v := .int 0) (ty := .int) (C := R_Li) (T := F_Li) (N := 7) hx hb hts i_Li t_Li t_Li_ok n_Li hown hK hP hD hS 0 rfl rfl 4 (by decide) (hts _ w_143) (fun _ h9 => h9) rfl (by decide +kernel) rfl rfl (Nat.le_of_ble_eq_true rfl) d_Li_init_29 (fun H locs hP hD hS => ?_)
  have hP : va_P D cls [(h0, .inr (2, [.ref q1, .int 0, .int 0, .int 0, .int 0, .int 0, .int 0]))] H := hP
  have hD : va_D A [(h0, .inr (2, [.ref q1, .int 0, .int 0, .int 0, .int 0, .int 0, .int 0]))] := hD
  refine lv_aload_n hx hb d_Li_init_32 rfl (lv_at hl 0 rfl) ?_
  refine lv_iconst (v := (-1)) hx hb d_Li_init_33 (by decide) ?_
  refine va_put (D := D) (ci := 2) (v := .int (-1)) (ty := .int) (C := R_Li) (T := F_Li) (N := 7) hx hb hts i_Li t_Li t_Li_ok n_Li hown hK hP hD hS 0 rfl rfl 5 (by decide) (hts _ w_145) (fun _ h9 => h9) rfl (by decide +kernel) rfl rfl (Nat.le_of_ble_eq_true rfl) d_Li_init_34 (fun H locs hP hD hS => ?_)
  have hP : va_P D cls [(h0, .inr (2, [.ref q1, .int 0, .int 0, .int 0, .int 0, .int (-1), .int 0]))] H := hP
  have hD : va_D A [(h0, .inr (2, [.ref q1, .int 0, .int 0, .int 0, .int 0, .int (-1), .int 0]))] := hD
  refine lv_aload_n hx hb d_Li_init_37 rfl (lv_at hl 0 rfl) ?_
  refine lv_iconst (v := (-1)) hx hb d_Li_init_38 (by decide) ?_
  refine va_put (D := D) (ci := 2) (v := .int (-1)) (ty := .int) (C := R_Li) (T := F_Li) (N := 7) hx hb hts i_Li t_Li t_Li_ok n_Li hown hK hP hD hS 0 rfl rfl 6 (by decide) (hts _ w_147) (fun _ h9 => h9) rfl (by decide +kernel) rfl rfl (Nat.le_of_ble_eq_true rfl) d_Li_init_39 (fun H locs hP hD hS => ?_)
  have hP : va_P D cls [(h0, .inr (2, [.ref q1, .int 0, .int 0, .int 0, .int 0, .int (-1), .int (-1)]))] H := hP
  have hD : va_D A [(h0, .inr (2, [.ref q1, .int 0, .int 0, .int 0, .int 0, .int (-1), .int (-1)]))] := hD
  exact xr_v hx hb hr hlocks hP hD hK hS (((fun k => [q1].getD k 0), (fun k => [].getD k 0))) [0] rfl rfl (by decide) [] rfl rfl d_Li_init_42

theorem d_As_init_0 : decode b_As_init 0 = .ok (.aload_n 0, 1) := by decide +kernel
theorem d_As_init_1 : decode b_As_init 1 = .ok (.invokespecial 3, 3) := by decide +kernel
theorem d_As_init_4 : decode b_As_init 4 = .ok (.aload_n 0, 1) := by decide +kernel
theorem d_As_init_5 : decode b_As_init 5 = .ok (.new 9, 3) := by decide +kernel
theorem d_As_init_8 : decode b_As_init 8 = .ok (.dup, 1) := by decide +kernel
theorem d_As_init_9 : decode b_As_init 9 = .ok (.invokespecial 11, 3) := by decide +kernel
theorem d_As_init_12 : decode b_As_init 12 = .ok (.putfield 12, 3) := by decide +kernel
theorem d_As_init_15 : decode b_As_init 15 = .ok (.aload_n 0, 1) := by decide +kernel
theorem d_As_init_16 : decode b_As_init 16 = .ok (.new 18, 3) := by decide +kernel
theorem d_As_init_19 : decode b_As_init 19 = .ok (.dup, 1) := by decide +kernel
theorem d_As_init_20 : decode b_As_init 20 = .ok (.invokespecial 20, 3) := by decide +kernel
theorem d_As_init_23 : decode b_As_init 23 = .ok (.putfield 21, 3) := by decide +kernel
theorem d_As_init_26 : decode b_As_init 26 = .ok (.aload_n 0, 1) := by decide +kernel
theorem d_As_init_27 : decode b_As_init 27 = .ok (.iconst 0, 1) := by decide +kernel
theorem d_As_init_28 : decode b_As_init 28 = .ok (.putfield 25, 3) := by decide +kernel
theorem d_As_init_31 : decode b_As_init 31 = .ok (.aload_n 0, 1) := by decide +kernel
theorem d_As_init_32 : decode b_As_init 32 = .ok (.iconst 0, 1) := by decide +kernel
theorem d_As_init_33 : decode b_As_init 33 = .ok (.putfield 29, 3) := by decide +kernel
theorem d_As_init_36 : decode b_As_init 36 = .ok (.aload_n 0, 1) := by decide +kernel
theorem d_As_init_37 : decode b_As_init 37 = .ok (.iconst 0, 1) := by decide +kernel
theorem d_As_init_38 : decode b_As_init 38 = .ok (.putfield 32, 3) := by decide +kernel
theorem d_As_init_41 : decode b_As_init 41 = .ok (.aload_n 0, 1) := by decide +kernel
theorem d_As_init_42 : decode b_As_init 42 = .ok (.iconst 0, 1) := by decide +kernel
theorem d_As_init_43 : decode b_As_init 43 = .ok (.putfield 35, 3) := by decide +kernel
theorem d_As_init_46 : decode b_As_init 46 = .ok (.aload_n 0, 1) := by decide +kernel
theorem d_As_init_47 : decode b_As_init 47 = .ok (.iconst 0, 1) := by decide +kernel
theorem d_As_init_48 : decode b_As_init 48 = .ok (.putfield 38, 3) := by decide +kernel
theorem d_As_init_51 : decode b_As_init 51 = .ok (.aload_n 0, 1) := by decide +kernel
theorem d_As_init_52 : decode b_As_init 52 = .ok (.iconst (-1), 1) := by decide +kernel
theorem d_As_init_53 : decode b_As_init 53 = .ok (.putfield 41, 3) := by decide +kernel
theorem d_As_init_56 : decode b_As_init 56 = .ok (.aload_n 0, 1) := by decide +kernel
theorem d_As_init_57 : decode b_As_init 57 = .ok (.lconst 0, 1) := by decide +kernel
theorem d_As_init_58 : decode b_As_init 58 = .ok (.putfield 44, 3) := by decide +kernel
theorem d_As_init_61 : decode b_As_init 61 = .ok (.aload_n 0, 1) := by decide +kernel
theorem d_As_init_62 : decode b_As_init 62 = .ok (.iconst 0, 1) := by decide +kernel
theorem d_As_init_63 : decode b_As_init 63 = .ok (.putfield 48, 3) := by decide +kernel
theorem d_As_init_66 : decode b_As_init 66 = .ok (.aload_n 0, 1) := by decide +kernel
theorem d_As_init_67 : decode b_As_init 67 = .ok (.iconst 0, 1) := by decide +kernel
theorem d_As_init_68 : decode b_As_init 68 = .ok (.putfield 51, 3) := by decide +kernel
theorem d_As_init_71 : decode b_As_init 71 = .ok (.aload_n 0, 1) := by decide +kernel
theorem d_As_init_72 : decode b_As_init 72 = .ok (.iconst 0, 1) := by decide +kernel
theorem d_As_init_73 : decode b_As_init 73 = .ok (.putfield 54, 3) := by decide +kernel
theorem d_As_init_76 : decode b_As_init 76 = .ok (.aload_n 0, 1) := by decide +kernel
theorem d_As_init_77 : decode b_As_init 77 = .ok (.iconst 0, 1) := by decide +kernel
theorem d_As_init_78 : decode b_As_init 78 = .ok (.putfield 57, 3) := by decide +kernel
theorem d_As_init_81 : decode b_As_init 81 = .ok (.aload_n 0, 1) := by decide +kernel
theorem d_As_init_82 : decode b_As_init 82 = .ok (.iconst (-1), 1) := by decide +kernel
theorem d_As_init_83 : decode b_As_init 83 = .ok (.putfield 60, 3) := by decide +kernel
theorem d_As_init_86 : decode b_As_init 86 = .ok (.aload_n 0, 1) := by decide +kernel
theorem d_As_init_87 : decode b_As_init 87 = .ok (.iconst (-1), 1) := by decide +kernel
theorem d_As_init_88 : decode b_As_init 88 = .ok (.putfield 63, 3) := by decide +kernel
theorem d_As_init_91 : decode b_As_init 91 = .ok (.return_, 1) := by decide +kernel
set_option maxHeartbeats 4000000 in
set_option maxRecDepth 100000 in
theorem c_As_init (l : Launch) (D : va_G) (h0 : Nat) (sz : Nat) : Met l y_As_init (Cond.code y_As_init b_As_init 1 none :: bw) (xR 3 26 44451) (va_Pc [.ref h0] (xP D [] sz [(h0, .inr (1, [.null, .null, .int 0, .int 0, .int 0, .int 0, .int 0, .int 0, .long 0, .int 0, .int 0, .int 0, .int 0, .int 0, .int 0]))])) (xQ (S := ((Nat → Nat) × (Nat → ClassId))) (fun u => none) (fun u => [(h0, .inr (1, [.ref (u.1 0), .ref (u.1 1), .int 0, .int 0, .int 0, .int 0, .int 0, .int (-1), .long 0, .int 0, .int 0, .int 0, .int 0, .int (-1), .int (-1)])), ((u.1 0), .inr (4, [.ref (u.1 2), .int 0, .int 0, .int 0, .ref (u.1 3), .ref (u.1 4), .ref (u.1 5)])), ((u.1 2), .inl ((u.2 0), 8192, .inl (fun _ => 0))), ((u.1 1), .inr (6, [.ref (u.1 6), .ref (u.1 7), .ref (u.1 8), .ref (u.1 9), .ref (u.1 10)])), ((u.1 7), .inl ((u.2 1), 3, .inl (fun _ => 0))), ((u.1 9), .inr (5, [.ref (u.1 11), .ref (u.1 12), .ref (u.1 13), .ref (u.1 14), .ref (u.1 15), .ref (u.1 16), .ref (u.1 17), .int 0])), ((u.1 10), .inr (3, [.ref (u.1 18), .ref (u.1 19), .ref (u.1 20), .ref (u.1 21), .ref (u.1 22), .ref (u.1 23), .int 0]))]) (fun u => [((u.2 0), .byte), ((u.2 1), .int)]) D (va_A [(h0, .inr (1, [.null, .null, .int 0, .int 0, .int 0, .int 0, .int 0, .int 0, .long 0, .int 0, .int 0, .int 0, .int 0, .int 0, .int 0]))] sz)) 26 44451 (va_A [(h0, .inr (1, [.null, .null, .int 0, .int 0, .int 0, .int 0, .int 0, .int 0, .long 0, .int 0, .int 0, .int 0, .int 0, .int 0, .int 0]))] sz) := by
  refine Met.ofW (cc := b_As_init) (maxL := 1) (ret := none) (by decide) rfl ?_
  intro p e s m args below meth c s₁ B hml hv
  obtain ⟨rfl, hsz, hP, hK, hD0, hN, hZ⟩ := hv
  have hx := B.exec
  have hb := B.bytes
  have hr := B.returns
  have hlocks := B.notSynchronized
  have hts : ∀ w ∈ bw, w.before _ s = true := fun w h => atoms_spec (ws := Cond.code y_As_init b_As_init 1 none :: bw) B.pre w (List.mem_cons_of_mem _ h)
  have hown : s.vm.findClass "ObjectForge$Assembler" = some m.cls := findClass_of_methodNamed B.named
  have hin : meth.name = "<init>" := (name_of_methodNamed B.named B.method).1
  subst hsz
  have hP0 := hP
  have hD := hD0.self (sz := s.heap.size)
  generalize hAe : va_A [(h0, .inr (1, [.null, .null, .int 0, .int 0, .int 0, .int 0, .int 0, .int 0, .long 0, .int 0, .int 0, .int 0, .int 0, .int 0, .int 0]))] s.heap.size = A at hD hZ ⊢
  have hA : ∀ q : Nat, s.heap.size ≤ q → A q := fun q h => by rw [← hAe]; exact Or.inr h
  have hS : va_S A s.heap s.heap [] := va_S.rf
  have hl := lv_entry ([.ref h0]) (n := 1) (Nat.le_of_ble_eq_true rfl)
  rw [lg_entry_eq]
  generalize (lg_sl ([.ref h0]) ++ List.replicate (1 - (lg_sl ([.ref h0])).length) Slot.unset).toArray = ls at hl ⊢
  have hl : lv_has ls 1 [(0, .ref h0)] := hl
  refine lv_aload_n hx hb d_As_init_0 rfl (lv_at hl 0 rfl) ?_
  refine W.objInit hx hb hown (hts _ w_28) (hts _ w_22) (hts _ w_23) rfl (by rw [hml]; exact hl.1) rfl d_As_init_1 (Nat.le_of_ble_eq_true rfl) (Nat.le_of_ble_eq_true rfl) ?_
  refine W.eq (g2 := F0 m 4 ls []) rfl ?_
  refine lv_aload_n hx hb d_As_init_4 rfl (lv_at hl 0 rfl) ?_
  refine va_new (ci := 4) (fs := [.null, .int 0, .int 0, .int 0, .null, .null, .null]) (C := R_So) (T := F_So) (N := 7) hx hb hts i_So t_So t_So_ok hown (hts _ w_29) (hts _ w_30) (hts _ w_3) hK hP hD hS hA rfl (by decide) (Nat.le_of_ble_eq_true rfl) (Nat.le_of_ble_eq_true rfl) d_As_init_5 (fun q1 H hP hD hS => ?_)
  have hP : va_P D cls [(h0, .inr (1, [.null, .null, .int 0, .int 0, .int 0, .int 0, .int 0, .int 0, .long 0, .int 0, .int 0, .int 0, .int 0, .int 0, .int 0])), (q1, .inr (4, [.null, .int 0, .int 0, .int 0, .null, .null, .null]))] H := hP
  have hD : va_D A [(h0, .inr (1, [.null, .null, .int 0, .int 0, .int 0, .int 0, .int 0, .int 0, .long 0, .int 0, .int 0, .int 0, .int 0, .int 0, .int 0])), (q1, .inr (4, [.null, .int 0, .int 0, .int 0, .null, .null, .null]))] := hD
  refine W.widen (k := 1) (n := 7) (by omega) (by omega) ?_
  refine lv_dup hx hb d_As_init_8 rfl ?_
  refine xc_IN (As := []) (rest := [.ref q1, .ref h0]) (wc := [(q1, .inr (4, [.null, .int 0, .int 0, .int 0, .null, .null, .null]))]) (wr := [(h0, .inr (1, [.null, .null, .int 0, .int 0, .int 0, .int 0, .int 0, .int 0, .long 0, .int 0, .int 0, .int 0, .int 0, .int 0, .int 0]))]) (tc := []) (tr := []) ⟨hx, hb, hml, hown, hts⟩ (c_So_init l D q1 H.size) rfl rfl rfl w_32 (by simp [xnM]) w_31 w_3 (by decide +kernel) ⟨Nat.le_of_ble_eq_true rfl, Nat.le_of_ble_eq_true rfl⟩ hP hD hK hS hA hN hZ [1] [0] rfl rfl (by decide) (by decide) (by decide) [] [] rfl rfl rfl hl.1 rfl (Nat.le_of_ble_eq_true rfl) d_As_init_9 ⟨Nat.le_of_ble_eq_true rfl, Nat.le_of_ble_eq_true rfl⟩ (fun u2 H locs hP hD hK hS => ?_)
  have hP : va_P D cls [(h0, .inr (1, [.null, .null, .int 0, .int 0, .int 0, .int 0, .int 0, .int 0, .long 0, .int 0, .int 0, .int 0, .int 0, .int 0, .int 0])), (q1, .inr (4, [.ref (u2.1 0), .int 0, .int 0, .int 0, .ref (u2.1 1), .ref (u2.1 2), .ref (u2.1 3)])), ((u2.1 0), .inl ((u2.2 0), 8192, .inl (fun _ => 0)))] H := hP
  have hD : va_D A [(h0, .inr (1, [.null, .null, .int 0, .int 0, .int 0, .int 0, .int 0, .int 0, .long 0, .int 0, .int 0, .int 0, .int 0, .int 0, .int 0])), (q1, .inr (4, [.ref (u2.1 0), .int 0, .int 0, .int 0, .ref (u2.1 1), .ref (u2.1 2), .ref (u2.1 3)])), ((u2.1 0), .inl ((u2.2 0), 8192, .inl (fun _ => 0)))] := hD
  have hK : va_K D cls [((u2.2 0), .byte)] s := hK
  refine W.widen (k := 5) (n := 32775) (by omega) (by omega) ?_
  refine W.eq (g2 := F0 m 12 ls [.ref q1, .ref h0]) rfl ?_
  refine va_putF (D := D) (ci := 1) (v := .ref q1) (ty := .object "ObjectForge$Source") (C := R_As) (T := F_As) (N := 15) hx hb hts i_As t_As t_As_ok n_As hown hK hP hD hS 0 rfl rfl 0 (by decide) (hts _ w_113) (fun _ h9 => h9) rfl hin rfl (by decide +kernel) rfl rfl (Nat.le_of_ble_eq_true rfl) d_As_init_12 (fun H locs hP hD hS => ?_)
  have hP : va_P D cls [(h0, .inr (1, [.ref q1, .null, .int 0, .int 0, .int 0, .int 0, .int 0, .int 0, .long 0, .int 0, .int 0, .int 0, .int 0, .int 0, .int 0])), (q1, .inr (4, [.ref (u2.1 0), .int 0, .int 0, .int 0, .ref (u2.1 1), .ref (u2.1 2), .ref (u2.1 3)])), ((u2.1 0), .inl ((u2.2 0), 8192, .inl (fun _ => 0)))] H := hP
  have hD : va_D A [(h0, .inr (1, [.ref q1, .null, .int 0, .int 0, .int 0, .int 0, .int 0, .int 0, .long 0, .int 0, .int 0, .int 0, .int 0, .int 0, .int 0])), (q1, .inr (4, [.ref (u2.1 0), .int 0, .int 0, .int 0, .ref (u2.1 1), .ref (u2.1 2), .ref (u2.1 3)])), ((u2.1 0), .inl ((u2.2 0), 8192, .inl (fun _ => 0)))] := hD
  refine lv_aload_n hx hb d_As_init_15 rfl (lv_at hl 0 rfl) ?_
  refine va_new (ci := 6) (fs := [.null, .null, .null, .null, .null]) (C := R_Un) (T := F_Un) (N := 5) hx hb hts i_Un t_Un t_Un_ok hown (hts _ w_44) (hts _ w_45) (hts _ w_4) hK hP hD hS hA rfl (by decide) (Nat.le_of_ble_eq_true rfl) (Nat.le_of_ble_eq_true rfl) d_As_init_16 (fun q3 H hP hD hS => ?_)
  have hP : va_P D cls [(h0, .inr (1, [.ref q1, .null, .int 0, .int 0, .int 0, .int 0, .int 0, .int 0, .long 0, .int 0, .int 0, .int 0, .int 0, .int 0, .int 0])), (q1, .inr (4, [.ref (u2.1 0), .int 0, .int 0, .int 0, .ref (u2.1 1), .ref (u2.1 2), .ref (u2.1 3)])), ((u2.1 0), .inl ((u2.2 0), 8192, .inl (fun _ => 0))), (q3, .inr (6, [.null, .null, .null, .null, .null]))] H := hP
  have hD : va_D A [(h0, .inr (1, [.ref q1, .null, .int 0, .int 0, .int 0, .int 0, .int 0, .int 0, .long 0, .int 0, .int 0, .int 0, .int 0, .int 0, .int 0])), (q1, .inr (4, [.ref (u2.1 0), .int 0, .int 0, .int 0, .ref (u2.1 1), .ref (u2.1 2), .ref (u2.1 3)])), ((u2.1 0), .inl ((u2.2 0), 8192, .inl (fun _ => 0))), (q3, .inr (6, [.null, .null, .null, .null, .null]))] := hD
  refine W.widen (k := 6) (n := 32780) (by omega) (by omega) ?_
  refine lv_dup hx hb d_As_init_19 rfl ?_
  refine xc_IN (As := []) (rest := [.ref q3, .ref h0]) (wc := [(q3, .inr (6, [.null, .null, .null, .null, .null]))]) (wr := [(h0, .inr (1, [.ref q1, .null, .int 0, .int 0, .int 0, .int 0, .int 0, .int 0, .long 0, .int 0, .int 0, .int 0, .int 0, .int 0, .int 0])), (q1, .inr (4, [.ref (u2.1 0), .int 0, .int 0, .int 0, .ref (u2.1 1), .ref (u2.1 2), .ref (u2.1 3)])), ((u2.1 0), .inl ((u2.2 0), 8192, .inl (fun _ => 0)))]) (tc := []) (tr := [((u2.2 0), .byte)]) ⟨hx, hb, hml, hown, hts⟩ (c_Un_init l D q3 H.size) rfl rfl rfl w_47 (by simp [xnM]) w_46 w_4 (by decide +kernel) ⟨Nat.le_of_ble_eq_true rfl, Nat.le_of_ble_eq_true rfl⟩ hP hD hK hS hA hN hZ [3] [0, 1, 2] rfl rfl (by decide) (by decide) (by decide) [] [0] rfl rfl rfl hl.1 rfl (Nat.le_of_ble_eq_true rfl) d_As_init_20 ⟨Nat.le_of_ble_eq_true rfl, Nat.le_of_ble_eq_true rfl⟩ (fun u4 H locs hP hD hK hS => ?_)
  have hP : va_P D cls [(h0, .inr (1, [.ref q1, .null, .int 0, .int 0, .int 0, .int 0, .int 0, .int 0, .long 0, .int 0, .int 0, .int 0, .int 0, .int 0, .int 0])), (q1, .inr (4, [.ref (u2.1 0), .int 0, .int 0, .int 0, .ref (u2.1 1), .ref (u2.1 2), .ref (u2.1 3)])), ((u2.1 0), .inl ((u2.2 0), 8192, .inl (fun _ => 0))), (q3, .inr (6, [.ref (u4.1 0), .ref (u4.1 1), .ref (u4.1 2), .ref (u4.1 3), .ref (u4.1 4)])), ((u4.1 1), .inl ((u4.2 0), 3, .inl (fun _ => 0))), ((u4.1 3), .inr (5, [.ref (u4.1 5), .ref (u4.1 6), .ref (u4.1 7), .ref (u4.1 8), .ref (u4.1 9), .ref (u4.1 10), .ref (u4.1 11), .int 0])), ((u4.1 4), .inr (3, [.ref (u4.1 12), .ref (u4.1 13), .ref (u4.1 14), .ref (u4.1 15), .ref (u4.1 16), .ref (u4.1 17), .int 0]))] H := hP
  have hD : va_D A [(h0, .inr (1, [.ref q1, .null, .int 0, .int 0, .int 0, .int 0, .int 0, .int 0, .long 0, .int 0, .int 0, .int 0, .int 0, .int 0, .int 0])), (q1, .inr (4, [.ref (u2.1 0), .int 0, .int 0, .int 0, .ref (u2.1 1), .ref (u2.1 2), .ref (u2.1 3)])), ((u2.1 0), .inl ((u2.2 0), 8192, .inl (fun _ => 0))), (q3, .inr (6, [.ref (u4.1 0), .ref (u4.1 1), .ref (u4.1 2), .ref (u4.1 3), .ref (u4.1 4)])), ((u4.1 1), .inl ((u4.2 0), 3, .inl (fun _ => 0))), ((u4.1 3), .inr (5, [.ref (u4.1 5), .ref (u4.1 6), .ref (u4.1 7), .ref (u4.1 8), .ref (u4.1 9), .ref (u4.1 10), .ref (u4.1 11), .int 0])), ((u4.1 4), .inr (3, [.ref (u4.1 12), .ref (u4.1 13), .ref (u4.1 14), .ref (u4.1 15), .ref (u4.1 16), .ref (u4.1 17), .int 0]))] := hD
  have hK : va_K D cls [((u2.2 0), .byte), ((u4.2 0), .int)] s := hK
  refine W.widen (k := 26) (n := 44451) (by omega) (by omega) ?_
  refine W.eq (g2 := F0 m 23 ls [.ref q3, .ref h0]) rfl ?_
  refine va_put (D := D) (ci := 1) (v := .ref q3) (ty := .object "ObjectForge$Unit") (C := R_As) (T := F_As) (N := 15) hx hb hts i_As t_As t_As_ok n_As hown hK hP hD hS 0 rfl rfl 1 (by decide) (hts _ w_115) (fun _ h9 => h9) rfl (by decide +kernel) rfl rfl (Nat.le_of_ble_eq_true rfl) d_As_init_23 (fun H locs hP hD hS => ?_)
  have hP : va_P D cls [(h0, .inr (1, [.ref q1, .ref q3, .int 0, .int 0, .int 0, .int 0, .int 0, .int 0, .long 0, .int 0, .int 0, .int 0, .int 0, .int 0, .int 0])), (q1, .inr (4, [.ref (u2.1 0), .int 0, .int 0, .int 0, .ref (u2.1 1), .ref (u2.1 2), .ref (u2.1 3)])), ((u2.1 0), .inl ((u2.2 0), 8192, .inl (fun _ => 0))), (q3, .inr (6, [.ref (u4.1 0), .ref (u4.1 1), .ref (u4.1 2), .ref (u4.1 3), .ref (u4.1 4)])), ((u4.1 1), .inl ((u4.2 0), 3, .inl (fun _ => 0))), ((u4.1 3), .inr (5, [.ref (u4.1 5), .ref (u4.1 6), .ref (u4.1 7), .ref (u4.1 8), .ref (u4.1 9), .ref (u4.1 10), .ref (u4.1 11), .int 0])), ((u4.1 4), .inr (3, [.ref (u4.1 12), .ref (u4.1 13), .ref (u4.1 14), .ref (u4.1 15), .ref (u4.1 16), .ref (u4.1 17), .int 0]))] H := hP
  have hD : va_D A [(h0, .inr (1, [.ref q1, .ref q3, .int 0, .int 0, .int 0, .int 0, .int 0, .int 0, .long 0, .int 0, .int 0, .int 0, .int 0, .int 0, .int 0])), (q1, .inr (4, [.ref (u2.1 0), .int 0, .int 0, .int 0, .ref (u2.1 1), .ref (u2.1 2), .ref (u2.1 3)])), ((u2.1 0), .inl ((u2.2 0), 8192, .inl (fun _ => 0))), (q3, .inr (6, [.ref (u4.1 0), .ref (u4.1 1), .ref (u4.1 2), .ref (u4.1 3), .ref (u4.1 4)])), ((u4.1 1), .inl ((u4.2 0), 3, .inl (fun _ => 0))), ((u4.1 3), .inr (5, [.ref (u4.1 5), .ref (u4.1 6), .ref (u4.1 7), .ref (u4.1 8), .ref (u4.1 9), .ref (u4.1 10), .ref (u4.1 11), .int 0])), ((u4.1 4), .inr (3, [.ref (u4.1 12), .ref (u4.1 13), .ref (u4.1 14), .ref (u4.1 15), .ref (u4.1 16), .ref (u4.1 17), .int 0]))] := hD
  refine lv_aload_n hx hb d_As_init_26 rfl (lv_at hl 0 rfl) ?_
  refine lv_iconst (v := 0) hx hb d_As_init_27 (by decide) ?_
  refine va_put (D := D) (ci := 1) (v := .int 0) (ty := .int) (C := R_As) (T := F_As) (N := 15) hx hb hts i_As t_As t_As_ok n_As hown hK hP hD hS 0 rfl rfl 2 (by decide) (hts _ w_117) (fun _ h9 => h9) rfl (by decide +kernel) rfl rfl (Nat.le_of_ble_eq_true rfl) d_As_init_28 (fun H locs hP hD hS => ?_)
  have hP : va_P D cls [(h0, .inr (1, [.ref q1, .ref q3, .int 0, .int 0, .int 0, .int 0, .int 0, .int 0, .long 0, .int 0, .int 0, .int 0, .int 0, .int 0, .int 0])), (q1, .inr (4, [.ref (u2.1 0), .int 0, .int 0, .int 0, .ref (u2.1 1), .ref (u2.1 2), .ref (u2.1 3)])), ((u2.1 0), .inl ((u2.2 0), 8192, .inl (fun _ => 0))), (q3, .inr (6, [.ref (u4.1 0), .ref (u4.1 1), .ref (u4.1 2), .ref (u4.1 3), .ref (u4.1 4)])), ((u4.1 1), .inl ((u4.2 0), 3, .inl (fun _ => 0))), ((u4.1 3), .inr (5, [.ref (u4.1 5), .ref (u4.1 6), .ref (u4.1 7), .ref (u4.1 8), .ref (u4.1 9), .ref (u4.1 10), .ref (u4.1 11), .int 0])), ((u4.1 4), .inr (3, [.ref (u4.1 12), .ref (u4.1 13), .ref (u4.1 14), .ref (u4.1 15), .ref (u4.1 16), .ref (u4.1 17), .int 0]))] H := hP
  have hD : va_D A [(h0, .inr (1, [.ref q1, .ref q3, .int 0, .int 0, .int 0, .int 0, .int 0, .int 0, .long 0, .int 0, .int 0, .int 0, .int 0, .int 0, .int 0])), (q1, .inr (4, [.ref (u2.1 0), .int 0, .int 0, .int 0, .ref (u2.1 1), .ref (u2.1 2), .ref (u2.1 3)])), ((u2.1 0), .inl ((u2.2 0), 8192, .inl (fun _ => 0))), (q3, .inr (6, [.ref (u4.1 0), .ref (u4.1 1), .ref (u4.1 2), .ref (u4.1 3), .ref (u4.1 4)])), ((u4.1 1), .inl ((u4.2 0), 3, .inl (fun _ => 0))), ((u4.1 3), .inr (5, [.ref (u4.1 5), .ref (u4.1 6), .ref (u4.1 7), .ref (u4.1 8), .ref (u4.1 9), .ref (u4.1 10), .ref (u4.1 11), .int 0])), ((u4.1 4), .inr (3, [.ref (u4.1 12), .ref (u4.1 13), .ref (u4.1 14), .ref (u4.1 15), .ref (u4.1 16), .ref (u4.1 17), .int 0]))] := hD
  refine lv_aload_n hx hb d_As_init_31 rfl (lv_at hl 0 rfl) ?_
  refine lv_iconst (v := 0) hx hb d_As_init_32 (by decide) ?_
  refine va_put (D := D) (ci := 1) (v := .int 0) (ty := .int) (C := R_As) (T := F_As) (N := 15) hx hb hts i_As t_As t_As_ok n_As hown hK hP hD hS 0 rfl rfl 3 (by decide) (hts _ w_119) (fun _ h9 => h9) rfl (by decide +kernel) rfl rfl (Nat.le_of_ble_eq_true rfl) d_As_init_33 (fun H locs hP hD hS => ?_)
  have hP : va_P D cls [(h0, .inr (1, [.ref q1, .ref q3, .int 0, .int 0, .int 0, .int 0, .int 0, .int 0, .long 0, .int 0, .int 0, .int 0, .int 0, .int 0, .int 0])), (q1, .inr (4, [.ref (u2.1 0), .int 0, .int 0, .int 0, .ref (u2.1 1), .ref (u2.1 2), .ref (u2.1 3)])), ((u2.1 0), .inl ((u2.2 0), 8192, .inl (fun _ => 0))), (q3, .inr (6, [.ref (u4.1 0), .ref (u4.1 1), .ref (u4.1 2), .ref (u4.1 3), .ref (u4.1 4)])), ((u4.1 1), .inl ((u4.2 0), 3, .inl (fun _ => 0))), ((u4.1 3), .inr (5, [.ref (u4.1 5), .ref (u4.1 6), .ref (u4.1 7), .ref (u4.1 8), .ref (u4.1 9), .ref (u4.1 10), .ref (u4.1 11), .int 0])), ((u4.1 4), .inr (3, [.ref (u4.1 12), .ref (u4.1 13), .ref (u4.1 14), .ref (u4.1 15), .ref (u4.1 16), .ref (u4.1 17), .int 0]))] H := hP
  have hD : va_D A [(h0, .inr (1, [.ref q1, .ref q3, .int 0, .int 0, .int 0, .int 0, .int 0, .int 0, .long 0, .int 0, .int 0, .int 0, .int 0, .int 0, .int 0])), (q1, .inr (4, [.ref (u2.1 0), .int 0, .int 0, .int 0, .ref (u2.1 1), .ref (u2.1 2), .ref (u2.1 3)])), ((u2.1 0), .inl ((u2.2 0), 8192, .inl (fun _ => 0))), (q3, .inr (6, [.ref (u4.1 0), .ref (u4.1 1), .ref (u4.1 2), .ref (u4.1 3), .ref (u4.1 4)])), ((u4.1 1), .inl ((u4.2 0), 3, .inl (fun _ => 0))), ((u4.1 3), .inr (5, [.ref (u4.1 5), .ref (u4.1 6), .ref (u4.1 7), .ref (u4.1 8), .ref (u4.1 9), .ref (u4.1 10), .ref (u4.1 11), .int 0])), ((u4.1 4), .inr (3, [.ref (u4.1 12), .ref (u4.1 13), .ref (u4.1 14), .ref (u4.1 15), .ref (u4.1 16), .ref (u4.1 17), .int 0]))] := hD
  refine lv_aload_n hx hb d_As_init_36 rfl (lv_at hl 0 rfl) ?_
  refine lv_iconst (v := 0) hx hb d_As_init_37 (by decide) ?_
  refine va_put (D := D) (ci := 1) (v := .int 0) (ty := .int) (C := R_As) (T := F_As) (N := 15) hx hb hts i_As t_As t_As_ok n_As hown hK hP hD hS 0 rfl rfl 4 (by decide) (hts _ w_121) (fun _ h9 => h9) rfl (by decide +kernel) rfl rfl (Nat.le_of_ble_eq_true rfl) d_As_init_38 (fun H locs hP hD hS => ?_)
  have hP : va_P D cls [(h0, .inr (1, [.ref q1, .ref q3, .int 0, .int 0, .int 0, .int 0, .int 0, .int 0, .long 0, .int 0, .int 0, .int 0, .int 0, .int 0, .int 0])), (q1, .inr (4, [.ref (u2.1 0), .int 0, .int 0, .int 0, .ref (u2.1 1), .ref (u2.1 2), .ref (u2.1 3)])), ((u2.1 0), .inl ((u2.2 0), 8192, .inl (fun _ => 0))), (q3, .inr (6, [.ref (u4.1 0), .ref (u4.1 1), .ref (u4.1 2), .ref (u4.1 3), .ref (u4.1 4)])), ((u4.1 1), .inl ((u4.2 0), 3, .inl (fun _ => 0))), ((u4.1 3), .inr (5, [.ref (u4.1 5), .ref (u4.1 6), .ref (u4.1 7), .ref (u4.1 8), .ref (u4.1 9), .ref (u4.1 10), .ref (u4.1 11), .int 0])), ((u4.1 4), .inr (3, [.ref (u4.1 12), .ref (u4.1 13), .ref (u4.1 14), .ref (u4.1 15), .ref (u4.1 16), .ref (u4.1 17), .int 0]))] H := hP
  have hD : va_D A [(h0, .inr (1, [.ref q1, .ref q3, .int 0, .int 0, .int 0, .int 0, .int 0, .int 0, .long 0, .int 0, .int 0, .int 0, .int 0, .int 0, .int 0])), (q1, .inr (4, [.ref (u2.1 0), .int 0, .int 0, .int 0, .ref (u2.1 1), .ref (u2.1 2), .ref (u2.1 3)])), ((u2.1 0), .inl ((u2.2 0), 8192, .inl (fun _ => 0))), (q3, .inr (6, [.ref (u4.1 0), .ref (u4.1 1), .ref (u4.1 2), .ref (u4.1 3), .ref (u4.1 4)])), ((u4.1 1), .inl ((u4.2 0), 3, .inl (fun _ => 0))), ((u4.1 3), .inr (5, [.ref (u4.1 5), .ref (u4.1 6), .ref (u4.1 7), .ref (u4.1 8), .ref (u4.1 9), .ref (u4.1 10), .ref (u4.1 11), .int 0])), ((u4.1 4), .inr (3, [.ref (u4.1 12), .ref (u4.1 13), .ref (u4.1 14), .ref (u4.1 15), .ref (u4.1 16), .ref (u4.1 17), .int 0]))] := hD
  refine lv_aload_n hx hb d_As_init_41 rfl (lv_at hl 0 rfl) ?_
  refine lv_iconst (v := 0) hx hb d_As_init_42 (by decide) ?_
  refine va_put (D := D) (ci := 1) (v := .int 0) (ty := .int) (C := R_As) (T := F_As) (N := 15) hx hb hts i_As t_As t_As_ok n_As hown hK hP hD hS 0 rfl rfl 5 (by decide) (hts _ w_122) (fun _ h9 => h9) rfl (by decide +kernel) rfl rfl (Nat.le_of_ble_eq_true rfl) d_As_init_43 (fun H locs hP hD hS => ?_)
  have hP : va_P D cls [(h0, .inr (1, [.ref q1, .ref q3, .int 0, .int 0, .int 0, .int 0, .int 0, .int 0, .long 0, .int 0, .int 0, .int 0, .int 0, .int 0, .int 0])), (q1, .inr (4, [.ref (u2.1 0), .int 0, .int 0, .int 0, .ref (u2.1 1), .ref (u2.1 2), .ref (u2.1 3)])), ((u2.1 0), .inl ((u2.2 0), 8192, .inl (fun _ => 0))), (q3, .inr (6, [.ref (u4.1 0), .ref (u4.1 1), .ref (u4.1 2), .ref (u4.1 3), .ref (u4.1 4)])), ((u4.1 1), .inl ((u4.2 0), 3, .inl (fun _ => 0))), ((u4.1 3), .inr (5, [.ref (u4.1 5), .ref (u4.1 6), .ref (u4.1 7), .ref (u4.1 8), .ref (u4.1 9), .ref (u4.1 10), .ref (u4.1 11), .int 0])), ((u4.1 4), .inr (3, [.ref (u4.1 12), .ref (u4.1 13), .ref (u4.1 14), .ref (u4.1 15), .ref (u4.1 16), .ref (u4.1 17), .int 0]))] H := hP
  have hD : va_D A [(h0, .inr (1, [.ref q1, .ref q3, .int 0, .int 0, .int 0, .int 0, .int 0, .int 0, .long 0, .int 0, .int 0, .int 0, .int 0, .int 0, .int 0])), (q1, .inr (4, [.ref (u2.1 0), .int 0, .int 0, .int 0, .ref (u2.1 1), .ref (u2.1 2), .ref (u2.1 3)])), ((u2.1 0), .inl ((u2.2 0), 8192, .inl (fun _ => 0))), (q3, .inr (6, [.ref (u4.1 0), .ref (u4.1 1), .ref (u4.1 2), .ref (u4.1 3), .ref (u4.1 4)])), ((u4.1 1), .inl ((u4.2 0), 3, .inl (fun _ => 0))), ((u4.1 3), .inr (5, [.ref (u4.1 5), .ref (u4.1 6), .ref (u4.1 7), .ref (u4.1 8), .ref (u4.1 9), .ref (u4.1 10), .ref (u4.1 11), .int 0])), ((u4.1 4), .inr (3, [.ref (u4.1 12), .ref (u4.1 13), .ref (u4.1 14), .ref (u4.1 15), .ref (u4.1 16), .ref (u4.1 17), .int 0]))] := hD
  refine lv_aload_n hx hb d_As_init_46 rfl (lv_at hl 0 rfl) ?_
  refine lv_iconst (v := 0) hx hb d_As_init_47 (by decide) ?_
  refine va_put (D := D) (ci := 1) (v := .int 0) (ty := .int) (C := R_As) (T := F_As) (N := 15) hx hb hts i_As t_As t_As_ok n_As hown hK hP hD hS 0 rfl rfl 6 (by decide) (hts _ w_123) (fun _ h9 => h9) rfl (by decide +kernel) rfl rfl (Nat.le_of_ble_eq_true rfl) d_As_init_48 (fun H locs hP hD hS => ?_)
  have hP : va_P D cls [(h0, .inr (1, [.ref q1, .ref q3, .int 0, .int 0, .int 0, .int 0, .int 0, .int 0, .long 0, .int 0, .int 0, .int 0, .int 0, .int 0, .int 0])), (q1, .inr (4, [.ref (u2.1 0), .int 0, .int 0, .int 0, .ref (u2.1 1), .ref (u2.1 2), .ref (u2.1 3)])), ((u2.1 0), .inl ((u2.2 0), 8192, .inl (fun _ => 0))), (q3, .inr (6, [.ref (u4.1 0), .ref (u4.1 1), .ref (u4.1 2), .ref (u4.1 3), .ref (u4.1 4)])), ((u4.1 1), .inl ((u4.2 0), 3, .inl (fun _ => 0))), ((u4.1 3), .inr (5, [.ref (u4.1 5), .ref (u4.1 6), .ref (u4.1 7), .ref (u4.1 8), .ref (u4.1 9), .ref (u4.1 10), .ref (u4.1 11), .int 0])), ((u4.1 4), .inr (3, [.ref (u4.1 12), .ref (u4.1 13), .ref (u4.1 14), .ref (u4.1 15), .ref (u4.1 16), .ref (u4.1 17), .int 0]))] H := hP
  have hD : va_D A [(h0, .inr (1, [.ref q1, .ref q3, .int 0, .int 0, .int 0, .int 0, .int 0, .int 0, .long 0, .int 0, .int 0, .int 0, .int 0, .int 0, .int 0])), (q1, .inr (4, [.ref (u2.1 0), .int 0, .int 0, .int 0, .ref (u2.1 1), .ref (u2.1 2), .ref (u2.1 3)])), ((u2.1 0), .inl ((u2.2 0), 8192, .inl (fun _ => 0))), (q3, .inr (6, [.ref (u4.1 0), .ref (u4.1 1), .ref (u4.1 2), .ref (u4.1 3), .ref (u4.1 4)])), ((u4.1 1), .inl ((u4.2 0), 3, .inl (fun _ => 0))), ((u4.1 3), .inr (5, [.ref (u4.1 5), .ref (u4.1 6), .ref (u4.1 7), .ref (u4.1 8), .ref (u4.1 9), .ref (u4.1 10), .ref (u4.1 11), .int 0])), ((u4.1 4), .inr (3, [.ref (u4.1 12), .ref (u4.1 13), .ref (u4.1 14), .ref (u4.1 15), .ref (u4.1 16), .ref (u4.1 17), .int 0]))] := hD
  refine lv_aload_n hx hb d_As_init_51 rfl (lv_at hl 0 rfl) ?_
  refine lv_iconst (v := (-1)) hx hb d_As_init_52 (by decide) ?_
  refine va_put (D := D) (ci := 1) (v := .int (-1)) (ty := .int) (C := R_As) (T := F_As) (N := 15) hx hb hts i_As t_As t_As_ok n_As hown hK hP hD hS 0 rfl rfl 7 (by decide) (hts _ w_124) (fun _ h9 => h9) rfl (by decide +kernel) rfl rfl (Nat.le_of_ble_eq_true rfl) d_As_init_53 (fun H locs hP hD hS => ?_)
  have hP : va_P D cls [(h0, .inr (1, [.ref q1, .ref q3, .int 0, .int 0, .int 0, .int 0, .int 0, .int (-1), .long 0, .int 0, .int 0, .int 0, .int 0, .int 0, .int 0])), (q1, .inr (4, [.ref (u2.1 0), .int 0, .int 0, .int 0, .ref (u2.1 1), .ref (u2.1 2), .ref (u2.1 3)])), ((u2.1 0), .inl ((u2.2 0), 8192, .inl (fun _ => 0))), (q3, .inr (6, [.ref (u4.1 0), .ref (u4.1 1), .ref (u4.1 2), .ref (u4.1 3), .ref (u4.1 4)])), ((u4.1 1), .inl ((u4.2 0), 3, .inl (fun _ => 0))), ((u4.1 3), .inr (5, [.ref (u4.1 5), .ref (u4.1 6), .ref (u4.1 7), .ref (u4.1 8), .ref (u4.1 9), .ref (u4.1 10), .ref (u4.1 11), .int 0])), ((u4.1 4), .inr (3, [.ref (u4.1 12), .ref (u4.1 13), .ref (u4.1 14), .ref (u4.1 15), .ref (u4.1 16), .ref (u4.1 17), .int 0]))] H := hP
  have hD : va_D A [(h0, .inr (1, [.ref q1, .ref q3, .int 0, .int 0, .int 0, .int 0, .int 0, .int (-1), .long 0, .int 0, .int 0, .int 0, .int 0, .int 0, .int 0])), (q1, .inr (4, [.ref (u2.1 0), .int 0, .int 0, .int 0, .ref (u2.1 1), .ref (u2.1 2), .ref (u2.1 3)])), ((u2.1 0), .inl ((u2.2 0), 8192, .inl (fun _ => 0))), (q3, .inr (6, [.ref (u4.1 0), .ref (u4.1 1), .ref (u4.1 2), .ref (u4.1 3), .ref (u4.1 4)])), ((u4.1 1), .inl ((u4.2 0), 3, .inl (fun _ => 0))), ((u4.1 3), .inr (5, [.ref (u4.1 5), .ref (u4.1 6), .ref (u4.1 7), .ref (u4.1 8), .ref (u4.1 9), .ref (u4.1 10), .ref (u4.1 11), .int 0])), ((u4.1 4), .inr (3, [.ref (u4.1 12), .ref (u4.1 13), .ref (u4.1 14), .ref (u4.1 15), .ref (u4.1 16), .ref (u4.1 17), .int 0]))] := hD
  refine lv_aload_n hx hb d_As_init_56 rfl (lv_at hl 0 rfl) ?_
  refine lv_lconst (v := 0) hx hb d_As_init_57 (by decide) ?_
  refine va_put (D := D) (ci := 1) (v := .long 0) (ty := .long) (C := R_As) (T := F_As) (N := 15) hx hb hts i_As t_As t_As_ok n_As hown hK hP hD hS 0 rfl rfl 8 (by decide) (hts _ w_125) (fun _ h9 => h9) rfl (by decide +kernel) rfl rfl (Nat.le_of_ble_eq_true rfl) d_As_init_58 (fun H locs hP hD hS => ?_)
  have hP : va_P D cls [(h0, .inr (1, [.ref q1, .ref q3, .int 0, .int 0, .int 0, .int 0, .int 0, .int (-1), .long 0, .int 0, .int 0, .int 0, .int 0, .int 0, .int 0])), (q1, .inr (4, [.ref (u2.1 0), .int 0, .int 0, .int 0, .ref (u2.1 1), .ref (u2.1 2), .ref (u2.1 3)])), ((u2.1 0), .inl ((u2.2 0), 8192, .inl (fun _ => 0))), (q3, .inr (6, [.ref (u4.1 0), .ref (u4.1 1), .ref (u4.1 2), .ref (u4.1 3), .ref (u4.1 4)])), ((u4.1 1), .inl ((u4.2 0), 3, .inl (fun _ => 0))), ((u4.1 3), .inr (5, [.ref (u4.1 5), .ref (u4.1 6), .ref (u4.1 7), .ref (u4.1 8), .ref (u4.1 9), .ref (u4.1 10), .ref (u4.1 11), .int 0])), ((u4.1 4), .inr (3, [.ref (u4.1 12), .ref (u4.1 13), .ref (u4.1 14), .ref (u4.1 15), .ref (u4.1 16), .ref (u4.1 17), .int 0]))] H := hP
  have hD : va_D A [(h0, .inr (1, [.ref q1, .ref q3, .int 0, .int 0, .int 0, .int 0, .int 0, .int (-1), .long 0, .int 0, .int 0, .int 0, .int 0, .int 0, .int 0])), (q1, .inr (4, [.ref (u2.1 0), .int 0, .int 0, .int 0, .ref (u2.1 1), .ref (u2.1 2), .ref (u2.1 3)])), ((u2.1 0), .inl ((u2.2 0), 8192, .inl (fun _ => 0))), (q3, .inr (6, [.ref (u4.1 0), .ref (u4.1 1), .ref (u4.1 2), .ref (u4.1 3), .ref (u4.1 4)])), ((u4.1 1), .inl ((u4.2 0), 3, .inl (fun _ => 0))), ((u4.1 3), .inr (5, [.ref (u4.1 5), .ref (u4.1 6), .ref (u4.1 7), .ref (u4.1 8), .ref (u4.1 9), .ref (u4.1 10), .ref (u4.1 11), .int 0])), ((u4.1 4), .inr (3, [.ref (u4.1 12), .ref (u4.1 13), .ref (u4.1 14), .ref (u4.1 15), .ref (u4.1 16), .ref (u4.1 17), .int 0]))] := hD
  refine lv_aload_n hx hb d_As_init_61 rfl (lv_at hl 0 rfl) ?_
  refine lv_iconst (v := 0) hx hb d_As_init_62 (by decide) ?_
  refine va_put (D := D) (ci := 1) (v := .int 0) (ty := .int) (C := R_As) (T := F_As) (N := 15) hx hb hts i_As t_As t_As_ok n_As hown hK hP hD hS 0 rfl rfl 9 (by decide) (hts _ w_126) (fun _ h9 => h9) rfl (by decide +kernel) rfl rfl (Nat.le_of_ble_eq_true rfl) d_As_init_63 (fun H locs hP hD hS => ?_)
  have hP : va_P D cls [(h0, .inr (1, [.ref q1, .ref q3, .int 0, .int 0, .int 0, .int 0, .int 0, .int (-1), .long 0, .int 0, .int 0, .int 0, .int 0, .int 0, .int 0])), (q1, .inr (4, [.ref (u2.1 0), .int 0, .int 0, .int 0, .ref (u2.1 1), .ref (u2.1 2), .ref (u2.1 3)])), ((u2.1 0), .inl ((u2.2 0), 8192, .inl (fun _ => 0))), (q3, .inr (6, [.ref (u4.1 0), .ref (u4.1 1), .ref (u4.1 2), .ref (u4.1 3), .ref (u4.1 4)])), ((u4.1 1), .inl ((u4.2 0), 3, .inl (fun _ => 0))), ((u4.1 3), .inr (5, [.ref (u4.1 5), .ref (u4.1 6), .ref (u4.1 7), .ref (u4.1 8), .ref (u4.1 9), .ref (u4.1 10), .ref (u4.1 11), .int 0])), ((u4.1 4), .inr (3, [.ref (u4.1 12), .ref (u4.1 13), .ref (u4.1 14), .ref (u4.1 15), .ref (u4.1 16), .ref (u4.1 17), .int 0]))] H := hP
  have hD : va_D A [(h0, .inr (1, [.ref q1, .ref q3, .int 0, .int 0, .int 0, .int 0, .int 0, .int (-1), .long 0, .int 0, .int 0, .int 0, .int 0, .int 0, .int 0])), (q1, .inr (4, [.ref (u2.1 0), .int 0, .int 0, .int 0, .ref (u2.1 1), .ref (u2.1 2), .ref (u2.1 3)])), ((u2.1 0), .inl ((u2.2 0), 8192, .inl (fun _ => 0))), (q3, .inr (6, [.ref (u4.1 0), .ref (u4.1 1), .ref (u4.1 2), .ref (u4.1 3), .ref (u4.1 4)])), ((u4.1 1), .inl ((u4.2 0), 3, .inl (fun _ => 0))), ((u4.1 3), .inr (5, [.ref (u4.1 5), .ref (u4.1 6), .ref (u4.1 7), .ref (u4.1 8), .ref (u4.1 9), .ref (u4.1 10), .ref (u4.1 11), .int 0])), ((u4.1 4), .inr (3, [.ref (u4.1 12), .ref (u4.1 13), .ref (u4.1 14), .ref (u4.1 15), .ref (u4.1 16), .ref (u4.1 17), .int 0]))] := hD
  refine lv_aload_n hx hb d_As_init_66 rfl (lv_at hl 0 rfl) ?_
  refine lv_iconst (v := 0) hx hb d_As_init_67 (by decide) ?_
  refine va_put (D := D) (ci := 1) (v := .int 0) (ty := .int) (C := R_As) (T := F_As) (N := 15) hx hb hts i_As t_As t_As_ok n_As hown hK hP hD hS 0 rfl rfl 10 (by decide) (hts _ w_127) (fun _ h9 => h9) rfl (by decide +kernel) rfl rfl (Nat.le_of_ble_eq_true rfl) d_As_init_68 (fun H locs hP hD hS => ?_)
  have hP : va_P D cls [(h0, .inr (1, [.ref q1, .ref q3, .int 0, .int 0, .int 0, .int 0, .int 0, .int (-1), .long 0, .int 0, .int 0, .int 0, .int 0, .int 0, .int 0])), (q1, .inr (4, [.ref (u2.1 0), .int 0, .int 0, .int 0, .ref (u2.1 1), .ref (u2.1 2), .ref (u2.1 3)])), ((u2.1 0), .inl ((u2.2 0), 8192, .inl (fun _ => 0))), (q3, .inr (6, [.ref (u4.1 0), .ref (u4.1 1), .ref (u4.1 2), .ref (u4.1 3), .ref (u4.1 4)])), ((u4.1 1), .inl ((u4.2 0), 3, .inl (fun _ => 0))), ((u4.1 3), .inr (5, [.ref (u4.1 5), .ref (u4.1 6), .ref (u4.1 7), .ref (u4.1 8), .ref (u4.1 9), .ref (u4.1 10), .ref (u4.1 11), .int 0])), ((u4.1 4), .inr (3, [.ref (u4.1 12), .ref (u4.1 13), .ref (u4.1 14), .ref (u4.1 15), .ref (u4.1 16), .ref (u4.1 17), .int 0]))] H := hP
  have hD : va_D A [(h0, .inr (1, [.ref q1, .ref q3, .int 0, .int 0, .int 0, .int 0, .int 0, .int (-1), .long 0, .int 0, .int 0, .int 0, .int 0, .int 0, .int 0])), (q1, .inr (4, [.ref (u2.1 0), .int 0, .int 0, .int 0, .ref (u2.1 1), .ref (u2.1 2), .ref (u2.1 3)])), ((u2.1 0), .inl ((u2.2 0), 8192, .inl (fun _ => 0))), (q3, .inr (6, [.ref (u4.1 0), .ref (u4.1 1), .ref (u4.1 2), .ref (u4.1 3), .ref (u4.1 4)])), ((u4.1 1), .inl ((u4.2 0), 3, .inl (fun _ => 0))), ((u4.1 3), .inr (5, [.ref (u4.1 5), .ref (u4.1 6), .ref (u4.1 7), .ref (u4.1 8), .ref (u4.1 9), .ref (u4.1 10), .ref (u4.1 11), .int 0])), ((u4.1 4), .inr (3, [.ref (u4.1 12), .ref (u4.1 13), .ref (u4.1 14), .ref (u4.1 15), .ref (u4.1 16), .ref (u4.1 17), .int 0]))] := hD
  refine lv_aload_n hx hb d_As_init_71 rfl (lv_at hl 0 rfl) ?_
  refine lv_iconst (v := 0) hx hb d_As_init_72 (by decide) ?_
  refine va_put (D := D) (ci := 1) (v := .int 0) (ty := .int) (C := R_As) (T := F_As) (N := 15) hx hb hts i_As t_As t_As_ok n_As hown hK hP hD hS 0 rfl rfl 11 (by decide) (hts _ w_128) (fun _ h9 => h9) rfl (by decide +kernel) rfl rfl (Nat.le_of_ble_eq_true rfl) d_As_init_73 (fun H locs hP hD hS => ?_)
  have hP : va_P D cls [(h0, .inr (1, [.ref q1, .ref q3, .int 0, .int 0, .int 0, .int 0, .int 0, .int (-1), .long 0, .int 0, .int 0, .int 0, .int 0, .int 0, .int 0])), (q1, .inr (4, [.ref (u2.1 0), .int 0, .int 0, .int 0, .ref (u2.1 1), .ref (u2.1 2), .ref (u2.1 3)])), ((u2.1 0), .inl ((u2.2 0), 8192, .inl (fun _ => 0))), (q3, .inr (6, [.ref (u4.1 0), .ref (u4.1 1), .ref (u4.1 2), .ref (u4.1 3), .ref (u4.1 4)])), ((u4.1 1), .inl ((u4.2 0), 3, .inl (fun _ => 0))), ((u4.1 3), .inr (5, [.ref (u4.1 5), .ref (u4.1 6), .ref (u4.1 7), .ref (u4.1 8), .ref (u4.1 9), .ref (u4.1 10), .ref (u4.1 11), .int 0])), ((u4.1 4), .inr (3, [.ref (u4.1 12), .ref (u4.1 13), .ref (u4.1 14), .ref (u4.1 15), .ref (u4.1 16), .ref (u4.1 17), .int 0]))] H := hP
  have hD : va_D A [(h0, .inr (1, [.ref q1, .ref q3, .int 0, .int 0, .int 0, .int 0, .int 0, .int (-1), .long 0, .int 0, .int 0, .int 0, .int 0, .int 0, .int 0])), (q1, .inr (4, [.ref (u2.1 0), .int 0, .int 0, .int 0, .ref (u2.1 1), .ref (u2.1 2), .ref (u2.1 3)])), ((u2.1 0), .inl ((u2.2 0), 8192, .inl (fun _ => 0))), (q3, .inr (6, [.ref (u4.1 0), .ref (u4.1 1), .ref (u4.1 2), .ref (u4.1 3), .ref (u4.1 4)])), ((u4.1 1), .inl ((u4.2 0), 3, .inl (fun _ => 0))), ((u4.1 3), .inr (5, [.ref (u4.1 5), .ref (u4.1 6), .ref (u4.1 7), .ref (u4.1 8), .ref (u4.1 9), .ref (u4.1 10), .ref (u4.1 11), .int 0])), ((u4.1 4), .inr (3, [.ref (u4.1 12), .ref (u4.1 13), .ref (u4.1 14), .ref (u4.1 15), .ref (u4.1 16), .ref (u4.1 17), .int 0]))] := hD
  refine lv_aload_n hx hb d_As_init_76 rfl (lv_at hl 0 rfl) ?_
  refine lv_iconst (v := 0) hx hb d_As_init_77 (by decide) ?_
  refine va_put (D := D) (ci := 1) (v := .int 0) (ty := .int) (C := R_As) (T := F_As) (N := 15) hx hb hts i_As t_As t_As_ok n_As hown hK hP hD hS 0 rfl rfl 12 (by decide) (hts _ w_129) (fun _ h9 => h9) rfl (by decide +kernel) rfl rfl (Nat.le_of_ble_eq_true rfl) d_As_init_78 (fun H locs hP hD hS => ?_)
  have hP : va_P D cls [(h0, .inr (1, [.ref q1, .ref q3, .int 0, .int 0, .int 0, .int 0, .int 0, .int (-1), .long 0, .int 0, .int 0, .int 0, .int 0, .int 0, .int 0])), (q1, .inr (4, [.ref (u2.1 0), .int 0, .int 0, .int 0, .ref (u2.1 1), .ref (u2.1 2), .ref (u2.1 3)])), ((u2.1 0), .inl ((u2.2 0), 8192, .inl (fun _ => 0))), (q3, .inr (6, [.ref (u4.1 0), .ref (u4.1 1), .ref (u4.1 2), .ref (u4.1 3), .ref (u4.1 4)])), ((u4.1 1), .inl ((u4.2 0), 3, .inl (fun _ => 0))), ((u4.1 3), .inr (5, [.ref (u4.1 5), .ref (u4.1 6), .ref (u4.1 7), .ref (u4.1 8), .ref (u4.1 9), .ref (u4.1 10), .ref (u4.1 11), .int 0])), ((u4.1 4), .inr (3, [.ref (u4.1 12), .ref (u4.1 13), .ref (u4.1 14), .ref (u4.1 15), .ref (u4.1 16), .ref (u4.1 17), .int 0]))] H := hP
  have hD : va_D A [(h0, .inr (1, [.ref q1, .ref q3, .int 0, .int 0, .int 0, .int 0, .int 0, .int (-1), .long 0, .int 0, .int 0, .int 0, .int 0, .int 0, .int 0])), (q1, .inr (4, [.ref (u2.1 0), .int 0, .int 0, .int 0, .ref (u2.1 1), .ref (u2.1 2), .ref (u2.1 3)])), ((u2.1 0), .inl ((u2.2 0), 8192, .inl (fun _ => 0))), (q3, .inr (6, [.ref (u4.1 0), .ref (u4.1 1), .ref (u4.1 2), .ref (u4.1 3), .ref (u4.1 4)])), ((u4.1 1), .inl ((u4.2 0), 3, .inl (fun _ => 0))), ((u4.1 3), .inr (5, [.ref (u4.1 5), .ref (u4.1 6), .ref (u4.1 7), .ref (u4.1 8), .ref (u4.1 9), .ref (u4.1 10), .ref (u4.1 11), .int 0])), ((u4.1 4), .inr (3, [.ref (u4.1 12), .ref (u4.1 13), .ref (u4.1 14), .ref (u4.1 15), .ref (u4.1 16), .ref (u4.1 17), .int 0]))] := hD
  refine lv_aload_n hx hb d_As_init_81 rfl (lv_at hl 0 rfl) ?_
  refine lv_iconst (v := (-1)) hx hb d_As_init_82 (by decide) ?_
  refine va_put (D := D) (ci := 1) (v := .int (-1)) (ty := .int) (C := R_As) (T := F_As) (N := 15) hx hb hts i_As t_As t_As_ok n_As hown hK hP hD hS 0 rfl rfl 13 (by decide) (hts _ w_130) (fun _ h9 => h9) rfl (by decide +kernel) rfl rfl (Nat.le_of_ble_eq_true rfl) d_As_init_83 (fun H locs hP hD hS => ?_)
  have hP : va_P D cls [(h0, .inr (1, [.ref q1, .ref q3, .int 0, .int 0, .int 0, .int 0, .int 0, .int (-1), .long 0, .int 0, .int 0, .int 0, .int 0, .int (-1), .int 0])), (q1, .inr (4, [.ref (u2.1 0), .int 0, .int 0, .int 0, .ref (u2.1 1), .ref (u2.1 2), .ref (u2.1 3)])), ((u2.1 0), .inl ((u2.2 0), 8192, .inl (fun _ => 0))), (q3, .inr (6, [.ref (u4.1 0), .ref (u4.1 1), .ref (u4.1 2), .ref (u4.1 3), .ref (u4.1 4)])), ((u4.1 1), .inl ((u4.2 0), 3, .inl (fun _ => 0))), ((u4.1 3), .inr (5, [.ref (u4.1 5), .ref (u4.1 6), .ref (u4.1 7), .ref (u4.1 8), .ref (u4.1 9), .ref (u4.1 10), .ref (u4.1 11), .int 0])), ((u4.1 4), .inr (3, [.ref (u4.1 12), .ref (u4.1 13), .ref (u4.1 14), .ref (u4.1 15), .ref (u4.1 16), .ref (u4.1 17), .int 0]))] H := hP
  have hD : va_D A [(h0, .inr (1, [.ref q1, .ref q3, .int 0, .int 0, .int 0, .int 0, .int 0, .int (-1), .long 0, .int 0, .int 0, .int 0, .int 0, .int (-1), .int 0])), (q1, .inr (4, [.ref (u2.1 0), .int 0, .int 0, .int 0, .ref (u2.1 1), .ref (u2.1 2), .ref (u2.1 3)])), ((u2.1 0), .inl ((u2.2 0), 8192, .inl (fun _ => 0))), (q3, .inr (6, [.ref (u4.1 0), .ref (u4.1 1), .ref (u4.1 2), .ref (u4.1 3), .ref (u4.1 4)])), ((u4.1 1), .inl ((u4.2 0), 3, .inl (fun _ => 0))), ((u4.1 3), .inr (5, [.ref (u4.1 5), .ref (u4.1 6), .ref (u4.1 7), .ref (u4.1 8), .ref (u4.1 9), .ref (u4.1 10), .ref (u4.1 11), .int 0])), ((u4.1 4), .inr (3, [.ref (u4.1 12), .ref (u4.1 13), .ref (u4.1 14), .ref (u4.1 15), .ref (u4.1 16), .ref (u4.1 17), .int 0]))] := hD
  refine lv_aload_n hx hb d_As_init_86 rfl (lv_at hl 0 rfl) ?_
  refine lv_iconst (v := (-1)) hx hb d_As_init_87 (by decide) ?_
  refine va_put (D := D) (ci := 1) (v := .int (-1)) (ty := .int) (C := R_As) (T := F_As) (N := 15) hx hb hts i_As t_As t_As_ok n_As hown hK hP hD hS 0 rfl rfl 14 (by decide) (hts _ w_131) (fun _ h9 => h9) rfl (by decide +kernel) rfl rfl (Nat.le_of_ble_eq_true rfl) d_As_init_88 (fun H locs hP hD hS => ?_)
  have hP : va_P D cls [(h0, .inr (1, [.ref q1, .ref q3, .int 0, .int 0, .int 0, .int 0, .int 0, .int (-1), .long 0, .int 0, .int 0, .int 0, .int 0, .int (-1), .int (-1)])), (q1, .inr (4, [.ref (u2.1 0), .int 0, .int 0, .int 0, .ref (u2.1 1), .ref (u2.1 2), .ref (u2.1 3)])), ((u2.1 0), .inl ((u2.2 0), 8192, .inl (fun _ => 0))), (q3, .inr (6, [.ref (u4.1 0), .ref (u4.1 1), .ref (u4.1 2), .ref (u4.1 3), .ref (u4.1 4)])), ((u4.1 1), .inl ((u4.2 0), 3, .inl (fun _ => 0))), ((u4.1 3), .inr (5, [.ref (u4.1 5), .ref (u4.1 6), .ref (u4.1 7), .ref (u4.1 8), .ref (u4.1 9), .ref (u4.1 10), .ref (u4.1 11), .int 0])), ((u4.1 4), .inr (3, [.ref (u4.1 12), .ref (u4.1 13), .ref (u4.1 14), .ref (u4.1 15), .ref (u4.1 16), .ref (u4.1 17), .int 0]))] H := hP
  have hD : va_D A [(h0, .inr (1, [.ref q1, .ref q3, .int 0, .int 0, .int 0, .int 0, .int 0, .int (-1), .long 0, .int 0, .int 0, .int 0, .int 0, .int (-1), .int (-1)])), (q1, .inr (4, [.ref (u2.1 0), .int 0, .int 0, .int 0, .ref (u2.1 1), .ref (u2.1 2), .ref (u2.1 3)])), ((u2.1 0), .inl ((u2.2 0), 8192, .inl (fun _ => 0))), (q3, .inr (6, [.ref (u4.1 0), .ref (u4.1 1), .ref (u4.1 2), .ref (u4.1 3), .ref (u4.1 4)])), ((u4.1 1), .inl ((u4.2 0), 3, .inl (fun _ => 0))), ((u4.1 3), .inr (5, [.ref (u4.1 5), .ref (u4.1 6), .ref (u4.1 7), .ref (u4.1 8), .ref (u4.1 9), .ref (u4.1 10), .ref (u4.1 11), .int 0])), ((u4.1 4), .inr (3, [.ref (u4.1 12), .ref (u4.1 13), .ref (u4.1 14), .ref (u4.1 15), .ref (u4.1 16), .ref (u4.1 17), .int 0]))] := hD
  exact xr_v hx hb hr hlocks hP hD hK hS (((fun k => [q1, q3, (u2.1 0), (u2.1 1), (u2.1 2), (u2.1 3), (u4.1 0), (u4.1 1), (u4.1 2), (u4.1 3), (u4.1 4), (u4.1 5), (u4.1 6), (u4.1 7), (u4.1 8), (u4.1 9), (u4.1 10), (u4.1 11), (u4.1 12), (u4.1 13), (u4.1 14), (u4.1 15), (u4.1 16), (u4.1 17)].getD k 0), (fun k => [(u2.2 0), (u4.2 0)].getD k 0))) [0, 1, 2, 3, 4, 5, 6] rfl rfl (by decide) [0, 1] rfl rfl d_As_init_91
end
section
theorem d_OF_init_0 : decode b_OF_init 0 = .ok (.aload_n 0, 1) := by decide +kernel
theorem d_OF_init_1 : decode b_OF_init 1 = .ok (.invokespecial 1, 3) := by decide +kernel
theorem d_OF_init_4 : decode b_OF_init 4 = .ok (.aload_n 0, 1) := by decide +kernel
theorem d_OF_init_5 : decode b_OF_init 5 = .ok (.new 7, 3) := by decide +kernel
theorem d_OF_init_8 : decode b_OF_init 8 = .ok (.dup, 1) := by decide +kernel
theorem d_OF_init_9 : decode b_OF_init 9 = .ok (.invokespecial 9, 3) := by decide +kernel
theorem d_OF_init_12 : decode b_OF_init 12 = .ok (.putfield 10, 3) := by decide +kernel
theorem d_OF_init_15 : decode b_OF_init 15 = .ok (.aload_n 0, 1) := by decide +kernel
theorem d_OF_init_16 : decode b_OF_init 16 = .ok (.new 16, 3) := by decide +kernel
theorem d_OF_init_19 : decode b_OF_init 19 = .ok (.dup, 1) := by decide +kernel
theorem d_OF_init_20 : decode b_OF_init 20 = .ok (.invokespecial 18, 3) := by decide +kernel
theorem d_OF_init_23 : decode b_OF_init 23 = .ok (.putfield 19, 3) := by decide +kernel
theorem d_OF_init_26 : decode b_OF_init 26 = .ok (.aload_n 0, 1) := by decide +kernel
theorem d_OF_init_27 : decode b_OF_init 27 = .ok (.bipush 8, 2) := by decide +kernel
theorem d_OF_init_29 : decode b_OF_init 29 = .ok (.anewarray 23, 3) := by decide +kernel
theorem d_OF_init_32 : decode b_OF_init 32 = .ok (.putfield 25, 3) := by decide +kernel
theorem d_OF_init_35 : decode b_OF_init 35 = .ok (.aload_n 0, 1) := by decide +kernel
theorem d_OF_init_36 : decode b_OF_init 36 = .ok (.iconst 0, 1) := by decide +kernel
theorem d_OF_init_37 : decode b_OF_init 37 = .ok (.putfield 29, 3) := by decide +kernel
theorem d_OF_init_40 : decode b_OF_init 40 = .ok (.iconst 0, 1) := by decide +kernel
theorem d_OF_init_41 : decode b_OF_init 41 = .ok (.istore_n 1, 1) := by decide +kernel
theorem d_OF_init_42 : decode b_OF_init 42 = .ok (.iload_n 1, 1) := by decide +kernel
theorem d_OF_init_43 : decode b_OF_init 43 = .ok (.bipush 8, 2) := by decide +kernel
theorem d_OF_init_45 : decode b_OF_init 45 = .ok (.if_icmp .ge 22, 3) := by decide +kernel
theorem d_OF_init_48 : decode b_OF_init 48 = .ok (.aload_n 0, 1) := by decide +kernel
theorem d_OF_init_49 : decode b_OF_init 49 = .ok (.getfield 25, 3) := by decide +kernel
theorem d_OF_init_52 : decode b_OF_init 52 = .ok (.iload_n 1, 1) := by decide +kernel
theorem d_OF_init_53 : decode b_OF_init 53 = .ok (.new 23, 3) := by decide +kernel
theorem d_OF_init_56 : decode b_OF_init 56 = .ok (.dup, 1) := by decide +kernel
theorem d_OF_init_57 : decode b_OF_init 57 = .ok (.invokespecial 33, 3) := by decide +kernel
theorem d_OF_init_60 : decode b_OF_init 60 = .ok (.aastore, 1) := by decide +kernel
theorem d_OF_init_61 : decode b_OF_init 61 = .ok (.iinc 1 1, 3) := by decide +kernel
theorem d_OF_init_64 : decode b_OF_init 64 = .ok (.goto (-22), 3) := by decide +kernel
theorem d_OF_init_67 : decode b_OF_init 67 = .ok (.return_, 1) := by decide +kernel
set_option maxHeartbeats 4000000 in
set_option maxRecDepth 100000 in
theorem c_OF_init (l : Launch) (D : va_G) (h0 : Nat) (sz : Nat) : Met l y_OF_init (Cond.code y_OF_init b_OF_init 2 none :: bw) (xR 4 198 170657) (va_Pc [.ref h0] (xP D [] sz [(h0, .inr (0, [.null, .null, .null, .int 0]))])) (xQ (S := ((Nat → Nat) × (Nat → ClassId) × (Nat → Option Nat))) (fun u => none) (fun u => [(h0, .inr (0, [.ref (u.1 0), .ref (u.1 1), .ref (u.1 2), .int 0])), ((u.1 0), .inr (1, [.ref (u.1 3), .ref (u.1 4), .int 0, .int 0, .int 0, .int 0, .int 0, .int (-1), .long 0, .int 0, .int 0, .int 0, .int 0, .int (-1), .int (-1)])), ((u.1 3), .inr (4, [.ref (u.1 5), .int 0, .int 0, .int 0, .ref (u.1 6), .ref (u.1 7), .ref (u.1 8)])), ((u.1 5), .inl ((u.2.1 0), 8192, .inl (fun _ => 0))), ((u.1 1), .inr (2, [.ref (u.1 27), .int 0, .int 0, .int 0, .int 0, .int (-1), .int (-1)])), ((u.1 4), .inr (6, [.ref (u.1 9), .ref (u.1 10), .ref (u.1 11), .ref (u.1 12), .ref (u.1 13)])), ((u.1 10), .inl ((u.2.1 1), 3, .inl (fun _ => 0))), ((u.1 12), .inr (5, [.ref (u.1 14), .ref (u.1 15), .ref (u.1 16), .ref (u.1 17), .ref (u.1 18), .ref (u.1 19), .ref (u.1 20), .int 0])), ((u.1 13), .inr (3, [.ref (u.1 21), .ref (u.1 22), .ref (u.1 23), .ref (u.1 24), .ref (u.1 25), .ref (u.1 26), .int 0])), ((u.1 2), .inl ((u.2.1 2), 8, .inr (.inr (.inr (.inr (u.2.2))))))]) (fun u => [((u.2.1 0), .byte), ((u.2.1 1), .int), ((u.2.1 2), .object "ObjectForge$Unit")]) D (va_A [(h0, .inr (0, [.null, .null, .null, .int 0]))] sz)) 198 170657 (va_A [(h0, .inr (0, [.null, .null, .null, .int 0]))] sz) := by
  refine Met.ofW (cc := b_OF_init) (maxL := 2) (ret := none) (by decide) rfl ?_
  intro p e s m args below meth c s₁ B hml hv
  obtain ⟨rfl, hsz, hP, hK, hD0, hN, hZ⟩ := hv
  have hx := B.exec
  have hb := B.bytes
  have hr := B.returns
  have hlocks := B.notSynchronized
  have hts : ∀ w ∈ bw, w.before _ s = true := fun w h => atoms_spec (ws := Cond.code y_OF_init b_OF_init 2 none :: bw) B.pre w (List.mem_cons_of_mem _ h)
  have hown : s.vm.findClass "ObjectForge" = some m.cls := findClass_of_methodNamed B.named
  have hin : meth.name = "<init>" := (name_of_methodNamed B.named B.method).1
  subst hsz
  have hP0 := hP
  have hD := hD0.self (sz := s.heap.size)
  generalize hAe : va_A [(h0, .inr (0, [.null, .null, .null, .int 0]))] s.heap.size = A at hD hZ ⊢
  have hA : ∀ q : Nat, s.heap.size ≤ q → A q := fun q h => by rw [← hAe]; exact Or.inr h
  have hS : va_S A s.heap s.heap [] := va_S.rf
  have hl := lv_entry ([.ref h0]) (n := 2) (Nat.le_of_ble_eq_true rfl)
  rw [lg_entry_eq]
  generalize (lg_sl ([.ref h0]) ++ List.replicate (2 - (lg_sl ([.ref h0])).length) Slot.unset).toArray = ls at hl ⊢
  have hl : lv_has ls 2 [(0, .ref h0)] := hl
  refine lv_aload_n hx hb d_OF_init_0 rfl (lv_at hl 0 rfl) ?_
  refine W.objInit hx hb hown (hts _ w_21) (hts _ w_22) (hts _ w_23) rfl (by rw [hml]; exact hl.1) rfl d_OF_init_1 (Nat.le_of_ble_eq_true rfl) (Nat.le_of_ble_eq_true rfl) ?_
  refine W.eq (g2 := F0 m 4 ls []) rfl ?_
  refine lv_aload_n hx hb d_OF_init_4 rfl (lv_at hl 0 rfl) ?_
  refine va_new (ci := 1) (fs := [.null, .null, .int 0, .int 0, .int 0, .int 0, .int 0, .int 0, .long 0, .int 0, .int 0, .int 0, .int 0, .int 0, .int 0]) (C := R_As) (T := F_As) (N := 15) hx hb hts i_As t_As t_As_ok hown (hts _ w_24) (hts _ w_25) (hts _ w_2) hK hP hD hS hA rfl (by decide) (Nat.le_of_ble_eq_true rfl) (Nat.le_of_ble_eq_true rfl) d_OF_init_5 (fun q1 H hP hD hS => ?_)
  have hP : va_P D cls [(h0, .inr (0, [.null, .null, .null, .int 0])), (q1, .inr (1, [.null, .null, .int 0, .int 0, .int 0, .int 0, .int 0, .int 0, .long 0, .int 0, .int 0, .int 0, .int 0, .int 0, .int 0]))] H := hP
  have hD : va_D A [(h0, .inr (0, [.null, .null, .null, .int 0])), (q1, .inr (1, [.null, .null, .int 0, .int 0, .int 0, .int 0, .int 0, .int 0, .long 0, .int 0, .int 0, .int 0, .int 0, .int 0, .int 0]))] := hD
  refine W.widen (k := 1) (n := 15) (by omega) (by omega) ?_
  refine lv_dup hx hb d_OF_init_8 rfl ?_
  refine xc_IN (As := []) (rest := [.ref q1, .ref h0]) (wc := [(q1, .inr (1, [.null, .null, .int 0, .int 0, .int 0, .int 0, .int 0, .int 0, .long 0, .int 0, .int 0, .int 0, .int 0, .int 0, .int 0]))]) (wr := [(h0, .inr (0, [.null, .null, .null, .int 0]))]) (tc := []) (tr := []) ⟨hx, hb, hml, hown, hts⟩ (c_As_init l D q1 H.size) rfl rfl rfl w_27 (by simp [xnM]) w_26 w_2 (by decide +kernel) ⟨Nat.le_of_ble_eq_true rfl, Nat.le_of_ble_eq_true rfl⟩ hP hD hK hS hA hN hZ [1] [0] rfl rfl (by decide) (by decide) (by decide) [] [] rfl rfl rfl hl.1 rfl (Nat.le_of_ble_eq_true rfl) d_OF_init_9 ⟨Nat.le_of_ble_eq_true rfl, Nat.le_of_ble_eq_true rfl⟩ (fun u2 H locs hP hD hK hS => ?_)
  have hP : va_P D cls [(h0, .inr (0, [.null, .null, .null, .int 0])), (q1, .inr (1, [.ref (u2.1 0), .ref (u2.1 1), .int 0, .int 0, .int 0, .int 0, .int 0, .int (-1), .long 0, .int 0, .int 0, .int 0, .int 0, .int (-1), .int (-1)])), ((u2.1 0), .inr (4, [.ref (u2.1 2), .int 0, .int 0, .int 0, .ref (u2.1 3), .ref (u2.1 4), .ref (u2.1 5)])), ((u2.1 2), .inl ((u2.2 0), 8192, .inl (fun _ => 0))), ((u2.1 1), .inr (6, [.ref (u2.1 6), .ref (u2.1 7), .ref (u2.1 8), .ref (u2.1 9), .ref (u2.1 10)])), ((u2.1 7), .inl ((u2.2 1), 3, .inl (fun _ => 0))), ((u2.1 9), .inr (5, [.ref (u2.1 11), .ref (u2.1 12), .ref (u2.1 13), .ref (u2.1 14), .ref (u2.1 15), .ref (u2.1 16), .ref (u2.1 17), .int 0])), ((u2.1 10), .inr (3, [.ref (u2.1 18), .ref (u2.1 19), .ref (u2.1 20), .ref (u2.1 21), .ref (u2.1 22), .ref (u2.1 23), .int 0]))] H := hP
  have hD : va_D A [(h0, .inr (0, [.null, .null, .null, .int 0])), (q1, .inr (1, [.ref (u2.1 0), .ref (u2.1 1), .int 0, .int 0, .int 0, .int 0, .int 0, .int (-1), .long 0, .int 0, .int 0, .int 0, .int 0, .int (-1), .int (-1)])), ((u2.1 0), .inr (4, [.ref (u2.1 2), .int 0, .int 0, .int 0, .ref (u2.1 3), .ref (u2.1 4), .ref (u2.1 5)])), ((u2.1 2), .inl ((u2.2 0), 8192, .inl (fun _ => 0))), ((u2.1 1), .inr (6, [.ref (u2.1 6), .ref (u2.1 7), .ref (u2.1 8), .ref (u2.1 9), .ref (u2.1 10)])), ((u2.1 7), .inl ((u2.2 1), 3, .inl (fun _ => 0))), ((u2.1 9), .inr (5, [.ref (u2.1 11), .ref (u2.1 12), .ref (u2.1 13), .ref (u2.1 14), .ref (u2.1 15), .ref (u2.1 16), .ref (u2.1 17), .int 0])), ((u2.1 10), .inr (3, [.ref (u2.1 18), .ref (u2.1 19), .ref (u2.1 20), .ref (u2.1 21), .ref (u2.1 22), .ref (u2.1 23), .int 0]))] := hD
  have hK : va_K D cls [((u2.2 0), .byte), ((u2.2 1), .int)] s := hK
  refine W.widen (k := 27) (n := 44466) (by omega) (by omega) ?_
  refine W.eq (g2 := F0 m 12 ls [.ref q1, .ref h0]) rfl ?_
  refine va_putF (D := D) (ci := 0) (v := .ref q1) (ty := .object "ObjectForge$Assembler") (C := R_OF) (T := F_OF) (N := 4) hx hb hts i_OF t_OF t_OF_ok n_OF hown hK hP hD hS 0 rfl rfl 0 (by decide) (hts _ w_150) (fun _ h9 => h9) rfl hin rfl (by decide +kernel) rfl rfl (Nat.le_of_ble_eq_true rfl) d_OF_init_12 (fun H locs hP hD hS => ?_)
  have hP : va_P D cls [(h0, .inr (0, [.ref q1, .null, .null, .int 0])), (q1, .inr (1, [.ref (u2.1 0), .ref (u2.1 1), .int 0, .int 0, .int 0, .int 0, .int 0, .int (-1), .long 0, .int 0, .int 0, .int 0, .int 0, .int (-1), .int (-1)])), ((u2.1 0), .inr (4, [.ref (u2.1 2), .int 0, .int 0, .int 0, .ref (u2.1 3), .ref (u2.1 4), .ref (u2.1 5)])), ((u2.1 2), .inl ((u2.2 0), 8192, .inl (fun _ => 0))), ((u2.1 1), .inr (6, [.ref (u2.1 6), .ref (u2.1 7), .ref (u2.1 8), .ref (u2.1 9), .ref (u2.1 10)])), ((u2.1 7), .inl ((u2.2 1), 3, .inl (fun _ => 0))), ((u2.1 9), .inr (5, [.ref (u2.1 11), .ref (u2.1 12), .ref (u2.1 13), .ref (u2.1 14), .ref (u2.1 15), .ref (u2.1 16), .ref (u2.1 17), .int 0])), ((u2.1 10), .inr (3, [.ref (u2.1 18), .ref (u2.1 19), .ref (u2.1 20), .ref (u2.1 21), .ref (u2.1 22), .ref (u2.1 23), .int 0]))] H := hP
  have hD : va_D A [(h0, .inr (0, [.ref q1, .null, .null, .int 0])), (q1, .inr (1, [.ref (u2.1 0), .ref (u2.1 1), .int 0, .int 0, .int 0, .int 0, .int 0, .int (-1), .long 0, .int 0, .int 0, .int 0, .int 0, .int (-1), .int (-1)])), ((u2.1 0), .inr (4, [.ref (u2.1 2), .int 0, .int 0, .int 0, .ref (u2.1 3), .ref (u2.1 4), .ref (u2.1 5)])), ((u2.1 2), .inl ((u2.2 0), 8192, .inl (fun _ => 0))), ((u2.1 1), .inr (6, [.ref (u2.1 6), .ref (u2.1 7), .ref (u2.1 8), .ref (u2.1 9), .ref (u2.1 10)])), ((u2.1 7), .inl ((u2.2 1), 3, .inl (fun _ => 0))), ((u2.1 9), .inr (5, [.ref (u2.1 11), .ref (u2.1 12), .ref (u2.1 13), .ref (u2.1 14), .ref (u2.1 15), .ref (u2.1 16), .ref (u2.1 17), .int 0])), ((u2.1 10), .inr (3, [.ref (u2.1 18), .ref (u2.1 19), .ref (u2.1 20), .ref (u2.1 21), .ref (u2.1 22), .ref (u2.1 23), .int 0]))] := hD
  refine lv_aload_n hx hb d_OF_init_15 rfl (lv_at hl 0 rfl) ?_
  refine va_new (ci := 2) (fs := [.null, .int 0, .int 0, .int 0, .int 0, .int 0, .int 0]) (C := R_Li) (T := F_Li) (N := 7) hx hb hts i_Li t_Li t_Li_ok hown (hts _ w_132) (hts _ w_133) (hts _ w_7) hK hP hD hS hA rfl (by decide) (Nat.le_of_ble_eq_true rfl) (Nat.le_of_ble_eq_true rfl) d_OF_init_16 (fun q3 H hP hD hS => ?_)
  have hP : va_P D cls [(h0, .inr (0, [.ref q1, .null, .null, .int 0])), (q1, .inr (1, [.ref (u2.1 0), .ref (u2.1 1), .int 0, .int 0, .int 0, .int 0, .int 0, .int (-1), .long 0, .int 0, .int 0, .int 0, .int 0, .int (-1), .int (-1)])), ((u2.1 0), .inr (4, [.ref (u2.1 2), .int 0, .int 0, .int 0, .ref (u2.1 3), .ref (u2.1 4), .ref (u2.1 5)])), ((u2.1 2), .inl ((u2.2 0), 8192, .inl (fun _ => 0))), ((u2.1 1), .inr (6, [.ref (u2.1 6), .ref (u2.1 7), .ref (u2.1 8), .ref (u2.1 9), .ref (u2.1 10)])), ((u2.1 7), .inl ((u2.2 1), 3, .inl (fun _ => 0))), ((u2.1 9), .inr (5, [.ref (u2.1 11), .ref (u2.1 12), .ref (u2.1 13), .ref (u2.1 14), .ref (u2.1 15), .ref (u2.1 16), .ref (u2.1 17), .int 0])), ((u2.1 10), .inr (3, [.ref (u2.1 18), .ref (u2.1 19), .ref (u2.1 20), .ref (u2.1 21), .ref (u2.1 22), .ref (u2.1 23), .int 0])), (q3, .inr (2, [.null, .int 0, .int 0, .int 0, .int 0, .int 0, .int 0]))] H := hP
  have hD : va_D A [(h0, .inr (0, [.ref q1, .null, .null, .int 0])), (q1, .inr (1, [.ref (u2.1 0), .ref (u2.1 1), .int 0, .int 0, .int 0, .int 0, .int 0, .int (-1), .long 0, .int 0, .int 0, .int 0, .int 0, .int (-1), .int (-1)])), ((u2.1 0), .inr (4, [.ref (u2.1 2), .int 0, .int 0, .int 0, .ref (u2.1 3), .ref (u2.1 4), .ref (u2.1 5)])), ((u2.1 2), .inl ((u2.2 0), 8192, .inl (fun _ => 0))), ((u2.1 1), .inr (6, [.ref (u2.1 6), .ref (u2.1 7), .ref (u2.1 8), .ref (u2.1 9), .ref (u2.1 10)])), ((u2.1 7), .inl ((u2.2 1), 3, .inl (fun _ => 0))), ((u2.1 9), .inr (5, [.ref (u2.1 11), .ref (u2.1 12), .ref (u2.1 13), .ref (u2.1 14), .ref (u2.1 15), .ref (u2.1 16), .ref (u2.1 17), .int 0])), ((u2.1 10), .inr (3, [.ref (u2.1 18), .ref (u2.1 19), .ref (u2.1 20), .ref (u2.1 21), .ref (u2.1 22), .ref (u2.1 23), .int 0])), (q3, .inr (2, [.null, .int 0, .int 0, .int 0, .int 0, .int 0, .int 0]))] := hD
  refine W.widen (k := 28) (n := 44473) (by omega) (by omega) ?_
  refine lv_dup hx hb d_OF_init_19 rfl ?_
  refine xc_IN (As := []) (rest := [.ref q3, .ref h0]) (wc := [(q3, .inr (2, [.null, .int 0, .int 0, .int 0, .int 0, .int 0, .int 0]))]) (wr := [(h0, .inr (0, [.ref q1, .null, .null, .int 0])), (q1, .inr (1, [.ref (u2.1 0), .ref (u2.1 1), .int 0, .int 0, .int 0, .int 0, .int 0, .int (-1), .long 0, .int 0, .int 0, .int 0, .int 0, .int (-1), .int (-1)])), ((u2.1 0), .inr (4, [.ref (u2.1 2), .int 0, .int 0, .int 0, .ref (u2.1 3), .ref (u2.1 4), .ref (u2.1 5)])), ((u2.1 2), .inl ((u2.2 0), 8192, .inl (fun _ => 0))), ((u2.1 1), .inr (6, [.ref (u2.1 6), .ref (u2.1 7), .ref (u2.1 8), .ref (u2.1 9), .ref (u2.1 10)])), ((u2.1 7), .inl ((u2.2 1), 3, .inl (fun _ => 0))), ((u2.1 9), .inr (5, [.ref (u2.1 11), .ref (u2.1 12), .ref (u2.1 13), .ref (u2.1 14), .ref (u2.1 15), .ref (u2.1 16), .ref (u2.1 17), .int 0])), ((u2.1 10), .inr (3, [.ref (u2.1 18), .ref (u2.1 19), .ref (u2.1 20), .ref (u2.1 21), .ref (u2.1 22), .ref (u2.1 23), .int 0]))]) (tc := []) (tr := [((u2.2 0), .byte), ((u2.2 1), .int)]) ⟨hx, hb, hml, hown, hts⟩ (c_Li_init l D q3 H.size) rfl rfl rfl w_135 (by simp [xnM]) w_134 w_7 (by decide +kernel) ⟨Nat.le_of_ble_eq_true rfl, Nat.le_of_ble_eq_true rfl⟩ hP hD hK hS hA hN hZ [8] [0, 1, 2, 3, 4, 5, 6, 7] rfl rfl (by decide) (by decide) (by decide) [] [0, 1] rfl rfl rfl hl.1 rfl (Nat.le_of_ble_eq_true rfl) d_OF_init_20 ⟨Nat.le_of_ble_eq_true rfl, Nat.le_of_ble_eq_true rfl⟩ (fun u4 H locs hP hD hK hS => ?_)
  have hP : va_P D cls [(h0, .inr (0, [.ref q1, .null, .null, .int 0])), (q1, .inr (1, [.ref (u2.1 0), .ref (u2.1 1), .int 0, .int 0, .int 0, .int 0, .int 0, .int (-1), .long 0, .int 0, .int 0, .int 0, .int 0, .int (-1), .int (-1)])), ((u2.1 0), .inr (4, [.ref (u2.1 2), .int 0, .int 0, .int 0, .ref (u2.1 3), .ref (u2.1 4), .ref (u2.1 5)])), ((u2.1 2), .inl ((u2.2 0), 8192, .inl (fun _ => 0))), ((u2.1 1), .inr (6, [.ref (u2.1 6), .ref (u2.1 7), .ref (u2.1 8), .ref (u2.1 9), .ref (u2.1 10)])), ((u2.1 7), .inl ((u2.2 1), 3, .inl (fun _ => 0))), ((u2.1 9), .inr (5, [.ref (u2.1 11), .ref (u2.1 12), .ref (u2.1 13), .ref (u2.1 14), .ref (u2.1 15), .ref (u2.1 16), .ref (u2.1 17), .int 0])), ((u2.1 10), .inr (3, [.ref (u2.1 18), .ref (u2.1 19), .ref (u2.1 20), .ref (u2.1 21), .ref (u2.1 22), .ref (u2.1 23), .int 0])), (q3, .inr (2, [.ref (u4.1 0), .int 0, .int 0, .int 0, .int 0, .int (-1), .int (-1)]))] H := hP
  have hD : va_D A [(h0, .inr (0, [.ref q1, .null, .null, .int 0])), (q1, .inr (1, [.ref (u2.1 0), .ref (u2.1 1), .int 0, .int 0, .int 0, .int 0, .int 0, .int (-1), .long 0, .int 0, .int 0, .int 0, .int 0, .int (-1), .int (-1)])), ((u2.1 0), .inr (4, [.ref (u2.1 2), .int 0, .int 0, .int 0, .ref (u2.1 3), .ref (u2.1 4), .ref (u2.1 5)])), ((u2.1 2), .inl ((u2.2 0), 8192, .inl (fun _ => 0))), ((u2.1 1), .inr (6, [.ref (u2.1 6), .ref (u2.1 7), .ref (u2.1 8), .ref (u2.1 9), .ref (u2.1 10)])), ((u2.1 7), .inl ((u2.2 1), 3, .inl (fun _ => 0))), ((u2.1 9), .inr (5, [.ref (u2.1 11), .ref (u2.1 12), .ref (u2.1 13), .ref (u2.1 14), .ref (u2.1 15), .ref (u2.1 16), .ref (u2.1 17), .int 0])), ((u2.1 10), .inr (3, [.ref (u2.1 18), .ref (u2.1 19), .ref (u2.1 20), .ref (u2.1 21), .ref (u2.1 22), .ref (u2.1 23), .int 0])), (q3, .inr (2, [.ref (u4.1 0), .int 0, .int 0, .int 0, .int 0, .int (-1), .int (-1)]))] := hD
  have hK : va_K D cls [((u2.2 0), .byte), ((u2.2 1), .int)] s := hK
  refine W.widen (k := 29) (n := 77241) (by omega) (by omega) ?_
  refine W.eq (g2 := F0 m 23 ls [.ref q3, .ref h0]) rfl ?_
  refine va_putF (D := D) (ci := 0) (v := .ref q3) (ty := .object "ObjectForge$Linker") (C := R_OF) (T := F_OF) (N := 4) hx hb hts i_OF t_OF t_OF_ok n_OF hown hK hP hD hS 0 rfl rfl 1 (by decide) (hts _ w_151) (fun _ h9 => h9) rfl hin rfl (by decide +kernel) rfl rfl (Nat.le_of_ble_eq_true rfl) d_OF_init_23 (fun H locs hP hD hS => ?_)
  have hP : va_P D cls [(h0, .inr (0, [.ref q1, .ref q3, .null, .int 0])), (q1, .inr (1, [.ref (u2.1 0), .ref (u2.1 1), .int 0, .int 0, .int 0, .int 0, .int 0, .int (-1), .long 0, .int 0, .int 0, .int 0, .int 0, .int (-1), .int (-1)])), ((u2.1 0), .inr (4, [.ref (u2.1 2), .int 0, .int 0, .int 0, .ref (u2.1 3), .ref (u2.1 4), .ref (u2.1 5)])), ((u2.1 2), .inl ((u2.2 0), 8192, .inl (fun _ => 0))), ((u2.1 1), .inr (6, [.ref (u2.1 6), .ref (u2.1 7), .ref (u2.1 8), .ref (u2.1 9), .ref (u2.1 10)])), ((u2.1 7), .inl ((u2.2 1), 3, .inl (fun _ => 0))), ((u2.1 9), .inr (5, [.ref (u2.1 11), .ref (u2.1 12), .ref (u2.1 13), .ref (u2.1 14), .ref (u2.1 15), .ref (u2.1 16), .ref (u2.1 17), .int 0])), ((u2.1 10), .inr (3, [.ref (u2.1 18), .ref (u2.1 19), .ref (u2.1 20), .ref (u2.1 21), .ref (u2.1 22), .ref (u2.1 23), .int 0])), (q3, .inr (2, [.ref (u4.1 0), .int 0, .int 0, .int 0, .int 0, .int (-1), .int (-1)]))] H := hP
  have hD : va_D A [(h0, .inr (0, [.ref q1, .ref q3, .null, .int 0])), (q1, .inr (1, [.ref (u2.1 0), .ref (u2.1 1), .int 0, .int 0, .int 0, .int 0, .int 0, .int (-1), .long 0, .int 0, .int 0, .int 0, .int 0, .int (-1), .int (-1)])), ((u2.1 0), .inr (4, [.ref (u2.1 2), .int 0, .int 0, .int 0, .ref (u2.1 3), .ref (u2.1 4), .ref (u2.1 5)])), ((u2.1 2), .inl ((u2.2 0), 8192, .inl (fun _ => 0))), ((u2.1 1), .inr (6, [.ref (u2.1 6), .ref (u2.1 7), .ref (u2.1 8), .ref (u2.1 9), .ref (u2.1 10)])), ((u2.1 7), .inl ((u2.2 1), 3, .inl (fun _ => 0))), ((u2.1 9), .inr (5, [.ref (u2.1 11), .ref (u2.1 12), .ref (u2.1 13), .ref (u2.1 14), .ref (u2.1 15), .ref (u2.1 16), .ref (u2.1 17), .int 0])), ((u2.1 10), .inr (3, [.ref (u2.1 18), .ref (u2.1 19), .ref (u2.1 20), .ref (u2.1 21), .ref (u2.1 22), .ref (u2.1 23), .int 0])), (q3, .inr (2, [.ref (u4.1 0), .int 0, .int 0, .int 0, .int 0, .int (-1), .int (-1)]))] := hD
  refine lv_aload_n hx hb d_OF_init_26 rfl (lv_at hl 0 rfl) ?_
  refine lv_bipush (v := 8) hx hb d_OF_init_27 (by decide) ?_
  refine va_newq (n := 8) (N' := 8) hx hb hown (hts _ w_149) hN.2.2.2.2.1 hK hP hD hS hA (by decide) (by decide) (by decide) (Nat.le_of_ble_eq_true rfl) (Nat.le_of_ble_eq_true rfl) d_OF_init_29 (fun q5 cq5 H hK hP hD hS => ?_)
  have hP : va_P D cls [(h0, .inr (0, [.ref q1, .ref q3, .null, .int 0])), (q1, .inr (1, [.ref (u2.1 0), .ref (u2.1 1), .int 0, .int 0, .int 0, .int 0, .int 0, .int (-1), .long 0, .int 0, .int 0, .int 0, .int 0, .int (-1), .int (-1)])), ((u2.1 0), .inr (4, [.ref (u2.1 2), .int 0, .int 0, .int 0, .ref (u2.1 3), .ref (u2.1 4), .ref (u2.1 5)])), ((u2.1 2), .inl ((u2.2 0), 8192, .inl (fun _ => 0))), ((u2.1 1), .inr (6, [.ref (u2.1 6), .ref (u2.1 7), .ref (u2.1 8), .ref (u2.1 9), .ref (u2.1 10)])), ((u2.1 7), .inl ((u2.2 1), 3, .inl (fun _ => 0))), ((u2.1 9), .inr (5, [.ref (u2.1 11), .ref (u2.1 12), .ref (u2.1 13), .ref (u2.1 14), .ref (u2.1 15), .ref (u2.1 16), .ref (u2.1 17), .int 0])), ((u2.1 10), .inr (3, [.ref (u2.1 18), .ref (u2.1 19), .ref (u2.1 20), .ref (u2.1 21), .ref (u2.1 22), .ref (u2.1 23), .int 0])), (q3, .inr (2, [.ref (u4.1 0), .int 0, .int 0, .int 0, .int 0, .int (-1), .int (-1)])), (q5, .inl (cq5, 8, .inr (.inr (.inr (.inr (fun _ => none))))))] H := hP
  have hD : va_D A [(h0, .inr (0, [.ref q1, .ref q3, .null, .int 0])), (q1, .inr (1, [.ref (u2.1 0), .ref (u2.1 1), .int 0, .int 0, .int 0, .int 0, .int 0, .int (-1), .long 0, .int 0, .int 0, .int 0, .int 0, .int (-1), .int (-1)])), ((u2.1 0), .inr (4, [.ref (u2.1 2), .int 0, .int 0, .int 0, .ref (u2.1 3), .ref (u2.1 4), .ref (u2.1 5)])), ((u2.1 2), .inl ((u2.2 0), 8192, .inl (fun _ => 0))), ((u2.1 1), .inr (6, [.ref (u2.1 6), .ref (u2.1 7), .ref (u2.1 8), .ref (u2.1 9), .ref (u2.1 10)])), ((u2.1 7), .inl ((u2.2 1), 3, .inl (fun _ => 0))), ((u2.1 9), .inr (5, [.ref (u2.1 11), .ref (u2.1 12), .ref (u2.1 13), .ref (u2.1 14), .ref (u2.1 15), .ref (u2.1 16), .ref (u2.1 17), .int 0])), ((u2.1 10), .inr (3, [.ref (u2.1 18), .ref (u2.1 19), .ref (u2.1 20), .ref (u2.1 21), .ref (u2.1 22), .ref (u2.1 23), .int 0])), (q3, .inr (2, [.ref (u4.1 0), .int 0, .int 0, .int 0, .int 0, .int (-1), .int (-1)])), (q5, .inl (cq5, 8, .inr (.inr (.inr (.inr (fun _ => none))))))] := hD
  have hK : va_K D cls [((u2.2 0), .byte), ((u2.2 1), .int), (cq5, .object "ObjectForge$Unit")] s := hK
  refine W.widen (k := 30) (n := 77249) (by omega) (by omega) ?_
  refine va_putF (D := D) (ci := 0) (v := .ref q5) (ty := .array (.object "ObjectForge$Unit")) (C := R_OF) (T := F_OF) (N := 4) hx hb hts i_OF t_OF t_OF_ok n_OF hown hK hP hD hS 0 rfl rfl 2 (by decide) (hts _ w_152) (fun _ h9 => h9) rfl hin rfl (by decide +kernel) rfl rfl (Nat.le_of_ble_eq_true rfl) d_OF_init_32 (fun H locs hP hD hS => ?_)
  have hP : va_P D cls [(h0, .inr (0, [.ref q1, .ref q3, .ref q5, .int 0])), (q1, .inr (1, [.ref (u2.1 0), .ref (u2.1 1), .int 0, .int 0, .int 0, .int 0, .int 0, .int (-1), .long 0, .int 0, .int 0, .int 0, .int 0, .int (-1), .int (-1)])), ((u2.1 0), .inr (4, [.ref (u2.1 2), .int 0, .int 0, .int 0, .ref (u2.1 3), .ref (u2.1 4), .ref (u2.1 5)])), ((u2.1 2), .inl ((u2.2 0), 8192, .inl (fun _ => 0))), ((u2.1 1), .inr (6, [.ref (u2.1 6), .ref (u2.1 7), .ref (u2.1 8), .ref (u2.1 9), .ref (u2.1 10)])), ((u2.1 7), .inl ((u2.2 1), 3, .inl (fun _ => 0))), ((u2.1 9), .inr (5, [.ref (u2.1 11), .ref (u2.1 12), .ref (u2.1 13), .ref (u2.1 14), .ref (u2.1 15), .ref (u2.1 16), .ref (u2.1 17), .int 0])), ((u2.1 10), .inr (3, [.ref (u2.1 18), .ref (u2.1 19), .ref (u2.1 20), .ref (u2.1 21), .ref (u2.1 22), .ref (u2.1 23), .int 0])), (q3, .inr (2, [.ref (u4.1 0), .int 0, .int 0, .int 0, .int 0, .int (-1), .int (-1)])), (q5, .inl (cq5, 8, .inr (.inr (.inr (.inr (fun _ => none))))))] H := hP
  have hD : va_D A [(h0, .inr (0, [.ref q1, .ref q3, .ref q5, .int 0])), (q1, .inr (1, [.ref (u2.1 0), .ref (u2.1 1), .int 0, .int 0, .int 0, .int 0, .int 0, .int (-1), .long 0, .int 0, .int 0, .int 0, .int 0, .int (-1), .int (-1)])), ((u2.1 0), .inr (4, [.ref (u2.1 2), .int 0, .int 0, .int 0, .ref (u2.1 3), .ref (u2.1 4), .ref (u2.1 5)])), ((u2.1 2), .inl ((u2.2 0), 8192, .inl (fun _ => 0))), ((u2.1 1), .inr (6, [.ref (u2.1 6), .ref (u2.1 7), .ref (u2.1 8), .ref (u2.1 9), .ref (u2.1 10)])), ((u2.1 7), .inl ((u2.2 1), 3, .inl (fun _ => 0))), ((u2.1 9), .inr (5, [.ref (u2.1 11), .ref (u2.1 12), .ref (u2.1 13), .ref (u2.1 14), .ref (u2.1 15), .ref (u2.1 16), .ref (u2.1 17), .int 0])), ((u2.1 10), .inr (3, [.ref (u2.1 18), .ref (u2.1 19), .ref (u2.1 20), .ref (u2.1 21), .ref (u2.1 22), .ref (u2.1 23), .int 0])), (q3, .inr (2, [.ref (u4.1 0), .int 0, .int 0, .int 0, .int 0, .int (-1), .int (-1)])), (q5, .inl (cq5, 8, .inr (.inr (.inr (.inr (fun _ => none))))))] := hD
  refine lv_aload_n hx hb d_OF_init_35 rfl (lv_at hl 0 rfl) ?_
  refine lv_iconst (v := 0) hx hb d_OF_init_36 (by decide) ?_
  refine va_put (D := D) (ci := 0) (v := .int 0) (ty := .int) (C := R_OF) (T := F_OF) (N := 4) hx hb hts i_OF t_OF t_OF_ok n_OF hown hK hP hD hS 0 rfl rfl 3 (by decide) (hts _ w_153) (fun _ h9 => h9) rfl (by decide +kernel) rfl rfl (Nat.le_of_ble_eq_true rfl) d_OF_init_37 (fun H locs hP hD hS => ?_)
  have hP : va_P D cls [(h0, .inr (0, [.ref q1, .ref q3, .ref q5, .int 0])), (q1, .inr (1, [.ref (u2.1 0), .ref (u2.1 1), .int 0, .int 0, .int 0, .int 0, .int 0, .int (-1), .long 0, .int 0, .int 0, .int 0, .int 0, .int (-1), .int (-1)])), ((u2.1 0), .inr (4, [.ref (u2.1 2), .int 0, .int 0, .int 0, .ref (u2.1 3), .ref (u2.1 4), .ref (u2.1 5)])), ((u2.1 2), .inl ((u2.2 0), 8192, .inl (fun _ => 0))), ((u2.1 1), .inr (6, [.ref (u2.1 6), .ref (u2.1 7), .ref (u2.1 8), .ref (u2.1 9), .ref (u2.1 10)])), ((u2.1 7), .inl ((u2.2 1), 3, .inl (fun _ => 0))), ((u2.1 9), .inr (5, [.ref (u2.1 11), .ref (u2.1 12), .ref (u2.1 13), .ref (u2.1 14), .ref (u2.1 15), .ref (u2.1 16), .ref (u2.1 17), .int 0])), ((u2.1 10), .inr (3, [.ref (u2.1 18), .ref (u2.1 19), .ref (u2.1 20), .ref (u2.1 21), .ref (u2.1 22), .ref (u2.1 23), .int 0])), (q3, .inr (2, [.ref (u4.1 0), .int 0, .int 0, .int 0, .int 0, .int (-1), .int (-1)])), (q5, .inl (cq5, 8, .inr (.inr (.inr (.inr (fun _ => none))))))] H := hP
  have hD : va_D A [(h0, .inr (0, [.ref q1, .ref q3, .ref q5, .int 0])), (q1, .inr (1, [.ref (u2.1 0), .ref (u2.1 1), .int 0, .int 0, .int 0, .int 0, .int 0, .int (-1), .long 0, .int 0, .int 0, .int 0, .int 0, .int (-1), .int (-1)])), ((u2.1 0), .inr (4, [.ref (u2.1 2), .int 0, .int 0, .int 0, .ref (u2.1 3), .ref (u2.1 4), .ref (u2.1 5)])), ((u2.1 2), .inl ((u2.2 0), 8192, .inl (fun _ => 0))), ((u2.1 1), .inr (6, [.ref (u2.1 6), .ref (u2.1 7), .ref (u2.1 8), .ref (u2.1 9), .ref (u2.1 10)])), ((u2.1 7), .inl ((u2.2 1), 3, .inl (fun _ => 0))), ((u2.1 9), .inr (5, [.ref (u2.1 11), .ref (u2.1 12), .ref (u2.1 13), .ref (u2.1 14), .ref (u2.1 15), .ref (u2.1 16), .ref (u2.1 17), .int 0])), ((u2.1 10), .inr (3, [.ref (u2.1 18), .ref (u2.1 19), .ref (u2.1 20), .ref (u2.1 21), .ref (u2.1 22), .ref (u2.1 23), .int 0])), (q3, .inr (2, [.ref (u4.1 0), .int 0, .int 0, .int 0, .int 0, .int (-1), .int (-1)])), (q5, .inl (cq5, 8, .inr (.inr (.inr (.inr (fun _ => none))))))] := hD
  refine lv_iconst (v := 0) hx hb d_OF_init_40 (by decide) ?_
  refine lv_istore_n (lv' := [(1, .int 0), (0, .ref h0)]) hx hb d_OF_init_41 rfl hl (by decide) rfl (fun ls hl => ?_)
  refine lv_iload_n hx hb d_OF_init_42 rfl (lv_at hl 0 rfl) ?_
  refine lv_bipush (v := 8) hx hb d_OF_init_43 (by decide) ?_
  refine lv_icmp_ge (tgt := 67) hx hb d_OF_init_45 (by decide) (fun q9 => absurd q9 (by decide : ¬ ((8 : Int32) ≤ 0))) (fun _ => ?_)
  refine lv_aload_n hx hb d_OF_init_48 rfl (lv_at hl 1 rfl) ?_
  refine va_get (D := D) (ci := 0) (v := .ref q5) (C := R_OF) (T := F_OF) (N := 4) hx hb hts i_OF hown hK hP 0 rfl rfl 2 (by decide) (hts _ w_152) (fun _ h9 => h9) rfl d_OF_init_49 ?_
  refine lv_iload_n hx hb d_OF_init_52 rfl (lv_at hl 0 rfl) ?_
  refine va_new (ci := 6) (fs := [.null, .null, .null, .null, .null]) (C := R_Un) (T := F_Un) (N := 5) hx hb hts i_Un t_Un t_Un_ok hown (hts _ w_149) (hts _ w_45) (hts _ w_4) hK hP hD hS hA rfl (by decide) (Nat.le_of_ble_eq_true rfl) (Nat.le_of_ble_eq_true rfl) d_OF_init_53 (fun q6 H hP hD hS => ?_)
  have hP : va_P D cls [(h0, .inr (0, [.ref q1, .ref q3, .ref q5, .int 0])), (q1, .inr (1, [.ref (u2.1 0), .ref (u2.1 1), .int 0, .int 0, .int 0, .int 0, .int 0, .int (-1), .long 0, .int 0, .int 0, .int 0, .int 0, .int (-1), .int (-1)])), ((u2.1 0), .inr (4, [.ref (u2.1 2), .int 0, .int 0, .int 0, .ref (u2.1 3), .ref (u2.1 4), .ref (u2.1 5)])), ((u2.1 2), .inl ((u2.2 0), 8192, .inl (fun _ => 0))), ((u2.1 1), .inr (6, [.ref (u2.1 6), .ref (u2.1 7), .ref (u2.1 8), .ref (u2.1 9), .ref (u2.1 10)])), ((u2.1 7), .inl ((u2.2 1), 3, .inl (fun _ => 0))), ((u2.1 9), .inr (5, [.ref (u2.1 11), .ref (u2.1 12), .ref (u2.1 13), .ref (u2.1 14), .ref (u2.1 15), .ref (u2.1 16), .ref (u2.1 17), .int 0])), ((u2.1 10), .inr (3, [.ref (u2.1 18), .ref (u2.1 19), .ref (u2.1 20), .ref (u2.1 21), .ref (u2.1 22), .ref (u2.1 23), .int 0])), (q3, .inr (2, [.ref (u4.1 0), .int 0, .int 0, .int 0, .int 0, .int (-1), .int (-1)])), (q5, .inl (cq5, 8, .inr (.inr (.inr (.inr (fun _ => none)))))), (q6, .inr (6, [.null, .null, .null, .null, .null]))] H := hP
  have hD : va_D A [(h0, .inr (0, [.ref q1, .ref q3, .ref q5, .int 0])), (q1, .inr (1, [.ref (u2.1 0), .ref (u2.1 1), .int 0, .int 0, .int 0, .int 0, .int 0, .int (-1), .long 0, .int 0, .int 0, .int 0, .int 0, .int (-1), .int (-1)])), ((u2.1 0), .inr (4, [.ref (u2.1 2), .int 0, .int 0, .int 0, .ref (u2.1 3), .ref (u2.1 4), .ref (u2.1 5)])), ((u2.1 2), .inl ((u2.2 0), 8192, .inl (fun _ => 0))), ((u2.1 1), .inr (6, [.ref (u2.1 6), .ref (u2.1 7), .ref (u2.1 8), .ref (u2.1 9), .ref (u2.1 10)])), ((u2.1 7), .inl ((u2.2 1), 3, .inl (fun _ => 0))), ((u2.1 9), .inr (5, [.ref (u2.1 11), .ref (u2.1 12), .ref (u2.1 13), .ref (u2.1 14), .ref (u2.1 15), .ref (u2.1 16), .ref (u2.1 17), .int 0])), ((u2.1 10), .inr (3, [.ref (u2.1 18), .ref (u2.1 19), .ref (u2.1 20), .ref (u2.1 21), .ref (u2.1 22), .ref (u2.1 23), .int 0])), (q3, .inr (2, [.ref (u4.1 0), .int 0, .int 0, .int 0, .int 0, .int (-1), .int (-1)])), (q5, .inl (cq5, 8, .inr (.inr (.inr (.inr (fun _ => none)))))), (q6, .inr (6, [.null, .null, .null, .null, .null]))] := hD
  refine W.widen (k := 31) (n := 77254) (by omega) (by omega) ?_
  refine lv_dup hx hb d_OF_init_56 rfl ?_
  refine xc_IN (As := []) (rest := [.ref q6, .int 0, .ref q5]) (wc := [(q6, .inr (6, [.null, .null, .null, .null, .null]))]) (wr := [(h0, .inr (0, [.ref q1, .ref q3, .ref q5, .int 0])), (q1, .inr (1, [.ref (u2.1 0), .ref (u2.1 1), .int 0, .int 0, .int 0, .int 0, .int 0, .int (-1), .long 0, .int 0, .int 0, .int 0, .int 0, .int (-1), .int (-1)])), ((u2.1 0), .inr (4, [.ref (u2.1 2), .int 0, .int 0, .int 0, .ref (u2.1 3), .ref (u2.1 4), .ref (u2.1 5)])), ((u2.1 2), .inl ((u2.2 0), 8192, .inl (fun _ => 0))), ((u2.1 1), .inr (6, [.ref (u2.1 6), .ref (u2.1 7), .ref (u2.1 8), .ref (u2.1 9), .ref (u2.1 10)])), ((u2.1 7), .inl ((u2.2 1), 3, .inl (fun _ => 0))), ((u2.1 9), .inr (5, [.ref (u2.1 11), .ref (u2.1 12), .ref (u2.1 13), .ref (u2.1 14), .ref (u2.1 15), .ref (u2.1 16), .ref (u2.1 17), .int 0])), ((u2.1 10), .inr (3, [.ref (u2.1 18), .ref (u2.1 19), .ref (u2.1 20), .ref (u2.1 21), .ref (u2.1 22), .ref (u2.1 23), .int 0])), (q3, .inr (2, [.ref (u4.1 0), .int 0, .int 0, .int 0, .int 0, .int (-1), .int (-1)])), (q5, .inl (cq5, 8, .inr (.inr (.inr (.inr (fun _ => none))))))]) (tc := []) (tr := [((u2.2 0), .byte), ((u2.2 1), .int), (cq5, .object "ObjectForge$Unit")]) ⟨hx, hb, hml, hown, hts⟩ (c_Un_init l D q6 H.size) rfl rfl rfl w_47 (by simp [xnM]) w_46 w_4 (by decide +kernel) ⟨Nat.le_of_ble_eq_true rfl, Nat.le_of_ble_eq_true rfl⟩ hP hD hK hS hA hN hZ [10] [0, 1, 2, 3, 4, 5, 6, 7, 8, 9] rfl rfl (by decide) (by decide) (by decide) [] [0, 1, 2] rfl rfl rfl hl.1 rfl (Nat.le_of_ble_eq_true rfl) d_OF_init_57 ⟨Nat.le_of_ble_eq_true rfl, Nat.le_of_ble_eq_true rfl⟩ (fun u7 H locs hP hD hK hS => ?_)
  have hP : va_P D cls [(h0, .inr (0, [.ref q1, .ref q3, .ref q5, .int 0])), (q1, .inr (1, [.ref (u2.1 0), .ref (u2.1 1), .int 0, .int 0, .int 0, .int 0, .int 0, .int (-1), .long 0, .int 0, .int 0, .int 0, .int 0, .int (-1), .int (-1)])), ((u2.1 0), .inr (4, [.ref (u2.1 2), .int 0, .int 0, .int 0, .ref (u2.1 3), .ref (u2.1 4), .ref (u2.1 5)])), ((u2.1 2), .inl ((u2.2 0), 8192, .inl (fun _ => 0))), ((u2.1 1), .inr (6, [.ref (u2.1 6), .ref (u2.1 7), .ref (u2.1 8), .ref (u2.1 9), .ref (u2.1 10)])), ((u2.1 7), .inl ((u2.2 1), 3, .inl (fun _ => 0))), ((u2.1 9), .inr (5, [.ref (u2.1 11), .ref (u2.1 12), .ref (u2.1 13), .ref (u2.1 14), .ref (u2.1 15), .ref (u2.1 16), .ref (u2.1 17), .int 0])), ((u2.1 10), .inr (3, [.ref (u2.1 18), .ref (u2.1 19), .ref (u2.1 20), .ref (u2.1 21), .ref (u2.1 22), .ref (u2.1 23), .int 0])), (q3, .inr (2, [.ref (u4.1 0), .int 0, .int 0, .int 0, .int 0, .int (-1), .int (-1)])), (q5, .inl (cq5, 8, .inr (.inr (.inr (.inr (fun _ => none)))))), (q6, .inr (6, [.ref (u7.1 0), .ref (u7.1 1), .ref (u7.1 2), .ref (u7.1 3), .ref (u7.1 4)])), ((u7.1 1), .inl ((u7.2 0), 3, .inl (fun _ => 0))), ((u7.1 3), .inr (5, [.ref (u7.1 5), .ref (u7.1 6), .ref (u7.1 7), .ref (u7.1 8), .ref (u7.1 9), .ref (u7.1 10), .ref (u7.1 11), .int 0])), ((u7.1 4), .inr (3, [.ref (u7.1 12), .ref (u7.1 13), .ref (u7.1 14), .ref (u7.1 15), .ref (u7.1 16), .ref (u7.1 17), .int 0]))] H := hP
  have hD : va_D A [(h0, .inr (0, [.ref q1, .ref q3, .ref q5, .int 0])), (q1, .inr (1, [.ref (u2.1 0), .ref (u2.1 1), .int 0, .int 0, .int 0, .int 0, .int 0, .int (-1), .long 0, .int 0, .int 0, .int 0, .int 0, .int (-1), .int (-1)])), ((u2.1 0), .inr (4, [.ref (u2.1 2), .int 0, .int 0, .int 0, .ref (u2.1 3), .ref (u2.1 4), .ref (u2.1 5)])), ((u2.1 2), .inl ((u2.2 0), 8192, .inl (fun _ => 0))), ((u2.1 1), .inr (6, [.ref (u2.1 6), .ref (u2.1 7), .ref (u2.1 8), .ref (u2.1 9), .ref (u2.1 10)])), ((u2.1 7), .inl ((u2.2 1), 3, .inl (fun _ => 0))), ((u2.1 9), .inr (5, [.ref (u2.1 11), .ref (u2.1 12), .ref (u2.1 13), .ref (u2.1 14), .ref (u2.1 15), .ref (u2.1 16), .ref (u2.1 17), .int 0])), ((u2.1 10), .inr (3, [.ref (u2.1 18), .ref (u2.1 19), .ref (u2.1 20), .ref (u2.1 21), .ref (u2.1 22), .ref (u2.1 23), .int 0])), (q3, .inr (2, [.ref (u4.1 0), .int 0, .int 0, .int 0, .int 0, .int (-1), .int (-1)])), (q5, .inl (cq5, 8, .inr (.inr (.inr (.inr (fun _ => none)))))), (q6, .inr (6, [.ref (u7.1 0), .ref (u7.1 1), .ref (u7.1 2), .ref (u7.1 3), .ref (u7.1 4)])), ((u7.1 1), .inl ((u7.2 0), 3, .inl (fun _ => 0))), ((u7.1 3), .inr (5, [.ref (u7.1 5), .ref (u7.1 6), .ref (u7.1 7), .ref (u7.1 8), .ref (u7.1 9), .ref (u7.1 10), .ref (u7.1 11), .int 0])), ((u7.1 4), .inr (3, [.ref (u7.1 12), .ref (u7.1 13), .ref (u7.1 14), .ref (u7.1 15), .ref (u7.1 16), .ref (u7.1 17), .int 0]))] := hD
  have hK : va_K D cls [((u2.2 0), .byte), ((u2.2 1), .int), (cq5, .object "ObjectForge$Unit"), ((u7.2 0), .int)] s := hK
  refine W.widen (k := 51) (n := 88925) (by omega) (by omega) ?_
  refine W.eq (g2 := F0 m 60 ls [.ref q6, .int 0, .ref q5]) rfl ?_
  refine va_astq hx hb hK hP hD hS 9 2 10 6 rfl rfl rfl rfl (by unfold vp_in; decide) d_OF_init_60 (fun H locs hP hD hS => ?_)
  have hP : va_P D cls [(h0, .inr (0, [.ref q1, .ref q3, .ref q5, .int 0])), (q1, .inr (1, [.ref (u2.1 0), .ref (u2.1 1), .int 0, .int 0, .int 0, .int 0, .int 0, .int (-1), .long 0, .int 0, .int 0, .int 0, .int 0, .int (-1), .int (-1)])), ((u2.1 0), .inr (4, [.ref (u2.1 2), .int 0, .int 0, .int 0, .ref (u2.1 3), .ref (u2.1 4), .ref (u2.1 5)])), ((u2.1 2), .inl ((u2.2 0), 8192, .inl (fun _ => 0))), ((u2.1 1), .inr (6, [.ref (u2.1 6), .ref (u2.1 7), .ref (u2.1 8), .ref (u2.1 9), .ref (u2.1 10)])), ((u2.1 7), .inl ((u2.2 1), 3, .inl (fun _ => 0))), ((u2.1 9), .inr (5, [.ref (u2.1 11), .ref (u2.1 12), .ref (u2.1 13), .ref (u2.1 14), .ref (u2.1 15), .ref (u2.1 16), .ref (u2.1 17), .int 0])), ((u2.1 10), .inr (3, [.ref (u2.1 18), .ref (u2.1 19), .ref (u2.1 20), .ref (u2.1 21), .ref (u2.1 22), .ref (u2.1 23), .int 0])), (q3, .inr (2, [.ref (u4.1 0), .int 0, .int 0, .int 0, .int 0, .int (-1), .int (-1)])), (q5, .inl (cq5, 8, .inr (.inr (.inr (.inr (va_up (fun _ => none) (0 : Int32).toNatClampNeg (some q6))))))), (q6, .inr (6, [.ref (u7.1 0), .ref (u7.1 1), .ref (u7.1 2), .ref (u7.1 3), .ref (u7.1 4)])), ((u7.1 1), .inl ((u7.2 0), 3, .inl (fun _ => 0))), ((u7.1 3), .inr (5, [.ref (u7.1 5), .ref (u7.1 6), .ref (u7.1 7), .ref (u7.1 8), .ref (u7.1 9), .ref (u7.1 10), .ref (u7.1 11), .int 0])), ((u7.1 4), .inr (3, [.ref (u7.1 12), .ref (u7.1 13), .ref (u7.1 14), .ref (u7.1 15), .ref (u7.1 16), .ref (u7.1 17), .int 0]))] H := hP
  have hD : va_D A [(h0, .inr (0, [.ref q1, .ref q3, .ref q5, .int 0])), (q1, .inr (1, [.ref (u2.1 0), .ref (u2.1 1), .int 0, .int 0, .int 0, .int 0, .int 0, .int (-1), .long 0, .int 0, .int 0, .int 0, .int 0, .int (-1), .int (-1)])), ((u2.1 0), .inr (4, [.ref (u2.1 2), .int 0, .int 0, .int 0, .ref (u2.1 3), .ref (u2.1 4), .ref (u2.1 5)])), ((u2.1 2), .inl ((u2.2 0), 8192, .inl (fun _ => 0))), ((u2.1 1), .inr (6, [.ref (u2.1 6), .ref (u2.1 7), .ref (u2.1 8), .ref (u2.1 9), .ref (u2.1 10)])), ((u2.1 7), .inl ((u2.2 1), 3, .inl (fun _ => 0))), ((u2.1 9), .inr (5, [.ref (u2.1 11), .ref (u2.1 12), .ref (u2.1 13), .ref (u2.1 14), .ref (u2.1 15), .ref (u2.1 16), .ref (u2.1 17), .int 0])), ((u2.1 10), .inr (3, [.ref (u2.1 18), .ref (u2.1 19), .ref (u2.1 20), .ref (u2.1 21), .ref (u2.1 22), .ref (u2.1 23), .int 0])), (q3, .inr (2, [.ref (u4.1 0), .int 0, .int 0, .int 0, .int 0, .int (-1), .int (-1)])), (q5, .inl (cq5, 8, .inr (.inr (.inr (.inr (va_up (fun _ => none) (0 : Int32).toNatClampNeg (some q6))))))), (q6, .inr (6, [.ref (u7.1 0), .ref (u7.1 1), .ref (u7.1 2), .ref (u7.1 3), .ref (u7.1 4)])), ((u7.1 1), .inl ((u7.2 0), 3, .inl (fun _ => 0))), ((u7.1 3), .inr (5, [.ref (u7.1 5), .ref (u7.1 6), .ref (u7.1 7), .ref (u7.1 8), .ref (u7.1 9), .ref (u7.1 10), .ref (u7.1 11), .int 0])), ((u7.1 4), .inr (3, [.ref (u7.1 12), .ref (u7.1 13), .ref (u7.1 14), .ref (u7.1 15), .ref (u7.1 16), .ref (u7.1 17), .int 0]))] := hD
  generalize (va_up (fun _ => none) (0 : Int32).toNatClampNeg (some q6)) = f8 at hP hD
  have hP : va_P D cls [(h0, .inr (0, [.ref q1, .ref q3, .ref q5, .int 0])), (q1, .inr (1, [.ref (u2.1 0), .ref (u2.1 1), .int 0, .int 0, .int 0, .int 0, .int 0, .int (-1), .long 0, .int 0, .int 0, .int 0, .int 0, .int (-1), .int (-1)])), ((u2.1 0), .inr (4, [.ref (u2.1 2), .int 0, .int 0, .int 0, .ref (u2.1 3), .ref (u2.1 4), .ref (u2.1 5)])), ((u2.1 2), .inl ((u2.2 0), 8192, .inl (fun _ => 0))), (q3, .inr (2, [.ref (u4.1 0), .int 0, .int 0, .int 0, .int 0, .int (-1), .int (-1)])), ((u2.1 1), .inr (6, [.ref (u2.1 6), .ref (u2.1 7), .ref (u2.1 8), .ref (u2.1 9), .ref (u2.1 10)])), ((u2.1 7), .inl ((u2.2 1), 3, .inl (fun _ => 0))), ((u2.1 9), .inr (5, [.ref (u2.1 11), .ref (u2.1 12), .ref (u2.1 13), .ref (u2.1 14), .ref (u2.1 15), .ref (u2.1 16), .ref (u2.1 17), .int 0])), ((u2.1 10), .inr (3, [.ref (u2.1 18), .ref (u2.1 19), .ref (u2.1 20), .ref (u2.1 21), .ref (u2.1 22), .ref (u2.1 23), .int 0])), (q5, .inl (cq5, 8, .inr (.inr (.inr (.inr f8)))))] H := hP.sub [0, 1, 2, 3, 8, 4, 5, 6, 7, 9] rfl
  have hD : va_D A [(h0, .inr (0, [.ref q1, .ref q3, .ref q5, .int 0])), (q1, .inr (1, [.ref (u2.1 0), .ref (u2.1 1), .int 0, .int 0, .int 0, .int 0, .int 0, .int (-1), .long 0, .int 0, .int 0, .int 0, .int 0, .int (-1), .int (-1)])), ((u2.1 0), .inr (4, [.ref (u2.1 2), .int 0, .int 0, .int 0, .ref (u2.1 3), .ref (u2.1 4), .ref (u2.1 5)])), ((u2.1 2), .inl ((u2.2 0), 8192, .inl (fun _ => 0))), (q3, .inr (2, [.ref (u4.1 0), .int 0, .int 0, .int 0, .int 0, .int (-1), .int (-1)])), ((u2.1 1), .inr (6, [.ref (u2.1 6), .ref (u2.1 7), .ref (u2.1 8), .ref (u2.1 9), .ref (u2.1 10)])), ((u2.1 7), .inl ((u2.2 1), 3, .inl (fun _ => 0))), ((u2.1 9), .inr (5, [.ref (u2.1 11), .ref (u2.1 12), .ref (u2.1 13), .ref (u2.1 14), .ref (u2.1 15), .ref (u2.1 16), .ref (u2.1 17), .int 0])), ((u2.1 10), .inr (3, [.ref (u2.1 18), .ref (u2.1 19), .ref (u2.1 20), .ref (u2.1 21), .ref (u2.1 22), .ref (u2.1 23), .int 0])), (q5, .inl (cq5, 8, .inr (.inr (.inr (.inr f8)))))] := hD.sub [0, 1, 2, 3, 8, 4, 5, 6, 7, 9] (by decide) rfl
  have hK : va_K D cls [((u2.2 0), .byte), ((u2.2 1), .int), (cq5, .object "ObjectForge$Unit")] s := hK.sub [0, 1, 2] rfl
  refine lv_iinc (v := 1) (lv' := [(1, .int 1), (0, .ref h0)]) hx hb d_OF_init_61 hl (k := 0) rfl (by decide) (by decide) rfl (fun ls hl => ?_)
  refine lv_goto (tgt := 42) hx hb d_OF_init_64 (by decide) ?_
  refine lv_iload_n hx hb d_OF_init_42 rfl (lv_at hl 0 rfl) ?_
  refine lv_bipush (v := 8) hx hb d_OF_init_43 (by decide) ?_
  refine lv_icmp_ge (tgt := 67) hx hb d_OF_init_45 (by decide) (fun q9 => absurd q9 (by decide : ¬ ((8 : Int32) ≤ 1))) (fun _ => ?_)
  refine lv_aload_n hx hb d_OF_init_48 rfl (lv_at hl 1 rfl) ?_
  refine va_get (D := D) (ci := 0) (v := .ref q5) (C := R_OF) (T := F_OF) (N := 4) hx hb hts i_OF hown hK hP 0 rfl rfl 2 (by decide) (hts _ w_152) (fun _ h9 => h9) rfl d_OF_init_49 ?_
  refine lv_iload_n hx hb d_OF_init_52 rfl (lv_at hl 0 rfl) ?_
  refine va_new (ci := 6) (fs := [.null, .null, .null, .null, .null]) (C := R_Un) (T := F_Un) (N := 5) hx hb hts i_Un t_Un t_Un_ok hown (hts _ w_149) (hts _ w_45) (hts _ w_4) hK hP hD hS hA rfl (by decide) (Nat.le_of_ble_eq_true rfl) (Nat.le_of_ble_eq_true rfl) d_OF_init_53 (fun q9 H hP hD hS => ?_)
  have hP : va_P D cls [(h0, .inr (0, [.ref q1, .ref q3, .ref q5, .int 0])), (q1, .inr (1, [.ref (u2.1 0), .ref (u2.1 1), .int 0, .int 0, .int 0, .int 0, .int 0, .int (-1), .long 0, .int 0, .int 0, .int 0, .int 0, .int (-1), .int (-1)])), ((u2.1 0), .inr (4, [.ref (u2.1 2), .int 0, .int 0, .int 0, .ref (u2.1 3), .ref (u2.1 4), .ref (u2.1 5)])), ((u2.1 2), .inl ((u2.2 0), 8192, .inl (fun _ => 0))), (q3, .inr (2, [.ref (u4.1 0), .int 0, .int 0, .int 0, .int 0, .int (-1), .int (-1)])), ((u2.1 1), .inr (6, [.ref (u2.1 6), .ref (u2.1 7), .ref (u2.1 8), .ref (u2.1 9), .ref (u2.1 10)])), ((u2.1 7), .inl ((u2.2 1), 3, .inl (fun _ => 0))), ((u2.1 9), .inr (5, [.ref (u2.1 11), .ref (u2.1 12), .ref (u2.1 13), .ref (u2.1 14), .ref (u2.1 15), .ref (u2.1 16), .ref (u2.1 17), .int 0])), ((u2.1 10), .inr (3, [.ref (u2.1 18), .ref (u2.1 19), .ref (u2.1 20), .ref (u2.1 21), .ref (u2.1 22), .ref (u2.1 23), .int 0])), (q5, .inl (cq5, 8, .inr (.inr (.inr (.inr f8))))), (q9, .inr (6, [.null, .null, .null, .null, .null]))] H := hP
  have hD : va_D A [(h0, .inr (0, [.ref q1, .ref q3, .ref q5, .int 0])), (q1, .inr (1, [.ref (u2.1 0), .ref (u2.1 1), .int 0, .int 0, .int 0, .int 0, .int 0, .int (-1), .long 0, .int 0, .int 0, .int 0, .int 0, .int (-1), .int (-1)])), ((u2.1 0), .inr (4, [.ref (u2.1 2), .int 0, .int 0, .int 0, .ref (u2.1 3), .ref (u2.1 4), .ref (u2.1 5)])), ((u2.1 2), .inl ((u2.2 0), 8192, .inl (fun _ => 0))), (q3, .inr (2, [.ref (u4.1 0), .int 0, .int 0, .int 0, .int 0, .int (-1), .int (-1)])), ((u2.1 1), .inr (6, [.ref (u2.1 6), .ref (u2.1 7), .ref (u2.1 8), .ref (u2.1 9), .ref (u2.1 10)])), ((u2.1 7), .inl ((u2.2 1), 3, .inl (fun _ => 0))), ((u2.1 9), .inr (5, [.ref (u2.1 11), .ref (u2.1 12), .ref (u2.1 13), .ref (u2.1 14), .ref (u2.1 15), .ref (u2.1 16), .ref (u2.1 17), .int 0])), ((u2.1 10), .inr (3, [.ref (u2.1 18), .ref (u2.1 19), .ref (u2.1 20), .ref (u2.1 21), .ref (u2.1 22), .ref (u2.1 23), .int 0])), (q5, .inl (cq5, 8, .inr (.inr (.inr (.inr f8))))), (q9, .inr (6, [.null, .null, .null, .null, .null]))] := hD
  refine W.widen (k := 52) (n := 88930) (by omega) (by omega) ?_
  refine lv_dup hx hb d_OF_init_56 rfl ?_
  refine xc_IN (As := []) (rest := [.ref q9, .int 1, .ref q5]) (wc := [(q9, .inr (6, [.null, .null, .null, .null, .null]))]) (wr := [(h0, .inr (0, [.ref q1, .ref q3, .ref q5, .int 0])), (q1, .inr (1, [.ref (u2.1 0), .ref (u2.1 1), .int 0, .int 0, .int 0, .int 0, .int 0, .int (-1), .long 0, .int 0, .int 0, .int 0, .int 0, .int (-1), .int (-1)])), ((u2.1 0), .inr (4, [.ref (u2.1 2), .int 0, .int 0, .int 0, .ref (u2.1 3), .ref (u2.1 4), .ref (u2.1 5)])), ((u2.1 2), .inl ((u2.2 0), 8192, .inl (fun _ => 0))), (q3, .inr (2, [.ref (u4.1 0), .int 0, .int 0, .int 0, .int 0, .int (-1), .int (-1)])), ((u2.1 1), .inr (6, [.ref (u2.1 6), .ref (u2.1 7), .ref (u2.1 8), .ref (u2.1 9), .ref (u2.1 10)])), ((u2.1 7), .inl ((u2.2 1), 3, .inl (fun _ => 0))), ((u2.1 9), .inr (5, [.ref (u2.1 11), .ref (u2.1 12), .ref (u2.1 13), .ref (u2.1 14), .ref (u2.1 15), .ref (u2.1 16), .ref (u2.1 17), .int 0])), ((u2.1 10), .inr (3, [.ref (u2.1 18), .ref (u2.1 19), .ref (u2.1 20), .ref (u2.1 21), .ref (u2.1 22), .ref (u2.1 23), .int 0])), (q5, .inl (cq5, 8, .inr (.inr (.inr (.inr f8)))))]) (tc := []) (tr := [((u2.2 0), .byte), ((u2.2 1), .int), (cq5, .object "ObjectForge$Unit")]) ⟨hx, hb, hml, hown, hts⟩ (c_Un_init l D q9 H.size) rfl rfl rfl w_47 (by simp [xnM]) w_46 w_4 (by decide +kernel) ⟨Nat.le_of_ble_eq_true rfl, Nat.le_of_ble_eq_true rfl⟩ hP hD hK hS hA hN hZ [10] [0, 1, 2, 3, 4, 5, 6, 7, 8, 9] rfl rfl (by decide) (by decide) (by decide) [] [0, 1, 2] rfl rfl rfl hl.1 rfl (Nat.le_of_ble_eq_true rfl) d_OF_init_57 ⟨Nat.le_of_ble_eq_true rfl, Nat.le_of_ble_eq_true rfl⟩ (fun u10 H locs hP hD hK hS => ?_)
  have hP : va_P D cls [(h0, .inr (0, [.ref q1, .ref q3, .ref q5, .int 0])), (q1, .inr (1, [.ref (u2.1 0), .ref (u2.1 1), .int 0, .int 0, .int 0, .int 0, .int 0, .int (-1), .long 0, .int 0, .int 0, .int 0, .int 0, .int (-1), .int (-1)])), ((u2.1 0), .inr (4, [.ref (u2.1 2), .int 0, .int 0, .int 0, .ref (u2.1 3), .ref (u2.1 4), .ref (u2.1 5)])), ((u2.1 2), .inl ((u2.2 0), 8192, .inl (fun _ => 0))), (q3, .inr (2, [.ref (u4.1 0), .int 0, .int 0, .int 0, .int 0, .int (-1), .int (-1)])), ((u2.1 1), .inr (6, [.ref (u2.1 6), .ref (u2.1 7), .ref (u2.1 8), .ref (u2.1 9), .ref (u2.1 10)])), ((u2.1 7), .inl ((u2.2 1), 3, .inl (fun _ => 0))), ((u2.1 9), .inr (5, [.ref (u2.1 11), .ref (u2.1 12), .ref (u2.1 13), .ref (u2.1 14), .ref (u2.1 15), .ref (u2.1 16), .ref (u2.1 17), .int 0])), ((u2.1 10), .inr (3, [.ref (u2.1 18), .ref (u2.1 19), .ref (u2.1 20), .ref (u2.1 21), .ref (u2.1 22), .ref (u2.1 23), .int 0])), (q5, .inl (cq5, 8, .inr (.inr (.inr (.inr f8))))), (q9, .inr (6, [.ref (u10.1 0), .ref (u10.1 1), .ref (u10.1 2), .ref (u10.1 3), .ref (u10.1 4)])), ((u10.1 1), .inl ((u10.2 0), 3, .inl (fun _ => 0))), ((u10.1 3), .inr (5, [.ref (u10.1 5), .ref (u10.1 6), .ref (u10.1 7), .ref (u10.1 8), .ref (u10.1 9), .ref (u10.1 10), .ref (u10.1 11), .int 0])), ((u10.1 4), .inr (3, [.ref (u10.1 12), .ref (u10.1 13), .ref (u10.1 14), .ref (u10.1 15), .ref (u10.1 16), .ref (u10.1 17), .int 0]))] H := hP
  have hD : va_D A [(h0, .inr (0, [.ref q1, .ref q3, .ref q5, .int 0])), (q1, .inr (1, [.ref (u2.1 0), .ref (u2.1 1), .int 0, .int 0, .int 0, .int 0, .int 0, .int (-1), .long 0, .int 0, .int 0, .int 0, .int 0, .int (-1), .int (-1)])), ((u2.1 0), .inr (4, [.ref (u2.1 2), .int 0, .int 0, .int 0, .ref (u2.1 3), .ref (u2.1 4), .ref (u2.1 5)])), ((u2.1 2), .inl ((u2.2 0), 8192, .inl (fun _ => 0))), (q3, .inr (2, [.ref (u4.1 0), .int 0, .int 0, .int 0, .int 0, .int (-1), .int (-1)])), ((u2.1 1), .inr (6, [.ref (u2.1 6), .ref (u2.1 7), .ref (u2.1 8), .ref (u2.1 9), .ref (u2.1 10)])), ((u2.1 7), .inl ((u2.2 1), 3, .inl (fun _ => 0))), ((u2.1 9), .inr (5, [.ref (u2.1 11), .ref (u2.1 12), .ref (u2.1 13), .ref (u2.1 14), .ref (u2.1 15), .ref (u2.1 16), .ref (u2.1 17), .int 0])), ((u2.1 10), .inr (3, [.ref (u2.1 18), .ref (u2.1 19), .ref (u2.1 20), .ref (u2.1 21), .ref (u2.1 22), .ref (u2.1 23), .int 0])), (q5, .inl (cq5, 8, .inr (.inr (.inr (.inr f8))))), (q9, .inr (6, [.ref (u10.1 0), .ref (u10.1 1), .ref (u10.1 2), .ref (u10.1 3), .ref (u10.1 4)])), ((u10.1 1), .inl ((u10.2 0), 3, .inl (fun _ => 0))), ((u10.1 3), .inr (5, [.ref (u10.1 5), .ref (u10.1 6), .ref (u10.1 7), .ref (u10.1 8), .ref (u10.1 9), .ref (u10.1 10), .ref (u10.1 11), .int 0])), ((u10.1 4), .inr (3, [.ref (u10.1 12), .ref (u10.1 13), .ref (u10.1 14), .ref (u10.1 15), .ref (u10.1 16), .ref (u10.1 17), .int 0]))] := hD
  have hK : va_K D cls [((u2.2 0), .byte), ((u2.2 1), .int), (cq5, .object "ObjectForge$Unit"), ((u10.2 0), .int)] s := hK
  refine W.widen (k := 72) (n := 100601) (by omega) (by omega) ?_
  refine W.eq (g2 := F0 m 60 ls [.ref q9, .int 1, .ref q5]) rfl ?_
  refine va_astq hx hb hK hP hD hS 9 2 10 6 rfl rfl rfl rfl (by unfold vp_in; decide) d_OF_init_60 (fun H locs hP hD hS => ?_)
  have hP : va_P D cls [(h0, .inr (0, [.ref q1, .ref q3, .ref q5, .int 0])), (q1, .inr (1, [.ref (u2.1 0), .ref (u2.1 1), .int 0, .int 0, .int 0, .int 0, .int 0, .int (-1), .long 0, .int 0, .int 0, .int 0, .int 0, .int (-1), .int (-1)])), ((u2.1 0), .inr (4, [.ref (u2.1 2), .int 0, .int 0, .int 0, .ref (u2.1 3), .ref (u2.1 4), .ref (u2.1 5)])), ((u2.1 2), .inl ((u2.2 0), 8192, .inl (fun _ => 0))), (q3, .inr (2, [.ref (u4.1 0), .int 0, .int 0, .int 0, .int 0, .int (-1), .int (-1)])), ((u2.1 1), .inr (6, [.ref (u2.1 6), .ref (u2.1 7), .ref (u2.1 8), .ref (u2.1 9), .ref (u2.1 10)])), ((u2.1 7), .inl ((u2.2 1), 3, .inl (fun _ => 0))), ((u2.1 9), .inr (5, [.ref (u2.1 11), .ref (u2.1 12), .ref (u2.1 13), .ref (u2.1 14), .ref (u2.1 15), .ref (u2.1 16), .ref (u2.1 17), .int 0])), ((u2.1 10), .inr (3, [.ref (u2.1 18), .ref (u2.1 19), .ref (u2.1 20), .ref (u2.1 21), .ref (u2.1 22), .ref (u2.1 23), .int 0])), (q5, .inl (cq5, 8, .inr (.inr (.inr (.inr (va_up f8 (1 : Int32).toNatClampNeg (some q9))))))), (q9, .inr (6, [.ref (u10.1 0), .ref (u10.1 1), .ref (u10.1 2), .ref (u10.1 3), .ref (u10.1 4)])), ((u10.1 1), .inl ((u10.2 0), 3, .inl (fun _ => 0))), ((u10.1 3), .inr (5, [.ref (u10.1 5), .ref (u10.1 6), .ref (u10.1 7), .ref (u10.1 8), .ref (u10.1 9), .ref (u10.1 10), .ref (u10.1 11), .int 0])), ((u10.1 4), .inr (3, [.ref (u10.1 12), .ref (u10.1 13), .ref (u10.1 14), .ref (u10.1 15), .ref (u10.1 16), .ref (u10.1 17), .int 0]))] H := hP
  have hD : va_D A [(h0, .inr (0, [.ref q1, .ref q3, .ref q5, .int 0])), (q1, .inr (1, [.ref (u2.1 0), .ref (u2.1 1), .int 0, .int 0, .int 0, .int 0, .int 0, .int (-1), .long 0, .int 0, .int 0, .int 0, .int 0, .int (-1), .int (-1)])), ((u2.1 0), .inr (4, [.ref (u2.1 2), .int 0, .int 0, .int 0, .ref (u2.1 3), .ref (u2.1 4), .ref (u2.1 5)])), ((u2.1 2), .inl ((u2.2 0), 8192, .inl (fun _ => 0))), (q3, .inr (2, [.ref (u4.1 0), .int 0, .int 0, .int 0, .int 0, .int (-1), .int (-1)])), ((u2.1 1), .inr (6, [.ref (u2.1 6), .ref (u2.1 7), .ref (u2.1 8), .ref (u2.1 9), .ref (u2.1 10)])), ((u2.1 7), .inl ((u2.2 1), 3, .inl (fun _ => 0))), ((u2.1 9), .inr (5, [.ref (u2.1 11), .ref (u2.1 12), .ref (u2.1 13), .ref (u2.1 14), .ref (u2.1 15), .ref (u2.1 16), .ref (u2.1 17), .int 0])), ((u2.1 10), .inr (3, [.ref (u2.1 18), .ref (u2.1 19), .ref (u2.1 20), .ref (u2.1 21), .ref (u2.1 22), .ref (u2.1 23), .int 0])), (q5, .inl (cq5, 8, .inr (.inr (.inr (.inr (va_up f8 (1 : Int32).toNatClampNeg (some q9))))))), (q9, .inr (6, [.ref (u10.1 0), .ref (u10.1 1), .ref (u10.1 2), .ref (u10.1 3), .ref (u10.1 4)])), ((u10.1 1), .inl ((u10.2 0), 3, .inl (fun _ => 0))), ((u10.1 3), .inr (5, [.ref (u10.1 5), .ref (u10.1 6), .ref (u10.1 7), .ref (u10.1 8), .ref (u10.1 9), .ref (u10.1 10), .ref (u10.1 11), .int 0])), ((u10.1 4), .inr (3, [.ref (u10.1 12), .ref (u10.1 13), .ref (u10.1 14), .ref (u10.1 15), .ref (u10.1 16), .ref (u10.1 17), .int 0]))] := hD
  generalize (va_up f8 (1 : Int32).toNatClampNeg (some q9)) = f11 at hP hD
  have hP : va_P D cls [(h0, .inr (0, [.ref q1, .ref q3, .ref q5, .int 0])), (q1, .inr (1, [.ref (u2.1 0), .ref (u2.1 1), .int 0, .int 0, .int 0, .int 0, .int 0, .int (-1), .long 0, .int 0, .int 0, .int 0, .int 0, .int (-1), .int (-1)])), ((u2.1 0), .inr (4, [.ref (u2.1 2), .int 0, .int 0, .int 0, .ref (u2.1 3), .ref (u2.1 4), .ref (u2.1 5)])), ((u2.1 2), .inl ((u2.2 0), 8192, .inl (fun _ => 0))), (q3, .inr (2, [.ref (u4.1 0), .int 0, .int 0, .int 0, .int 0, .int (-1), .int (-1)])), ((u2.1 1), .inr (6, [.ref (u2.1 6), .ref (u2.1 7), .ref (u2.1 8), .ref (u2.1 9), .ref (u2.1 10)])), ((u2.1 7), .inl ((u2.2 1), 3, .inl (fun _ => 0))), ((u2.1 9), .inr (5, [.ref (u2.1 11), .ref (u2.1 12), .ref (u2.1 13), .ref (u2.1 14), .ref (u2.1 15), .ref (u2.1 16), .ref (u2.1 17), .int 0])), ((u2.1 10), .inr (3, [.ref (u2.1 18), .ref (u2.1 19), .ref (u2.1 20), .ref (u2.1 21), .ref (u2.1 22), .ref (u2.1 23), .int 0])), (q5, .inl (cq5, 8, .inr (.inr (.inr (.inr f11)))))] H := hP.sub [0, 1, 2, 3, 4, 5, 6, 7, 8, 9] rfl
  have hD : va_D A [(h0, .inr (0, [.ref q1, .ref q3, .ref q5, .int 0])), (q1, .inr (1, [.ref (u2.1 0), .ref (u2.1 1), .int 0, .int 0, .int 0, .int 0, .int 0, .int (-1), .long 0, .int 0, .int 0, .int 0, .int 0, .int (-1), .int (-1)])), ((u2.1 0), .inr (4, [.ref (u2.1 2), .int 0, .int 0, .int 0, .ref (u2.1 3), .ref (u2.1 4), .ref (u2.1 5)])), ((u2.1 2), .inl ((u2.2 0), 8192, .inl (fun _ => 0))), (q3, .inr (2, [.ref (u4.1 0), .int 0, .int 0, .int 0, .int 0, .int (-1), .int (-1)])), ((u2.1 1), .inr (6, [.ref (u2.1 6), .ref (u2.1 7), .ref (u2.1 8), .ref (u2.1 9), .ref (u2.1 10)])), ((u2.1 7), .inl ((u2.2 1), 3, .inl (fun _ => 0))), ((u2.1 9), .inr (5, [.ref (u2.1 11), .ref (u2.1 12), .ref (u2.1 13), .ref (u2.1 14), .ref (u2.1 15), .ref (u2.1 16), .ref (u2.1 17), .int 0])), ((u2.1 10), .inr (3, [.ref (u2.1 18), .ref (u2.1 19), .ref (u2.1 20), .ref (u2.1 21), .ref (u2.1 22), .ref (u2.1 23), .int 0])), (q5, .inl (cq5, 8, .inr (.inr (.inr (.inr f11)))))] := hD.sub [0, 1, 2, 3, 4, 5, 6, 7, 8, 9] (by decide) rfl
  have hK : va_K D cls [((u2.2 0), .byte), ((u2.2 1), .int), (cq5, .object "ObjectForge$Unit")] s := hK.sub [0, 1, 2] rfl
  refine lv_iinc (v := 2) (lv' := [(1, .int 2), (0, .ref h0)]) hx hb d_OF_init_61 hl (k := 0) rfl (by decide) (by decide) rfl (fun ls hl => ?_)
  refine lv_goto (tgt := 42) hx hb d_OF_init_64 (by decide) ?_
  refine lv_iload_n hx hb d_OF_init_42 rfl (lv_at hl 0 rfl) ?_
  refine lv_bipush (v := 8) hx hb d_OF_init_43 (by decide) ?_
  refine lv_icmp_ge (tgt := 67) hx hb d_OF_init_45 (by decide) (fun q9 => absurd q9 (by decide : ¬ ((8 : Int32) ≤ 2))) (fun _ => ?_)
  refine lv_aload_n hx hb d_OF_init_48 rfl (lv_at hl 1 rfl) ?_
  refine va_get (D := D) (ci := 0) (v := .ref q5) (C := R_OF) (T := F_OF) (N := 4) hx hb hts i_OF hown hK hP 0 rfl rfl 2 (by decide) (hts _ w_152) (fun _ h9 => h9) rfl d_OF_init_49 ?_
  refine lv_iload_n hx hb d_OF_init_52 rfl (lv_at hl 0 rfl) ?_
  refine va_new (ci := 6) (fs := [.null, .null, .null, .null, .null]) (C := R_Un) (T := F_Un) (N := 5) hx hb hts i_Un t_Un t_Un_ok hown (hts _ w_149) (hts _ w_45) (hts _ w_4) hK hP hD hS hA rfl (by decide) (Nat.le_of_ble_eq_true rfl) (Nat.le_of_ble_eq_true rfl) d_OF_init_53 (fun q12 H hP hD hS => ?_)
  have hP : va_P D cls [(h0, .inr (0, [.ref q1, .ref q3, .ref q5, .int 0])), (q1, .inr (1, [.ref (u2.1 0), .ref (u2.1 1), .int 0, .int 0, .int 0, .int 0, .int 0, .int (-1), .long 0, .int 0, .int 0, .int 0, .int 0, .int (-1), .int (-1)])), ((u2.1 0), .inr (4, [.ref (u2.1 2), .int 0, .int 0, .int 0, .ref (u2.1 3), .ref (u2.1 4), .ref (u2.1 5)])), ((u2.1 2), .inl ((u2.2 0), 8192, .inl (fun _ => 0))), (q3, .inr (2, [.ref (u4.1 0), .int 0, .int 0, .int 0, .int 0, .int (-1), .int (-1)])), ((u2.1 1), .inr (6, [.ref (u2.1 6), .ref (u2.1 7), .ref (u2.1 8), .ref (u2.1 9), .ref (u2.1 10)])), ((u2.1 7), .inl ((u2.2 1), 3, .inl (fun _ => 0))), ((u2.1 9), .inr (5, [.ref (u2.1 11), .ref (u2.1 12), .ref (u2.1 13), .ref (u2.1 14), .ref (u2.1 15), .ref (u2.1 16), .ref (u2.1 17), .int 0])), ((u2.1 10), .inr (3, [.ref (u2.1 18), .ref (u2.1 19), .ref (u2.1 20), .ref (u2.1 21), .ref (u2.1 22), .ref (u2.1 23), .int 0])), (q5, .inl (cq5, 8, .inr (.inr (.inr (.inr f11))))), (q12, .inr (6, [.null, .null, .null, .null, .null]))] H := hP
  have hD : va_D A [(h0, .inr (0, [.ref q1, .ref q3, .ref q5, .int 0])), (q1, .inr (1, [.ref (u2.1 0), .ref (u2.1 1), .int 0, .int 0, .int 0, .int 0, .int 0, .int (-1), .long 0, .int 0, .int 0, .int 0, .int 0, .int (-1), .int (-1)])), ((u2.1 0), .inr (4, [.ref (u2.1 2), .int 0, .int 0, .int 0, .ref (u2.1 3), .ref (u2.1 4), .ref (u2.1 5)])), ((u2.1 2), .inl ((u2.2 0), 8192, .inl (fun _ => 0))), (q3, .inr (2, [.ref (u4.1 0), .int 0, .int 0, .int 0, .int 0, .int (-1), .int (-1)])), ((u2.1 1), .inr (6, [.ref (u2.1 6), .ref (u2.1 7), .ref (u2.1 8), .ref (u2.1 9), .ref (u2.1 10)])), ((u2.1 7), .inl ((u2.2 1), 3, .inl (fun _ => 0))), ((u2.1 9), .inr (5, [.ref (u2.1 11), .ref (u2.1 12), .ref (u2.1 13), .ref (u2.1 14), .ref (u2.1 15), .ref (u2.1 16), .ref (u2.1 17), .int 0])), ((u2.1 10), .inr (3, [.ref (u2.1 18), .ref (u2.1 19), .ref (u2.1 20), .ref (u2.1 21), .ref (u2.1 22), .ref (u2.1 23), .int 0])), (q5, .inl (cq5, 8, .inr (.inr (.inr (.inr f11))))), (q12, .inr (6, [.null, .null, .null, .null, .null]))] := hD
  refine W.widen (k := 73) (n := 100606) (by omega) (by omega) ?_
  refine lv_dup hx hb d_OF_init_56 rfl ?_
  refine xc_IN (As := []) (rest := [.ref q12, .int 2, .ref q5]) (wc := [(q12, .inr (6, [.null, .null, .null, .null, .null]))]) (wr := [(h0, .inr (0, [.ref q1, .ref q3, .ref q5, .int 0])), (q1, .inr (1, [.ref (u2.1 0), .ref (u2.1 1), .int 0, .int 0, .int 0, .int 0, .int 0, .int (-1), .long 0, .int 0, .int 0, .int 0, .int 0, .int (-1), .int (-1)])), ((u2.1 0), .inr (4, [.ref (u2.1 2), .int 0, .int 0, .int 0, .ref (u2.1 3), .ref (u2.1 4), .ref (u2.1 5)])), ((u2.1 2), .inl ((u2.2 0), 8192, .inl (fun _ => 0))), (q3, .inr (2, [.ref (u4.1 0), .int 0, .int 0, .int 0, .int 0, .int (-1), .int (-1)])), ((u2.1 1), .inr (6, [.ref (u2.1 6), .ref (u2.1 7), .ref (u2.1 8), .ref (u2.1 9), .ref (u2.1 10)])), ((u2.1 7), .inl ((u2.2 1), 3, .inl (fun _ => 0))), ((u2.1 9), .inr (5, [.ref (u2.1 11), .ref (u2.1 12), .ref (u2.1 13), .ref (u2.1 14), .ref (u2.1 15), .ref (u2.1 16), .ref (u2.1 17), .int 0])), ((u2.1 10), .inr (3, [.ref (u2.1 18), .ref (u2.1 19), .ref (u2.1 20), .ref (u2.1 21), .ref (u2.1 22), .ref (u2.1 23), .int 0])), (q5, .inl (cq5, 8, .inr (.inr (.inr (.inr f11)))))]) (tc := []) (tr := [((u2.2 0), .byte), ((u2.2 1), .int), (cq5, .object "ObjectForge$Unit")]) ⟨hx, hb, hml, hown, hts⟩ (c_Un_init l D q12 H.size) rfl rfl rfl w_47 (by simp [xnM]) w_46 w_4 (by decide +kernel) ⟨Nat.le_of_ble_eq_true rfl, Nat.le_of_ble_eq_true rfl⟩ hP hD hK hS hA hN hZ [10] [0, 1, 2, 3, 4, 5, 6, 7, 8, 9] rfl rfl (by decide) (by decide) (by decide) [] [0, 1, 2] rfl rfl rfl hl.1 rfl (Nat.le_of_ble_eq_true rfl) d_OF_init_57 ⟨Nat.le_of_ble_eq_true rfl, Nat.le_of_ble_eq_true rfl⟩ (fun u13 H locs hP hD hK hS => ?_)
  have hP : va_P D cls [(h0, .inr (0, [.ref q1, .ref q3, .ref q5, .int 0])), (q1, .inr (1, [.ref (u2.1 0), .ref (u2.1 1), .int 0, .int 0, .int 0, .int 0, .int 0, .int (-1), .long 0, .int 0, .int 0, .int 0, .int 0, .int (-1), .int (-1)])), ((u2.1 0), .inr (4, [.ref (u2.1 2), .int 0, .int 0, .int 0, .ref (u2.1 3), .ref (u2.1 4), .ref (u2.1 5)])), ((u2.1 2), .inl ((u2.2 0), 8192, .inl (fun _ => 0))), (q3, .inr (2, [.ref (u4.1 0), .int 0, .int 0, .int 0, .int 0, .int (-1), .int (-1)])), ((u2.1 1), .inr (6, [.ref (u2.1 6), .ref (u2.1 7), .ref (u2.1 8), .ref (u2.1 9), .ref (u2.1 10)])), ((u2.1 7), .inl ((u2.2 1), 3, .inl (fun _ => 0))), ((u2.1 9), .inr (5, [.ref (u2.1 11), .ref (u2.1 12), .ref (u2.1 13), .ref (u2.1 14), .ref (u2.1 15), .ref (u2.1 16), .ref (u2.1 17), .int 0])), ((u2.1 10), .inr (3, [.ref (u2.1 18), .ref (u2.1 19), .ref (u2.1 20), .ref (u2.1 21), .ref (u2.1 22), .ref (u2.1 23), .int 0])), (q5, .inl (cq5, 8, .inr (.inr (.inr (.inr f11))))), (q12, .inr (6, [.ref (u13.1 0), .ref (u13.1 1), .ref (u13.1 2), .ref (u13.1 3), .ref (u13.1 4)])), ((u13.1 1), .inl ((u13.2 0), 3, .inl (fun _ => 0))), ((u13.1 3), .inr (5, [.ref (u13.1 5), .ref (u13.1 6), .ref (u13.1 7), .ref (u13.1 8), .ref (u13.1 9), .ref (u13.1 10), .ref (u13.1 11), .int 0])), ((u13.1 4), .inr (3, [.ref (u13.1 12), .ref (u13.1 13), .ref (u13.1 14), .ref (u13.1 15), .ref (u13.1 16), .ref (u13.1 17), .int 0]))] H := hP
  have hD : va_D A [(h0, .inr (0, [.ref q1, .ref q3, .ref q5, .int 0])), (q1, .inr (1, [.ref (u2.1 0), .ref (u2.1 1), .int 0, .int 0, .int 0, .int 0, .int 0, .int (-1), .long 0, .int 0, .int 0, .int 0, .int 0, .int (-1), .int (-1)])), ((u2.1 0), .inr (4, [.ref (u2.1 2), .int 0, .int 0, .int 0, .ref (u2.1 3), .ref (u2.1 4), .ref (u2.1 5)])), ((u2.1 2), .inl ((u2.2 0), 8192, .inl (fun _ => 0))), (q3, .inr (2, [.ref (u4.1 0), .int 0, .int 0, .int 0, .int 0, .int (-1), .int (-1)])), ((u2.1 1), .inr (6, [.ref (u2.1 6), .ref (u2.1 7), .ref (u2.1 8), .ref (u2.1 9), .ref (u2.1 10)])), ((u2.1 7), .inl ((u2.2 1), 3, .inl (fun _ => 0))), ((u2.1 9), .inr (5, [.ref (u2.1 11), .ref (u2.1 12), .ref (u2.1 13), .ref (u2.1 14), .ref (u2.1 15), .ref (u2.1 16), .ref (u2.1 17), .int 0])), ((u2.1 10), .inr (3, [.ref (u2.1 18), .ref (u2.1 19), .ref (u2.1 20), .ref (u2.1 21), .ref (u2.1 22), .ref (u2.1 23), .int 0])), (q5, .inl (cq5, 8, .inr (.inr (.inr (.inr f11))))), (q12, .inr (6, [.ref (u13.1 0), .ref (u13.1 1), .ref (u13.1 2), .ref (u13.1 3), .ref (u13.1 4)])), ((u13.1 1), .inl ((u13.2 0), 3, .inl (fun _ => 0))), ((u13.1 3), .inr (5, [.ref (u13.1 5), .ref (u13.1 6), .ref (u13.1 7), .ref (u13.1 8), .ref (u13.1 9), .ref (u13.1 10), .ref (u13.1 11), .int 0])), ((u13.1 4), .inr (3, [.ref (u13.1 12), .ref (u13.1 13), .ref (u13.1 14), .ref (u13.1 15), .ref (u13.1 16), .ref (u13.1 17), .int 0]))] := hD
  have hK : va_K D cls [((u2.2 0), .byte), ((u2.2 1), .int), (cq5, .object "ObjectForge$Unit"), ((u13.2 0), .int)] s := hK
  refine W.widen (k := 93) (n := 112277) (by omega) (by omega) ?_
  refine W.eq (g2 := F0 m 60 ls [.ref q12, .int 2, .ref q5]) rfl ?_
  refine va_astq hx hb hK hP hD hS 9 2 10 6 rfl rfl rfl rfl (by unfold vp_in; decide) d_OF_init_60 (fun H locs hP hD hS => ?_)
  have hP : va_P D cls [(h0, .inr (0, [.ref q1, .ref q3, .ref q5, .int 0])), (q1, .inr (1, [.ref (u2.1 0), .ref (u2.1 1), .int 0, .int 0, .int 0, .int 0, .int 0, .int (-1), .long 0, .int 0, .int 0, .int 0, .int 0, .int (-1), .int (-1)])), ((u2.1 0), .inr (4, [.ref (u2.1 2), .int 0, .int 0, .int 0, .ref (u2.1 3), .ref (u2.1 4), .ref (u2.1 5)])), ((u2.1 2), .inl ((u2.2 0), 8192, .inl (fun _ => 0))), (q3, .inr (2, [.ref (u4.1 0), .int 0, .int 0, .int 0, .int 0, .int (-1), .int (-1)])), ((u2.1 1), .inr (6, [.ref (u2.1 6), .ref (u2.1 7), .ref (u2.1 8), .ref (u2.1 9), .ref (u2.1 10)])), ((u2.1 7), .inl ((u2.2 1), 3, .inl (fun _ => 0))), ((u2.1 9), .inr (5, [.ref (u2.1 11), .ref (u2.1 12), .ref (u2.1 13), .ref (u2.1 14), .ref (u2.1 15), .ref (u2.1 16), .ref (u2.1 17), .int 0])), ((u2.1 10), .inr (3, [.ref (u2.1 18), .ref (u2.1 19), .ref (u2.1 20), .ref (u2.1 21), .ref (u2.1 22), .ref (u2.1 23), .int 0])), (q5, .inl (cq5, 8, .inr (.inr (.inr (.inr (va_up f11 (2 : Int32).toNatClampNeg (some q12))))))), (q12, .inr (6, [.ref (u13.1 0), .ref (u13.1 1), .ref (u13.1 2), .ref (u13.1 3), .ref (u13.1 4)])), ((u13.1 1), .inl ((u13.2 0), 3, .inl (fun _ => 0))), ((u13.1 3), .inr (5, [.ref (u13.1 5), .ref (u13.1 6), .ref (u13.1 7), .ref (u13.1 8), .ref (u13.1 9), .ref (u13.1 10), .ref (u13.1 11), .int 0])), ((u13.1 4), .inr (3, [.ref (u13.1 12), .ref (u13.1 13), .ref (u13.1 14), .ref (u13.1 15), .ref (u13.1 16), .ref (u13.1 17), .int 0]))] H := hP
  have hD : va_D A [(h0, .inr (0, [.ref q1, .ref q3, .ref q5, .int 0])), (q1, .inr (1, [.ref (u2.1 0), .ref (u2.1 1), .int 0, .int 0, .int 0, .int 0, .int 0, .int (-1), .long 0, .int 0, .int 0, .int 0, .int 0, .int (-1), .int (-1)])), ((u2.1 0), .inr (4, [.ref (u2.1 2), .int 0, .int 0, .int 0, .ref (u2.1 3), .ref (u2.1 4), .ref (u2.1 5)])), ((u2.1 2), .inl ((u2.2 0), 8192, .inl (fun _ => 0))), (q3, .inr (2, [.ref (u4.1 0), .int 0, .int 0, .int 0, .int 0, .int (-1), .int (-1)])), ((u2.1 1), .inr (6, [.ref (u2.1 6), .ref (u2.1 7), .ref (u2.1 8), .ref (u2.1 9), .ref (u2.1 10)])), ((u2.1 7), .inl ((u2.2 1), 3, .inl (fun _ => 0))), ((u2.1 9), .inr (5, [.ref (u2.1 11), .ref (u2.1 12), .ref (u2.1 13), .ref (u2.1 14), .ref (u2.1 15), .ref (u2.1 16), .ref (u2.1 17), .int 0])), ((u2.1 10), .inr (3, [.ref (u2.1 18), .ref (u2.1 19), .ref (u2.1 20), .ref (u2.1 21), .ref (u2.1 22), .ref (u2.1 23), .int 0])), (q5, .inl (cq5, 8, .inr (.inr (.inr (.inr (va_up f11 (2 : Int32).toNatClampNeg (some q12))))))), (q12, .inr (6, [.ref (u13.1 0), .ref (u13.1 1), .ref (u13.1 2), .ref (u13.1 3), .ref (u13.1 4)])), ((u13.1 1), .inl ((u13.2 0), 3, .inl (fun _ => 0))), ((u13.1 3), .inr (5, [.ref (u13.1 5), .ref (u13.1 6), .ref (u13.1 7), .ref (u13.1 8), .ref (u13.1 9), .ref (u13.1 10), .ref (u13.1 11), .int 0])), ((u13.1 4), .inr (3, [.ref (u13.1 12), .ref (u13.1 13), .ref (u13.1 14), .ref (u13.1 15), .ref (u13.1 16), .ref (u13.1 17), .int 0]))] := hD
  generalize (va_up f11 (2 : Int32).toNatClampNeg (some q12)) = f14 at hP hD
  have hP : va_P D cls [(h0, .inr (0, [.ref q1, .ref q3, .ref q5, .int 0])), (q1, .inr (1, [.ref (u2.1 0), .ref (u2.1 1), .int 0, .int 0, .int 0, .int 0, .int 0, .int (-1), .long 0, .int 0, .int 0, .int 0, .int 0, .int (-1), .int (-1)])), ((u2.1 0), .inr (4, [.ref (u2.1 2), .int 0, .int 0, .int 0, .ref (u2.1 3), .ref (u2.1 4), .ref (u2.1 5)])), ((u2.1 2), .inl ((u2.2 0), 8192, .inl (fun _ => 0))), (q3, .inr (2, [.ref (u4.1 0), .int 0, .int 0, .int 0, .int 0, .int (-1), .int (-1)])), ((u2.1 1), .inr (6, [.ref (u2.1 6), .ref (u2.1 7), .ref (u2.1 8), .ref (u2.1 9), .ref (u2.1 10)])), ((u2.1 7), .inl ((u2.2 1), 3, .inl (fun _ => 0))), ((u2.1 9), .inr (5, [.ref (u2.1 11), .ref (u2.1 12), .ref (u2.1 13), .ref (u2.1 14), .ref (u2.1 15), .ref (u2.1 16), .ref (u2.1 17), .int 0])), ((u2.1 10), .inr (3, [.ref (u2.1 18), .ref (u2.1 19), .ref (u2.1 20), .ref (u2.1 21), .ref (u2.1 22), .ref (u2.1 23), .int 0])), (q5, .inl (cq5, 8, .inr (.inr (.inr (.inr f14)))))] H := hP.sub [0, 1, 2, 3, 4, 5, 6, 7, 8, 9] rfl
  have hD : va_D A [(h0, .inr (0, [.ref q1, .ref q3, .ref q5, .int 0])), (q1, .inr (1, [.ref (u2.1 0), .ref (u2.1 1), .int 0, .int 0, .int 0, .int 0, .int 0, .int (-1), .long 0, .int 0, .int 0, .int 0, .int 0, .int (-1), .int (-1)])), ((u2.1 0), .inr (4, [.ref (u2.1 2), .int 0, .int 0, .int 0, .ref (u2.1 3), .ref (u2.1 4), .ref (u2.1 5)])), ((u2.1 2), .inl ((u2.2 0), 8192, .inl (fun _ => 0))), (q3, .inr (2, [.ref (u4.1 0), .int 0, .int 0, .int 0, .int 0, .int (-1), .int (-1)])), ((u2.1 1), .inr (6, [.ref (u2.1 6), .ref (u2.1 7), .ref (u2.1 8), .ref (u2.1 9), .ref (u2.1 10)])), ((u2.1 7), .inl ((u2.2 1), 3, .inl (fun _ => 0))), ((u2.1 9), .inr (5, [.ref (u2.1 11), .ref (u2.1 12), .ref (u2.1 13), .ref (u2.1 14), .ref (u2.1 15), .ref (u2.1 16), .ref (u2.1 17), .int 0])), ((u2.1 10), .inr (3, [.ref (u2.1 18), .ref (u2.1 19), .ref (u2.1 20), .ref (u2.1 21), .ref (u2.1 22), .ref (u2.1 23), .int 0])), (q5, .inl (cq5, 8, .inr (.inr (.inr (.inr f14)))))] := hD.sub [0, 1, 2, 3, 4, 5, 6, 7, 8, 9] (by decide) rfl
  have hK : va_K D cls [((u2.2 0), .byte), ((u2.2 1), .int), (cq5, .object "ObjectForge$Unit")] s := hK.sub [0, 1, 2] rfl
  refine lv_iinc (v := 3) (lv' := [(1, .int 3), (0, .ref h0)]) hx hb d_OF_init_61 hl (k := 0) rfl (by decide) (by decide) rfl (fun ls hl => ?_)
  refine lv_goto (tgt := 42) hx hb d_OF_init_64 (by decide) ?_
  refine lv_iload_n hx hb d_OF_init_42 rfl (lv_at hl 0 rfl) ?_
  refine lv_bipush (v := 8) hx hb d_OF_init_43 (by decide) ?_
  refine lv_icmp_ge (tgt := 67) hx hb d_OF_init_45 (by decide) (fun q9 => absurd q9 (by decide : ¬ ((8 : Int32) ≤ 3))) (fun _ => ?_)
  refine lv_aload_n hx hb d_OF_init_48 rfl (lv_at hl 1 rfl) ?_
  refine va_get (D := D) (ci := 0) (v := .ref q5) (C := R_OF) (T := F_OF) (N := 4) hx hb hts i_OF hown hK hP 0 rfl rfl 2 (by decide) (hts _ w_152) (fun _ h9 => h9) rfl d_OF_init_49 ?_
  refine lv_iload_n hx hb d_OF_init_52 rfl (lv_at hl 0 rfl) ?_
  refine va_new (ci := 6) (fs := [.null, .null, .null, .null, .null]) (C := R_Un) (T := F_Un) (N := 5) hx hb hts i_Un t_Un t_Un_ok hown (hts _ w_149) (hts _ w_45) (hts _ w_4) hK hP hD hS hA rfl (by decide) (Nat.le_of_ble_eq_true rfl) (Nat.le_of_ble_eq_true rfl) d_OF_init_53 (fun q15 H hP hD hS => ?_)
  have hP : va_P D cls [(h0, .inr (0, [.ref q1, .ref q3, .ref q5, .int 0])), (q1, .inr (1, [.ref (u2.1 0), .ref (u2.1 1), .int 0, .int 0, .int 0, .int 0, .int 0, .int (-1), .long 0, .int 0, .int 0, .int 0, .int 0, .int (-1), .int (-1)])), ((u2.1 0), .inr (4, [.ref (u2.1 2), .int 0, .int 0, .int 0, .ref (u2.1 3), .ref (u2.1 4), .ref (u2.1 5)])), ((u2.1 2), .inl ((u2.2 0), 8192, .inl (fun _ => 0))), (q3, .inr (2, [.ref (u4.1 0), .int 0, .int 0, .int 0, .int 0, .int (-1), .int (-1)])), ((u2.1 1), .inr (6, [.ref (u2.1 6), .ref (u2.1 7), .ref (u2.1 8), .ref (u2.1 9), .ref (u2.1 10)])), ((u2.1 7), .inl ((u2.2 1), 3, .inl (fun _ => 0))), ((u2.1 9), .inr (5, [.ref (u2.1 11), .ref (u2.1 12), .ref (u2.1 13), .ref (u2.1 14), .ref (u2.1 15), .ref (u2.1 16), .ref (u2.1 17), .int 0])), ((u2.1 10), .inr (3, [.ref (u2.1 18), .ref (u2.1 19), .ref (u2.1 20), .ref (u2.1 21), .ref (u2.1 22), .ref (u2.1 23), .int 0])), (q5, .inl (cq5, 8, .inr (.inr (.inr (.inr f14))))), (q15, .inr (6, [.null, .null, .null, .null, .null]))] H := hP
  have hD : va_D A [(h0, .inr (0, [.ref q1, .ref q3, .ref q5, .int 0])), (q1, .inr (1, [.ref (u2.1 0), .ref (u2.1 1), .int 0, .int 0, .int 0, .int 0, .int 0, .int (-1), .long 0, .int 0, .int 0, .int 0, .int 0, .int (-1), .int (-1)])), ((u2.1 0), .inr (4, [.ref (u2.1 2), .int 0, .int 0, .int 0, .ref (u2.1 3), .ref (u2.1 4), .ref (u2.1 5)])), ((u2.1 2), .inl ((u2.2 0), 8192, .inl (fun _ => 0))), (q3, .inr (2, [.ref (u4.1 0), .int 0, .int 0, .int 0, .int 0, .int (-1), .int (-1)])), ((u2.1 1), .inr (6, [.ref (u2.1 6), .ref (u2.1 7), .ref (u2.1 8), .ref (u2.1 9), .ref (u2.1 10)])), ((u2.1 7), .inl ((u2.2 1), 3, .inl (fun _ => 0))), ((u2.1 9), .inr (5, [.ref (u2.1 11), .ref (u2.1 12), .ref (u2.1 13), .ref (u2.1 14), .ref (u2.1 15), .ref (u2.1 16), .ref (u2.1 17), .int 0])), ((u2.1 10), .inr (3, [.ref (u2.1 18), .ref (u2.1 19), .ref (u2.1 20), .ref (u2.1 21), .ref (u2.1 22), .ref (u2.1 23), .int 0])), (q5, .inl (cq5, 8, .inr (.inr (.inr (.inr f14))))), (q15, .inr (6, [.null, .null, .null, .null, .null]))] := hD
  refine W.widen (k := 94) (n := 112282) (by omega) (by omega) ?_
  refine lv_dup hx hb d_OF_init_56 rfl ?_
  refine xc_IN (As := []) (rest := [.ref q15, .int 3, .ref q5]) (wc := [(q15, .inr (6, [.null, .null, .null, .null, .null]))]) (wr := [(h0, .inr (0, [.ref q1, .ref q3, .ref q5, .int 0])), (q1, .inr (1, [.ref (u2.1 0), .ref (u2.1 1), .int 0, .int 0, .int 0, .int 0, .int 0, .int (-1), .long 0, .int 0, .int 0, .int 0, .int 0, .int (-1), .int (-1)])), ((u2.1 0), .inr (4, [.ref (u2.1 2), .int 0, .int 0, .int 0, .ref (u2.1 3), .ref (u2.1 4), .ref (u2.1 5)])), ((u2.1 2), .inl ((u2.2 0), 8192, .inl (fun _ => 0))), (q3, .inr (2, [.ref (u4.1 0), .int 0, .int 0, .int 0, .int 0, .int (-1), .int (-1)])), ((u2.1 1), .inr (6, [.ref (u2.1 6), .ref (u2.1 7), .ref (u2.1 8), .ref (u2.1 9), .ref (u2.1 10)])), ((u2.1 7), .inl ((u2.2 1), 3, .inl (fun _ => 0))), ((u2.1 9), .inr (5, [.ref (u2.1 11), .ref (u2.1 12), .ref (u2.1 13), .ref (u2.1 14), .ref (u2.1 15), .ref (u2.1 16), .ref (u2.1 17), .int 0])), ((u2.1 10), .inr (3, [.ref (u2.1 18), .ref (u2.1 19), .ref (u2.1 20), .ref (u2.1 21), .ref (u2.1 22), .ref (u2.1 23), .int 0])), (q5, .inl (cq5, 8, .inr (.inr (.inr (.inr f14)))))]) (tc := []) (tr := [((u2.2 0), .byte), ((u2.2 1), .int), (cq5, .object "ObjectForge$Unit")]) ⟨hx, hb, hml, hown, hts⟩ (c_Un_init l D q15 H.size) rfl rfl rfl w_47 (by simp [xnM]) w_46 w_4 (by decide +kernel) ⟨Nat.le_of_ble_eq_true rfl, Nat.le_of_ble_eq_true rfl⟩ hP hD hK hS hA hN hZ [10] [0, 1, 2, 3, 4, 5, 6, 7, 8, 9] rfl rfl (by decide) (by decide) (by decide) [] [0, 1, 2] rfl rfl rfl hl.1 rfl (Nat.le_of_ble_eq_true rfl) d_OF_init_57 ⟨Nat.le_of_ble_eq_true rfl, Nat.le_of_ble_eq_true rfl⟩ (fun u16 H locs hP hD hK hS => ?_)
  have hP : va_P D cls [(h0, .inr (0, [.ref q1, .ref q3, .ref q5, .int 0])), (q1, .inr (1, [.ref (u2.1 0), .ref (u2.1 1), .int 0, .int 0, .int 0, .int 0, .int 0, .int (-1), .long 0, .int 0, .int 0, .int 0, .int 0, .int (-1), .int (-1)])), ((u2.1 0), .inr (4, [.ref (u2.1 2), .int 0, .int 0, .int 0, .ref (u2.1 3), .ref (u2.1 4), .ref (u2.1 5)])), ((u2.1 2), .inl ((u2.2 0), 8192, .inl (fun _ => 0))), (q3, .inr (2, [.ref (u4.1 0), .int 0, .int 0, .int 0, .int 0, .int (-1), .int (-1)])), ((u2.1 1), .inr (6, [.ref (u2.1 6), .ref (u2.1 7), .ref (u2.1 8), .ref (u2.1 9), .ref (u2.1 10)])), ((u2.1 7), .inl ((u2.2 1), 3, .inl (fun _ => 0))), ((u2.1 9), .inr (5, [.ref (u2.1 11), .ref (u2.1 12), .ref (u2.1 13), .ref (u2.1 14), .ref (u2.1 15), .ref (u2.1 16), .ref (u2.1 17), .int 0])), ((u2.1 10), .inr (3, [.ref (u2.1 18), .ref (u2.1 19), .ref (u2.1 20), .ref (u2.1 21), .ref (u2.1 22), .ref (u2.1 23), .int 0])), (q5, .inl (cq5, 8, .inr (.inr (.inr (.inr f14))))), (q15, .inr (6, [.ref (u16.1 0), .ref (u16.1 1), .ref (u16.1 2), .ref (u16.1 3), .ref (u16.1 4)])), ((u16.1 1), .inl ((u16.2 0), 3, .inl (fun _ => 0))), ((u16.1 3), .inr (5, [.ref (u16.1 5), .ref (u16.1 6), .ref (u16.1 7), .ref (u16.1 8), .ref (u16.1 9), .ref (u16.1 10), .ref (u16.1 11), .int 0])), ((u16.1 4), .inr (3, [.ref (u16.1 12), .ref (u16.1 13), .ref (u16.1 14), .ref (u16.1 15), .ref (u16.1 16), .ref (u16.1 17), .int 0]))] H := hP
  have hD : va_D A [(h0, .inr (0, [.ref q1, .ref q3, .ref q5, .int 0])), (q1, .inr (1, [.ref (u2.1 0), .ref (u2.1 1), .int 0, .int 0, .int 0, .int 0, .int 0, .int (-1), .long 0, .int 0, .int 0, .int 0, .int 0, .int (-1), .int (-1)])), ((u2.1 0), .inr (4, [.ref (u2.1 2), .int 0, .int 0, .int 0, .ref (u2.1 3), .ref (u2.1 4), .ref (u2.1 5)])), ((u2.1 2), .inl ((u2.2 0), 8192, .inl (fun _ => 0))), (q3, .inr (2, [.ref (u4.1 0), .int 0, .int 0, .int 0, .int 0, .int (-1), .int (-1)])), ((u2.1 1), .inr (6, [.ref (u2.1 6), .ref (u2.1 7), .ref (u2.1 8), .ref (u2.1 9), .ref (u2.1 10)])), ((u2.1 7), .inl ((u2.2 1), 3, .inl (fun _ => 0))), ((u2.1 9), .inr (5, [.ref (u2.1 11), .ref (u2.1 12), .ref (u2.1 13), .ref (u2.1 14), .ref (u2.1 15), .ref (u2.1 16), .ref (u2.1 17), .int 0])), ((u2.1 10), .inr (3, [.ref (u2.1 18), .ref (u2.1 19), .ref (u2.1 20), .ref (u2.1 21), .ref (u2.1 22), .ref (u2.1 23), .int 0])), (q5, .inl (cq5, 8, .inr (.inr (.inr (.inr f14))))), (q15, .inr (6, [.ref (u16.1 0), .ref (u16.1 1), .ref (u16.1 2), .ref (u16.1 3), .ref (u16.1 4)])), ((u16.1 1), .inl ((u16.2 0), 3, .inl (fun _ => 0))), ((u16.1 3), .inr (5, [.ref (u16.1 5), .ref (u16.1 6), .ref (u16.1 7), .ref (u16.1 8), .ref (u16.1 9), .ref (u16.1 10), .ref (u16.1 11), .int 0])), ((u16.1 4), .inr (3, [.ref (u16.1 12), .ref (u16.1 13), .ref (u16.1 14), .ref (u16.1 15), .ref (u16.1 16), .ref (u16.1 17), .int 0]))] := hD
  have hK : va_K D cls [((u2.2 0), .byte), ((u2.2 1), .int), (cq5, .object "ObjectForge$Unit"), ((u16.2 0), .int)] s := hK
  refine W.widen (k := 114) (n := 123953) (by omega) (by omega) ?_
  refine W.eq (g2 := F0 m 60 ls [.ref q15, .int 3, .ref q5]) rfl ?_
  refine va_astq hx hb hK hP hD hS 9 2 10 6 rfl rfl rfl rfl (by unfold vp_in; decide) d_OF_init_60 (fun H locs hP hD hS => ?_)
  have hP : va_P D cls [(h0, .inr (0, [.ref q1, .ref q3, .ref q5, .int 0])), (q1, .inr (1, [.ref (u2.1 0), .ref (u2.1 1), .int 0, .int 0, .int 0, .int 0, .int 0, .int (-1), .long 0, .int 0, .int 0, .int 0, .int 0, .int (-1), .int (-1)])), ((u2.1 0), .inr (4, [.ref (u2.1 2), .int 0, .int 0, .int 0, .ref (u2.1 3), .ref (u2.1 4), .ref (u2.1 5)])), ((u2.1 2), .inl ((u2.2 0), 8192, .inl (fun _ => 0))), (q3, .inr (2, [.ref (u4.1 0), .int 0, .int 0, .int 0, .int 0, .int (-1), .int (-1)])), ((u2.1 1), .inr (6, [.ref (u2.1 6), .ref (u2.1 7), .ref (u2.1 8), .ref (u2.1 9), .ref (u2.1 10)])), ((u2.1 7), .inl ((u2.2 1), 3, .inl (fun _ => 0))), ((u2.1 9), .inr (5, [.ref (u2.1 11), .ref (u2.1 12), .ref (u2.1 13), .ref (u2.1 14), .ref (u2.1 15), .ref (u2.1 16), .ref (u2.1 17), .int 0])), ((u2.1 10), .inr (3, [.ref (u2.1 18), .ref (u2.1 19), .ref (u2.1 20), .ref (u2.1 21), .ref (u2.1 22), .ref (u2.1 23), .int 0])), (q5, .inl (cq5, 8, .inr (.inr (.inr (.inr (va_up f14 (3 : Int32).toNatClampNeg (some q15))))))), (q15, .inr (6, [.ref (u16.1 0), .ref (u16.1 1), .ref (u16.1 2), .ref (u16.1 3), .ref (u16.1 4)])), ((u16.1 1), .inl ((u16.2 0), 3, .inl (fun _ => 0))), ((u16.1 3), .inr (5, [.ref (u16.1 5), .ref (u16.1 6), .ref (u16.1 7), .ref (u16.1 8), .ref (u16.1 9), .ref (u16.1 10), .ref (u16.1 11), .int 0])), ((u16.1 4), .inr (3, [.ref (u16.1 12), .ref (u16.1 13), .ref (u16.1 14), .ref (u16.1 15), .ref (u16.1 16), .ref (u16.1 17), .int 0]))] H := hP
  have hD : va_D A [(h0, .inr (0, [.ref q1, .ref q3, .ref q5, .int 0])), (q1, .inr (1, [.ref (u2.1 0), .ref (u2.1 1), .int 0, .int 0, .int 0, .int 0, .int 0, .int (-1), .long 0, .int 0, .int 0, .int 0, .int 0, .int (-1), .int (-1)])), ((u2.1 0), .inr (4, [.ref (u2.1 2), .int 0, .int 0, .int 0, .ref (u2.1 3), .ref (u2.1 4), .ref (u2.1 5)])), ((u2.1 2), .inl ((u2.2 0), 8192, .inl (fun _ => 0))), (q3, .inr (2, [.ref (u4.1 0), .int 0, .int 0, .int 0, .int 0, .int (-1), .int (-1)])), ((u2.1 1), .inr (6, [.ref (u2.1 6), .ref (u2.1 7), .ref (u2.1 8), .ref (u2.1 9), .ref (u2.1 10)])), ((u2.1 7), .inl ((u2.2 1), 3, .inl (fun _ => 0))), ((u2.1 9), .inr (5, [.ref (u2.1 11), .ref (u2.1 12), .ref (u2.1 13), .ref (u2.1 14), .ref (u2.1 15), .ref (u2.1 16), .ref (u2.1 17), .int 0])), ((u2.1 10), .inr (3, [.ref (u2.1 18), .ref (u2.1 19), .ref (u2.1 20), .ref (u2.1 21), .ref (u2.1 22), .ref (u2.1 23), .int 0])), (q5, .inl (cq5, 8, .inr (.inr (.inr (.inr (va_up f14 (3 : Int32).toNatClampNeg (some q15))))))), (q15, .inr (6, [.ref (u16.1 0), .ref (u16.1 1), .ref (u16.1 2), .ref (u16.1 3), .ref (u16.1 4)])), ((u16.1 1), .inl ((u16.2 0), 3, .inl (fun _ => 0))), ((u16.1 3), .inr (5, [.ref (u16.1 5), .ref (u16.1 6), .ref (u16.1 7), .ref (u16.1 8), .ref (u16.1 9), .ref (u16.1 10), .ref (u16.1 11), .int 0])), ((u16.1 4), .inr (3, [.ref (u16.1 12), .ref (u16.1 13), .ref (u16.1 14), .ref (u16.1 15), .ref (u16.1 16), .ref (u16.1 17), .int 0]))] := hD
  generalize (va_up f14 (3 : Int32).toNatClampNeg (some q15)) = f17 at hP hD
  have hP : va_P D cls [(h0, .inr (0, [.ref q1, .ref q3, .ref q5, .int 0])), (q1, .inr (1, [.ref (u2.1 0), .ref (u2.1 1), .int 0, .int 0, .int 0, .int 0, .int 0, .int (-1), .long 0, .int 0, .int 0, .int 0, .int 0, .int (-1), .int (-1)])), ((u2.1 0), .inr (4, [.ref (u2.1 2), .int 0, .int 0, .int 0, .ref (u2.1 3), .ref (u2.1 4), .ref (u2.1 5)])), ((u2.1 2), .inl ((u2.2 0), 8192, .inl (fun _ => 0))), (q3, .inr (2, [.ref (u4.1 0), .int 0, .int 0, .int 0, .int 0, .int (-1), .int (-1)])), ((u2.1 1), .inr (6, [.ref (u2.1 6), .ref (u2.1 7), .ref (u2.1 8), .ref (u2.1 9), .ref (u2.1 10)])), ((u2.1 7), .inl ((u2.2 1), 3, .inl (fun _ => 0))), ((u2.1 9), .inr (5, [.ref (u2.1 11), .ref (u2.1 12), .ref (u2.1 13), .ref (u2.1 14), .ref (u2.1 15), .ref (u2.1 16), .ref (u2.1 17), .int 0])), ((u2.1 10), .inr (3, [.ref (u2.1 18), .ref (u2.1 19), .ref (u2.1 20), .ref (u2.1 21), .ref (u2.1 22), .ref (u2.1 23), .int 0])), (q5, .inl (cq5, 8, .inr (.inr (.inr (.inr f17)))))] H := hP.sub [0, 1, 2, 3, 4, 5, 6, 7, 8, 9] rfl
  have hD : va_D A [(h0, .inr (0, [.ref q1, .ref q3, .ref q5, .int 0])), (q1, .inr (1, [.ref (u2.1 0), .ref (u2.1 1), .int 0, .int 0, .int 0, .int 0, .int 0, .int (-1), .long 0, .int 0, .int 0, .int 0, .int 0, .int (-1), .int (-1)])), ((u2.1 0), .inr (4, [.ref (u2.1 2), .int 0, .int 0, .int 0, .ref (u2.1 3), .ref (u2.1 4), .ref (u2.1 5)])), ((u2.1 2), .inl ((u2.2 0), 8192, .inl (fun _ => 0))), (q3, .inr (2, [.ref (u4.1 0), .int 0, .int 0, .int 0, .int 0, .int (-1), .int (-1)])), ((u2.1 1), .inr (6, [.ref (u2.1 6), .ref (u2.1 7), .ref (u2.1 8), .ref (u2.1 9), .ref (u2.1 10)])), ((u2.1 7), .inl ((u2.2 1), 3, .inl (fun _ => 0))), ((u2.1 9), .inr (5, [.ref (u2.1 11), .ref (u2.1 12), .ref (u2.1 13), .ref (u2.1 14), .ref (u2.1 15), .ref (u2.1 16), .ref (u2.1 17), .int 0])), ((u2.1 10), .inr (3, [.ref (u2.1 18), .ref (u2.1 19), .ref (u2.1 20), .ref (u2.1 21), .ref (u2.1 22), .ref (u2.1 23), .int 0])), (q5, .inl (cq5, 8, .inr (.inr (.inr (.inr f17)))))] := hD.sub [0, 1, 2, 3, 4, 5, 6, 7, 8, 9] (by decide) rfl
  have hK : va_K D cls [((u2.2 0), .byte), ((u2.2 1), .int), (cq5, .object "ObjectForge$Unit")] s := hK.sub [0, 1, 2] rfl
  refine lv_iinc (v := 4) (lv' := [(1, .int 4), (0, .ref h0)]) hx hb d_OF_init_61 hl (k := 0) rfl (by decide) (by decide) rfl (fun ls hl => ?_)
  refine lv_goto (tgt := 42) hx hb d_OF_init_64 (by decide) ?_
  refine lv_iload_n hx hb d_OF_init_42 rfl (lv_at hl 0 rfl) ?_
  refine lv_bipush (v := 8) hx hb d_OF_init_43 (by decide) ?_
  refine lv_icmp_ge (tgt := 67) hx hb d_OF_init_45 (by decide) (fun q9 => absurd q9 (by decide : ¬ ((8 : Int32) ≤ 4))) (fun _ => ?_)
  refine lv_aload_n hx hb d_OF_init_48 rfl (lv_at hl 1 rfl) ?_
  refine va_get (D := D) (ci := 0) (v := .ref q5) (C := R_OF) (T := F_OF) (N := 4) hx hb hts i_OF hown hK hP 0 rfl rfl 2 (by decide) (hts _ w_152) (fun _ h9 => h9) rfl d_OF_init_49 ?_
  refine lv_iload_n hx hb d_OF_init_52 rfl (lv_at hl 0 rfl) ?_
  refine va_new (ci := 6) (fs := [.null, .null, .null, .null, .null]) (C := R_Un) (T := F_Un) (N := 5) hx hb hts i_Un t_Un t_Un_ok hown (hts _ w_149) (hts _ w_45) (hts _ w_4) hK hP hD hS hA rfl (by decide) (Nat.le_of_ble_eq_true rfl) (Nat.le_of_ble_eq_true rfl) d_OF_init_53 (fun q18 H hP hD hS => ?_)
  have hP : va_P D cls [(h0, .inr (0, [.ref q1, .ref q3, .ref q5, .int 0])), (q1, .inr (1, [.ref (u2.1 0), .ref (u2.1 1), .int 0, .int 0, .int 0, .int 0, .int 0, .int (-1), .long 0, .int 0, .int 0, .int 0, .int 0, .int (-1), .int (-1)])), ((u2.1 0), .inr (4, [.ref (u2.1 2), .int 0, .int 0, .int 0, .ref (u2.1 3), .ref (u2.1 4), .ref (u2.1 5)])), ((u2.1 2), .inl ((u2.2 0), 8192, .inl (fun _ => 0))), (q3, .inr (2, [.ref (u4.1 0), .int 0, .int 0, .int 0, .int 0, .int (-1), .int (-1)])), ((u2.1 1), .inr (6, [.ref (u2.1 6), .ref (u2.1 7), .ref (u2.1 8), .ref (u2.1 9), .ref (u2.1 10)])), ((u2.1 7), .inl ((u2.2 1), 3, .inl (fun _ => 0))), ((u2.1 9), .inr (5, [.ref (u2.1 11), .ref (u2.1 12), .ref (u2.1 13), .ref (u2.1 14), .ref (u2.1 15), .ref (u2.1 16), .ref (u2.1 17), .int 0])), ((u2.1 10), .inr (3, [.ref (u2.1 18), .ref (u2.1 19), .ref (u2.1 20), .ref (u2.1 21), .ref (u2.1 22), .ref (u2.1 23), .int 0])), (q5, .inl (cq5, 8, .inr (.inr (.inr (.inr f17))))), (q18, .inr (6, [.null, .null, .null, .null, .null]))] H := hP
  have hD : va_D A [(h0, .inr (0, [.ref q1, .ref q3, .ref q5, .int 0])), (q1, .inr (1, [.ref (u2.1 0), .ref (u2.1 1), .int 0, .int 0, .int 0, .int 0, .int 0, .int (-1), .long 0, .int 0, .int 0, .int 0, .int 0, .int (-1), .int (-1)])), ((u2.1 0), .inr (4, [.ref (u2.1 2), .int 0, .int 0, .int 0, .ref (u2.1 3), .ref (u2.1 4), .ref (u2.1 5)])), ((u2.1 2), .inl ((u2.2 0), 8192, .inl (fun _ => 0))), (q3, .inr (2, [.ref (u4.1 0), .int 0, .int 0, .int 0, .int 0, .int (-1), .int (-1)])), ((u2.1 1), .inr (6, [.ref (u2.1 6), .ref (u2.1 7), .ref (u2.1 8), .ref (u2.1 9), .ref (u2.1 10)])), ((u2.1 7), .inl ((u2.2 1), 3, .inl (fun _ => 0))), ((u2.1 9), .inr (5, [.ref (u2.1 11), .ref (u2.1 12), .ref (u2.1 13), .ref (u2.1 14), .ref (u2.1 15), .ref (u2.1 16), .ref (u2.1 17), .int 0])), ((u2.1 10), .inr (3, [.ref (u2.1 18), .ref (u2.1 19), .ref (u2.1 20), .ref (u2.1 21), .ref (u2.1 22), .ref (u2.1 23), .int 0])), (q5, .inl (cq5, 8, .inr (.inr (.inr (.inr f17))))), (q18, .inr (6, [.null, .null, .null, .null, .null]))] := hD
  refine W.widen (k := 115) (n := 123958) (by omega) (by omega) ?_
  refine lv_dup hx hb d_OF_init_56 rfl ?_
  refine xc_IN (As := []) (rest := [.ref q18, .int 4, .ref q5]) (wc := [(q18, .inr (6, [.null, .null, .null, .null, .null]))]) (wr := [(h0, .inr (0, [.ref q1, .ref q3, .ref q5, .int 0])), (q1, .inr (1, [.ref (u2.1 0), .ref (u2.1 1), .int 0, .int 0, .int 0, .int 0, .int 0, .int (-1), .long 0, .int 0, .int 0, .int 0, .int 0, .int (-1), .int (-1)])), ((u2.1 0), .inr (4, [.ref (u2.1 2), .int 0, .int 0, .int 0, .ref (u2.1 3), .ref (u2.1 4), .ref (u2.1 5)])), ((u2.1 2), .inl ((u2.2 0), 8192, .inl (fun _ => 0))), (q3, .inr (2, [.ref (u4.1 0), .int 0, .int 0, .int 0, .int 0, .int (-1), .int (-1)])), ((u2.1 1), .inr (6, [.ref (u2.1 6), .ref (u2.1 7), .ref (u2.1 8), .ref (u2.1 9), .ref (u2.1 10)])), ((u2.1 7), .inl ((u2.2 1), 3, .inl (fun _ => 0))), ((u2.1 9), .inr (5, [.ref (u2.1 11), .ref (u2.1 12), .ref (u2.1 13), .ref (u2.1 14), .ref (u2.1 15), .ref (u2.1 16), .ref (u2.1 17), .int 0])), ((u2.1 10), .inr (3, [.ref (u2.1 18), .ref (u2.1 19), .ref (u2.1 20), .ref (u2.1 21), .ref (u2.1 22), .ref (u2.1 23), .int 0])), (q5, .inl (cq5, 8, .inr (.inr (.inr (.inr f17)))))]) (tc := []) (tr := [((u2.2 0), .byte), ((u2.2 1), .int), (cq5, .object "ObjectForge$Unit")]) ⟨hx, hb, hml, hown, hts⟩ (c_Un_init l D q18 H.size) rfl rfl rfl w_47 (by simp [xnM]) w_46 w_4 (by decide +kernel) ⟨Nat.le_of_ble_eq_true rfl, Nat.le_of_ble_eq_true rfl⟩ hP hD hK hS hA hN hZ [10] [0, 1, 2, 3, 4, 5, 6, 7, 8, 9] rfl rfl (by decide) (by decide) (by decide) [] [0, 1, 2] rfl rfl rfl hl.1 rfl (Nat.le_of_ble_eq_true rfl) d_OF_init_57 ⟨Nat.le_of_ble_eq_true rfl, Nat.le_of_ble_eq_true rfl⟩ (fun u19 H locs hP hD hK hS => ?_)
  have hP : va_P D cls [(h0, .inr (0, [.ref q1, .ref q3, .ref q5, .int 0])), (q1, .inr (1, [.ref (u2.1 0), .ref (u2.1 1), .int 0, .int 0, .int 0, .int 0, .int 0, .int (-1), .long 0, .int 0, .int 0, .int 0, .int 0, .int (-1), .int (-1)])), ((u2.1 0), .inr (4, [.ref (u2.1 2), .int 0, .int 0, .int 0, .ref (u2.1 3), .ref (u2.1 4), .ref (u2.1 5)])), ((u2.1 2), .inl ((u2.2 0), 8192, .inl (fun _ => 0))), (q3, .inr (2, [.ref (u4.1 0), .int 0, .int 0, .int 0, .int 0, .int (-1), .int (-1)])), ((u2.1 1), .inr (6, [.ref (u2.1 6), .ref (u2.1 7), .ref (u2.1 8), .ref (u2.1 9), .ref (u2.1 10)])), ((u2.1 7), .inl ((u2.2 1), 3, .inl (fun _ => 0))), ((u2.1 9), .inr (5, [.ref (u2.1 11), .ref (u2.1 12), .ref (u2.1 13), .ref (u2.1 14), .ref (u2.1 15), .ref (u2.1 16), .ref (u2.1 17), .int 0])), ((u2.1 10), .inr (3, [.ref (u2.1 18), .ref (u2.1 19), .ref (u2.1 20), .ref (u2.1 21), .ref (u2.1 22), .ref (u2.1 23), .int 0])), (q5, .inl (cq5, 8, .inr (.inr (.inr (.inr f17))))), (q18, .inr (6, [.ref (u19.1 0), .ref (u19.1 1), .ref (u19.1 2), .ref (u19.1 3), .ref (u19.1 4)])), ((u19.1 1), .inl ((u19.2 0), 3, .inl (fun _ => 0))), ((u19.1 3), .inr (5, [.ref (u19.1 5), .ref (u19.1 6), .ref (u19.1 7), .ref (u19.1 8), .ref (u19.1 9), .ref (u19.1 10), .ref (u19.1 11), .int 0])), ((u19.1 4), .inr (3, [.ref (u19.1 12), .ref (u19.1 13), .ref (u19.1 14), .ref (u19.1 15), .ref (u19.1 16), .ref (u19.1 17), .int 0]))] H := hP
  have hD : va_D A [(h0, .inr (0, [.ref q1, .ref q3, .ref q5, .int 0])), (q1, .inr (1, [.ref (u2.1 0), .ref (u2.1 1), .int 0, .int 0, .int 0, .int 0, .int 0, .int (-1), .long 0, .int 0, .int 0, .int 0, .int 0, .int (-1), .int (-1)])), ((u2.1 0), .inr (4, [.ref (u2.1 2), .int 0, .int 0, .int 0, .ref (u2.1 3), .ref (u2.1 4), .ref (u2.1 5)])), ((u2.1 2), .inl ((u2.2 0), 8192, .inl (fun _ => 0))), (q3, .inr (2, [.ref (u4.1 0), .int 0, .int 0, .int 0, .int 0, .int (-1), .int (-1)])), ((u2.1 1), .inr (6, [.ref (u2.1 6), .ref (u2.1 7), .ref (u2.1 8), .ref (u2.1 9), .ref (u2.1 10)])), ((u2.1 7), .inl ((u2.2 1), 3, .inl (fun _ => 0))), ((u2.1 9), .inr (5, [.ref (u2.1 11), .ref (u2.1 12), .ref (u2.1 13), .ref (u2.1 14), .ref (u2.1 15), .ref (u2.1 16), .ref (u2.1 17), .int 0])), ((u2.1 10), .inr (3, [.ref (u2.1 18), .ref (u2.1 19), .ref (u2.1 20), .ref (u2.1 21), .ref (u2.1 22), .ref (u2.1 23), .int 0])), (q5, .inl (cq5, 8, .inr (.inr (.inr (.inr f17))))), (q18, .inr (6, [.ref (u19.1 0), .ref (u19.1 1), .ref (u19.1 2), .ref (u19.1 3), .ref (u19.1 4)])), ((u19.1 1), .inl ((u19.2 0), 3, .inl (fun _ => 0))), ((u19.1 3), .inr (5, [.ref (u19.1 5), .ref (u19.1 6), .ref (u19.1 7), .ref (u19.1 8), .ref (u19.1 9), .ref (u19.1 10), .ref (u19.1 11), .int 0])), ((u19.1 4), .inr (3, [.ref (u19.1 12), .ref (u19.1 13), .ref (u19.1 14), .ref (u19.1 15), .ref (u19.1 16), .ref (u19.1 17), .int 0]))] := hD
  have hK : va_K D cls [((u2.2 0), .byte), ((u2.2 1), .int), (cq5, .object "ObjectForge$Unit"), ((u19.2 0), .int)] s := hK
  refine W.widen (k := 135) (n := 135629) (by omega) (by omega) ?_
  refine W.eq (g2 := F0 m 60 ls [.ref q18, .int 4, .ref q5]) rfl ?_
  refine va_astq hx hb hK hP hD hS 9 2 10 6 rfl rfl rfl rfl (by unfold vp_in; decide) d_OF_init_60 (fun H locs hP hD hS => ?_)
  have hP : va_P D cls [(h0, .inr (0, [.ref q1, .ref q3, .ref q5, .int 0])), (q1, .inr (1, [.ref (u2.1 0), .ref (u2.1 1), .int 0, .int 0, .int 0, .int 0, .int 0, .int (-1), .long 0, .int 0, .int 0, .int 0, .int 0, .int (-1), .int (-1)])), ((u2.1 0), .inr (4, [.ref (u2.1 2), .int 0, .int 0, .int 0, .ref (u2.1 3), .ref (u2.1 4), .ref (u2.1 5)])), ((u2.1 2), .inl ((u2.2 0), 8192, .inl (fun _ => 0))), (q3, .inr (2, [.ref (u4.1 0), .int 0, .int 0, .int 0, .int 0, .int (-1), .int (-1)])), ((u2.1 1), .inr (6, [.ref (u2.1 6), .ref (u2.1 7), .ref (u2.1 8), .ref (u2.1 9), .ref (u2.1 10)])), ((u2.1 7), .inl ((u2.2 1), 3, .inl (fun _ => 0))), ((u2.1 9), .inr (5, [.ref (u2.1 11), .ref (u2.1 12), .ref (u2.1 13), .ref (u2.1 14), .ref (u2.1 15), .ref (u2.1 16), .ref (u2.1 17), .int 0])), ((u2.1 10), .inr (3, [.ref (u2.1 18), .ref (u2.1 19), .ref (u2.1 20), .ref (u2.1 21), .ref (u2.1 22), .ref (u2.1 23), .int 0])), (q5, .inl (cq5, 8, .inr (.inr (.inr (.inr (va_up f17 (4 : Int32).toNatClampNeg (some q18))))))), (q18, .inr (6, [.ref (u19.1 0), .ref (u19.1 1), .ref (u19.1 2), .ref (u19.1 3), .ref (u19.1 4)])), ((u19.1 1), .inl ((u19.2 0), 3, .inl (fun _ => 0))), ((u19.1 3), .inr (5, [.ref (u19.1 5), .ref (u19.1 6), .ref (u19.1 7), .ref (u19.1 8), .ref (u19.1 9), .ref (u19.1 10), .ref (u19.1 11), .int 0])), ((u19.1 4), .inr (3, [.ref (u19.1 12), .ref (u19.1 13), .ref (u19.1 14), .ref (u19.1 15), .ref (u19.1 16), .ref (u19.1 17), .int 0]))] H := hP
  have hD : va_D A [(h0, .inr (0, [.ref q1, .ref q3, .ref q5, .int 0])), (q1, .inr (1, [.ref (u2.1 0), .ref (u2.1 1), .int 0, .int 0, .int 0, .int 0, .int 0, .int (-1), .long 0, .int 0, .int 0, .int 0, .int 0, .int (-1), .int (-1)])), ((u2.1 0), .inr (4, [.ref (u2.1 2), .int 0, .int 0, .int 0, .ref (u2.1 3), .ref (u2.1 4), .ref (u2.1 5)])), ((u2.1 2), .inl ((u2.2 0), 8192, .inl (fun _ => 0))), (q3, .inr (2, [.ref (u4.1 0), .int 0, .int 0, .int 0, .int 0, .int (-1), .int (-1)])), ((u2.1 1), .inr (6, [.ref (u2.1 6), .ref (u2.1 7), .ref (u2.1 8), .ref (u2.1 9), .ref (u2.1 10)])), ((u2.1 7), .inl ((u2.2 1), 3, .inl (fun _ => 0))), ((u2.1 9), .inr (5, [.ref (u2.1 11), .ref (u2.1 12), .ref (u2.1 13), .ref (u2.1 14), .ref (u2.1 15), .ref (u2.1 16), .ref (u2.1 17), .int 0])), ((u2.1 10), .inr (3, [.ref (u2.1 18), .ref (u2.1 19), .ref (u2.1 20), .ref (u2.1 21), .ref (u2.1 22), .ref (u2.1 23), .int 0])), (q5, .inl (cq5, 8, .inr (.inr (.inr (.inr (va_up f17 (4 : Int32).toNatClampNeg (some q18))))))), (q18, .inr (6, [.ref (u19.1 0), .ref (u19.1 1), .ref (u19.1 2), .ref (u19.1 3), .ref (u19.1 4)])), ((u19.1 1), .inl ((u19.2 0), 3, .inl (fun _ => 0))), ((u19.1 3), .inr (5, [.ref (u19.1 5), .ref (u19.1 6), .ref (u19.1 7), .ref (u19.1 8), .ref (u19.1 9), .ref (u19.1 10), .ref (u19.1 11), .int 0])), ((u19.1 4), .inr (3, [.ref (u19.1 12), .ref (u19.1 13), .ref (u19.1 14), .ref (u19.1 15), .ref (u19.1 16), .ref (u19.1 17), .int 0]))] := hD
  generalize (va_up f17 (4 : Int32).toNatClampNeg (some q18)) = f20 at hP hD
  have hP : va_P D cls [(h0, .inr (0, [.ref q1, .ref q3, .ref q5, .int 0])), (q1, .inr (1, [.ref (u2.1 0), .ref (u2.1 1), .int 0, .int 0, .int 0, .int 0, .int 0, .int (-1), .long 0, .int 0, .int 0, .int 0, .int 0, .int (-1), .int (-1)])), ((u2.1 0), .inr (4, [.ref (u2.1 2), .int 0, .int 0, .int 0, .ref (u2.1 3), .ref (u2.1 4), .ref (u2.1 5)])), ((u2.1 2), .inl ((u2.2 0), 8192, .inl (fun _ => 0))), (q3, .inr (2, [.ref (u4.1 0), .int 0, .int 0, .int 0, .int 0, .int (-1), .int (-1)])), ((u2.1 1), .inr (6, [.ref (u2.1 6), .ref (u2.1 7), .ref (u2.1 8), .ref (u2.1 9), .ref (u2.1 10)])), ((u2.1 7), .inl ((u2.2 1), 3, .inl (fun _ => 0))), ((u2.1 9), .inr (5, [.ref (u2.1 11), .ref (u2.1 12), .ref (u2.1 13), .ref (u2.1 14), .ref (u2.1 15), .ref (u2.1 16), .ref (u2.1 17), .int 0])), ((u2.1 10), .inr (3, [.ref (u2.1 18), .ref (u2.1 19), .ref (u2.1 20), .ref (u2.1 21), .ref (u2.1 22), .ref (u2.1 23), .int 0])), (q5, .inl (cq5, 8, .inr (.inr (.inr (.inr f20)))))] H := hP.sub [0, 1, 2, 3, 4, 5, 6, 7, 8, 9] rfl
  have hD : va_D A [(h0, .inr (0, [.ref q1, .ref q3, .ref q5, .int 0])), (q1, .inr (1, [.ref (u2.1 0), .ref (u2.1 1), .int 0, .int 0, .int 0, .int 0, .int 0, .int (-1), .long 0, .int 0, .int 0, .int 0, .int 0, .int (-1), .int (-1)])), ((u2.1 0), .inr (4, [.ref (u2.1 2), .int 0, .int 0, .int 0, .ref (u2.1 3), .ref (u2.1 4), .ref (u2.1 5)])), ((u2.1 2), .inl ((u2.2 0), 8192, .inl (fun _ => 0))), (q3, .inr (2, [.ref (u4.1 0), .int 0, .int 0, .int 0, .int 0, .int (-1), .int (-1)])), ((u2.1 1), .inr (6, [.ref (u2.1 6), .ref (u2.1 7), .ref (u2.1 8), .ref (u2.1 9), .ref (u2.1 10)])), ((u2.1 7), .inl ((u2.2 1), 3, .inl (fun _ => 0))), ((u2.1 9), .inr (5, [.ref (u2.1 11), .ref (u2.1 12), .ref (u2.1 13), .ref (u2.1 14), .ref (u2.1 15), .ref (u2.1 16), .ref (u2.1 17), .int 0])), ((u2.1 10), .inr (3, [.ref (u2.1 18), .ref (u2.1 19), .ref (u2.1 20), .ref (u2.1 21), .ref (u2.1 22), .ref (u2.1 23), .int 0])), (q5, .inl (cq5, 8, .inr (.inr (.inr (.inr f20)))))] := hD.sub [0, 1, 2, 3, 4, 5, 6, 7, 8, 9] (by decide) rfl
  have hK : va_K D cls [((u2.2 0), .byte), ((u2.2 1), .int), (cq5, .object "ObjectForge$Unit")] s := hK.sub [0, 1, 2] rfl
  refine lv_iinc (v := 5) (lv' := [(1, .int 5), (0, .ref h0)]) hx hb d_OF_init_61 hl (k := 0) rfl (by decide) (by decide) rfl (fun ls hl => ?_)
  refine lv_goto (tgt := 42) hx hb d_OF_init_64 (by decide) ?_
  refine lv_iload_n hx hb d_OF_init_42 rfl (lv_at hl 0 rfl) ?_
  refine lv_bipush (v := 8) hx hb d_OF_init_43 (by decide) ?_
  refine lv_icmp_ge (tgt := 67) hx hb d_OF_init_45 (by decide) (fun q9 => absurd q9 (by decide : ¬ ((8 : Int32) ≤ 5))) (fun _ => ?_)
  refine lv_aload_n hx hb d_OF_init_48 rfl (lv_at hl 1 rfl) ?_
  refine va_get (D := D) (ci := 0) (v := .ref q5) (C := R_OF) (T := F_OF) (N := 4) hx hb hts i_OF hown hK hP 0 rfl rfl 2 (by decide) (hts _ w_152) (fun _ h9 => h9) rfl d_OF_init_49 ?_
  refine lv_iload_n hx hb d_OF_init_52 rfl (lv_at hl 0 rfl) ?_
  refine va_new (ci := 6) (fs := [.null, .null, .null, .null, .null]) (C := R_Un) (T := F_Un) (N := 5) hx hb hts i_Un t_Un t_Un_ok hown (hts _ w_149) (hts _ w_45) (hts _ w_4) hK hP hD hS hA rfl (by decide) (Nat.le_of_ble_eq_true rfl) (Nat.le_of_ble_eq_true rfl) d_OF_init_53 (fun q21 H hP hD hS => ?_)
  have hP : va_P D cls [(h0, .inr (0, [.ref q1, .ref q3, .ref q5, .int 0])), (q1, .inr (1, [.ref (u2.1 0), .ref (u2.1 1), .int 0, .int 0, .int 0, .int 0, .int 0, .int (-1), .long 0, .int 0, .int 0, .int 0, .int 0, .int (-1), .int (-1)])), ((u2.1 0), .inr (4, [.ref (u2.1 2), .int 0, .int 0, .int 0, .ref (u2.1 3), .ref (u2.1 4), .ref (u2.1 5)])), ((u2.1 2), .inl ((u2.2 0), 8192, .inl (fun _ => 0))), (q3, .inr (2, [.ref (u4.1 0), .int 0, .int 0, .int 0, .int 0, .int (-1), .int (-1)])), ((u2.1 1), .inr (6, [.ref (u2.1 6), .ref (u2.1 7), .ref (u2.1 8), .ref (u2.1 9), .ref (u2.1 10)])), ((u2.1 7), .inl ((u2.2 1), 3, .inl (fun _ => 0))), ((u2.1 9), .inr (5, [.ref (u2.1 11), .ref (u2.1 12), .ref (u2.1 13), .ref (u2.1 14), .ref (u2.1 15), .ref (u2.1 16), .ref (u2.1 17), .int 0])), ((u2.1 10), .inr (3, [.ref (u2.1 18), .ref (u2.1 19), .ref (u2.1 20), .ref (u2.1 21), .ref (u2.1 22), .ref (u2.1 23), .int 0])), (q5, .inl (cq5, 8, .inr (.inr (.inr (.inr f20))))), (q21, .inr (6, [.null, .null, .null, .null, .null]))] H := hP
  have hD : va_D A [(h0, .inr (0, [.ref q1, .ref q3, .ref q5, .int 0])), (q1, .inr (1, [.ref (u2.1 0), .ref (u2.1 1), .int 0, .int 0, .int 0, .int 0, .int 0, .int (-1), .long 0, .int 0, .int 0, .int 0, .int 0, .int (-1), .int (-1)])), ((u2.1 0), .inr (4, [.ref (u2.1 2), .int 0, .int 0, .int 0, .ref (u2.1 3), .ref (u2.1 4), .ref (u2.1 5)])), ((u2.1 2), .inl ((u2.2 0), 8192, .inl (fun _ => 0))), (q3, .inr (2, [.ref (u4.1 0), .int 0, .int 0, .int 0, .int 0, .int (-1), .int (-1)])), ((u2.1 1), .inr (6, [.ref (u2.1 6), .ref (u2.1 7), .ref (u2.1 8), .ref (u2.1 9), .ref (u2.1 10)])), ((u2.1 7), .inl ((u2.2 1), 3, .inl (fun _ => 0))), ((u2.1 9), .inr (5, [.ref (u2.1 11), .ref (u2.1 12), .ref (u2.1 13), .ref (u2.1 14), .ref (u2.1 15), .ref (u2.1 16), .ref (u2.1 17), .int 0])), ((u2.1 10), .inr (3, [.ref (u2.1 18), .ref (u2.1 19), .ref (u2.1 20), .ref (u2.1 21), .ref (u2.1 22), .ref (u2.1 23), .int 0])), (q5, .inl (cq5, 8, .inr (.inr (.inr (.inr f20))))), (q21, .inr (6, [.null, .null, .null, .null, .null]))] := hD
  refine W.widen (k := 136) (n := 135634) (by omega) (by omega) ?_
  refine lv_dup hx hb d_OF_init_56 rfl ?_
  refine xc_IN (As := []) (rest := [.ref q21, .int 5, .ref q5]) (wc := [(q21, .inr (6, [.null, .null, .null, .null, .null]))]) (wr := [(h0, .inr (0, [.ref q1, .ref q3, .ref q5, .int 0])), (q1, .inr (1, [.ref (u2.1 0), .ref (u2.1 1), .int 0, .int 0, .int 0, .int 0, .int 0, .int (-1), .long 0, .int 0, .int 0, .int 0, .int 0, .int (-1), .int (-1)])), ((u2.1 0), .inr (4, [.ref (u2.1 2), .int 0, .int 0, .int 0, .ref (u2.1 3), .ref (u2.1 4), .ref (u2.1 5)])), ((u2.1 2), .inl ((u2.2 0), 8192, .inl (fun _ => 0))), (q3, .inr (2, [.ref (u4.1 0), .int 0, .int 0, .int 0, .int 0, .int (-1), .int (-1)])), ((u2.1 1), .inr (6, [.ref (u2.1 6), .ref (u2.1 7), .ref (u2.1 8), .ref (u2.1 9), .ref (u2.1 10)])), ((u2.1 7), .inl ((u2.2 1), 3, .inl (fun _ => 0))), ((u2.1 9), .inr (5, [.ref (u2.1 11), .ref (u2.1 12), .ref (u2.1 13), .ref (u2.1 14), .ref (u2.1 15), .ref (u2.1 16), .ref (u2.1 17), .int 0])), ((u2.1 10), .inr (3, [.ref (u2.1 18), .ref (u2.1 19), .ref (u2.1 20), .ref (u2.1 21), .ref (u2.1 22), .ref (u2.1 23), .int 0])), (q5, .inl (cq5, 8, .inr (.inr (.inr (.inr f20)))))]) (tc := []) (tr := [((u2.2 0), .byte), ((u2.2 1), .int), (cq5, .object "ObjectForge$Unit")]) ⟨hx, hb, hml, hown, hts⟩ (c_Un_init l D q21 H.size) rfl rfl rfl w_47 (by simp [xnM]) w_46 w_4 (by decide +kernel) ⟨Nat.le_of_ble_eq_true rfl, Nat.le_of_ble_eq_true rfl⟩ hP hD hK hS hA hN hZ [10] [0, 1, 2, 3, 4, 5, 6, 7, 8, 9] rfl rfl (by decide) (by decide) (by decide) [] [0, 1, 2] rfl rfl rfl hl.1 rfl (Nat.le_of_ble_eq_true rfl) d_OF_init_57 ⟨Nat.le_of_ble_eq_true rfl, Nat.le_of_ble_eq_true rfl⟩ (fun u22 H locs hP hD hK hS => ?_)
  have hP : va_P D cls [(h0, .inr (0, [.ref q1, .ref q3, .ref q5, .int 0])), (q1, .inr (1, [.ref (u2.1 0), .ref (u2.1 1), .int 0, .int 0, .int 0, .int 0, .int 0, .int (-1), .long 0, .int 0, .int 0, .int 0, .int 0, .int (-1), .int (-1)])), ((u2.1 0), .inr (4, [.ref (u2.1 2), .int 0, .int 0, .int 0, .ref (u2.1 3), .ref (u2.1 4), .ref (u2.1 5)])), ((u2.1 2), .inl ((u2.2 0), 8192, .inl (fun _ => 0))), (q3, .inr (2, [.ref (u4.1 0), .int 0, .int 0, .int 0, .int 0, .int (-1), .int (-1)])), ((u2.1 1), .inr (6, [.ref (u2.1 6), .ref (u2.1 7), .ref (u2.1 8), .ref (u2.1 9), .ref (u2.1 10)])), ((u2.1 7), .inl ((u2.2 1), 3, .inl (fun _ => 0))), ((u2.1 9), .inr (5, [.ref (u2.1 11), .ref (u2.1 12), .ref (u2.1 13), .ref (u2.1 14), .ref (u2.1 15), .ref (u2.1 16), .ref (u2.1 17), .int 0])), ((u2.1 10), .inr (3, [.ref (u2.1 18), .ref (u2.1 19), .ref (u2.1 20), .ref (u2.1 21), .ref (u2.1 22), .ref (u2.1 23), .int 0])), (q5, .inl (cq5, 8, .inr (.inr (.inr (.inr f20))))), (q21, .inr (6, [.ref (u22.1 0), .ref (u22.1 1), .ref (u22.1 2), .ref (u22.1 3), .ref (u22.1 4)])), ((u22.1 1), .inl ((u22.2 0), 3, .inl (fun _ => 0))), ((u22.1 3), .inr (5, [.ref (u22.1 5), .ref (u22.1 6), .ref (u22.1 7), .ref (u22.1 8), .ref (u22.1 9), .ref (u22.1 10), .ref (u22.1 11), .int 0])), ((u22.1 4), .inr (3, [.ref (u22.1 12), .ref (u22.1 13), .ref (u22.1 14), .ref (u22.1 15), .ref (u22.1 16), .ref (u22.1 17), .int 0]))] H := hP
  have hD : va_D A [(h0, .inr (0, [.ref q1, .ref q3, .ref q5, .int 0])), (q1, .inr (1, [.ref (u2.1 0), .ref (u2.1 1), .int 0, .int 0, .int 0, .int 0, .int 0, .int (-1), .long 0, .int 0, .int 0, .int 0, .int 0, .int (-1), .int (-1)])), ((u2.1 0), .inr (4, [.ref (u2.1 2), .int 0, .int 0, .int 0, .ref (u2.1 3), .ref (u2.1 4), .ref (u2.1 5)])), ((u2.1 2), .inl ((u2.2 0), 8192, .inl (fun _ => 0))), (q3, .inr (2, [.ref (u4.1 0), .int 0, .int 0, .int 0, .int 0, .int (-1), .int (-1)])), ((u2.1 1), .inr (6, [.ref (u2.1 6), .ref (u2.1 7), .ref (u2.1 8), .ref (u2.1 9), .ref (u2.1 10)])), ((u2.1 7), .inl ((u2.2 1), 3, .inl (fun _ => 0))), ((u2.1 9), .inr (5, [.ref (u2.1 11), .ref (u2.1 12), .ref (u2.1 13), .ref (u2.1 14), .ref (u2.1 15), .ref (u2.1 16), .ref (u2.1 17), .int 0])), ((u2.1 10), .inr (3, [.ref (u2.1 18), .ref (u2.1 19), .ref (u2.1 20), .ref (u2.1 21), .ref (u2.1 22), .ref (u2.1 23), .int 0])), (q5, .inl (cq5, 8, .inr (.inr (.inr (.inr f20))))), (q21, .inr (6, [.ref (u22.1 0), .ref (u22.1 1), .ref (u22.1 2), .ref (u22.1 3), .ref (u22.1 4)])), ((u22.1 1), .inl ((u22.2 0), 3, .inl (fun _ => 0))), ((u22.1 3), .inr (5, [.ref (u22.1 5), .ref (u22.1 6), .ref (u22.1 7), .ref (u22.1 8), .ref (u22.1 9), .ref (u22.1 10), .ref (u22.1 11), .int 0])), ((u22.1 4), .inr (3, [.ref (u22.1 12), .ref (u22.1 13), .ref (u22.1 14), .ref (u22.1 15), .ref (u22.1 16), .ref (u22.1 17), .int 0]))] := hD
  have hK : va_K D cls [((u2.2 0), .byte), ((u2.2 1), .int), (cq5, .object "ObjectForge$Unit"), ((u22.2 0), .int)] s := hK
  refine W.widen (k := 156) (n := 147305) (by omega) (by omega) ?_
  refine W.eq (g2 := F0 m 60 ls [.ref q21, .int 5, .ref q5]) rfl ?_
  refine va_astq hx hb hK hP hD hS 9 2 10 6 rfl rfl rfl rfl (by unfold vp_in; decide) d_OF_init_60 (fun H locs hP hD hS => ?_)
  have hP : va_P D cls [(h0, .inr (0, [.ref q1, .ref q3, .ref q5, .int 0])), (q1, .inr (1, [.ref (u2.1 0), .ref (u2.1 1), .int 0, .int 0, .int 0, .int 0, .int 0, .int (-1), .long 0, .int 0, .int 0, .int 0, .int 0, .int (-1), .int (-1)])), ((u2.1 0), .inr (4, [.ref (u2.1 2), .int 0, .int 0, .int 0, .ref (u2.1 3), .ref (u2.1 4), .ref (u2.1 5)])), ((u2.1 2), .inl ((u2.2 0), 8192, .inl (fun _ => 0))), (q3, .inr (2, [.ref (u4.1 0), .int 0, .int 0, .int 0, .int 0, .int (-1), .int (-1)])), ((u2.1 1), .inr (6, [.ref (u2.1 6), .ref (u2.1 7), .ref (u2.1 8), .ref (u2.1 9), .ref (u2.1 10)])), ((u2.1 7), .inl ((u2.2 1), 3, .inl (fun _ => 0))), ((u2.1 9), .inr (5, [.ref (u2.1 11), .ref (u2.1 12), .ref (u2.1 13), .ref (u2.1 14), .ref (u2.1 15), .ref (u2.1 16), .ref (u2.1 17), .int 0])), ((u2.1 10), .inr (3, [.ref (u2.1 18), .ref (u2.1 19), .ref (u2.1 20), .ref (u2.1 21), .ref (u2.1 22), .ref (u2.1 23), .int 0])), (q5, .inl (cq5, 8, .inr (.inr (.inr (.inr (va_up f20 (5 : Int32).toNatClampNeg (some q21))))))), (q21, .inr (6, [.ref (u22.1 0), .ref (u22.1 1), .ref (u22.1 2), .ref (u22.1 3), .ref (u22.1 4)])), ((u22.1 1), .inl ((u22.2 0), 3, .inl (fun _ => 0))), ((u22.1 3), .inr (5, [.ref (u22.1 5), .ref (u22.1 6), .ref (u22.1 7), .ref (u22.1 8), .ref (u22.1 9), .ref (u22.1 10), .ref (u22.1 11), .int 0])), ((u22.1 4), .inr (3, [.ref (u22.1 12), .ref (u22.1 13), .ref (u22.1 14), .ref (u22.1 15), .ref (u22.1 16), .ref (u22.1 17), .int 0]))] H := hP
  have hD : va_D A [(h0, .inr (0, [.ref q1, .ref q3, .ref q5, .int 0])), (q1, .inr (1, [.ref (u2.1 0), .ref (u2.1 1), .int 0, .int 0, .int 0, .int 0, .int 0, .int (-1), .long 0, .int 0, .int 0, .int 0, .int 0, .int (-1), .int (-1)])), ((u2.1 0), .inr (4, [.ref (u2.1 2), .int 0, .int 0, .int 0, .ref (u2.1 3), .ref (u2.1 4), .ref (u2.1 5)])), ((u2.1 2), .inl ((u2.2 0), 8192, .inl (fun _ => 0))), (q3, .inr (2, [.ref (u4.1 0), .int 0, .int 0, .int 0, .int 0, .int (-1), .int (-1)])), ((u2.1 1), .inr (6, [.ref (u2.1 6), .ref (u2.1 7), .ref (u2.1 8), .ref (u2.1 9), .ref (u2.1 10)])), ((u2.1 7), .inl ((u2.2 1), 3, .inl (fun _ => 0))), ((u2.1 9), .inr (5, [.ref (u2.1 11), .ref (u2.1 12), .ref (u2.1 13), .ref (u2.1 14), .ref (u2.1 15), .ref (u2.1 16), .ref (u2.1 17), .int 0])), ((u2.1 10), .inr (3, [.ref (u2.1 18), .ref (u2.1 19), .ref (u2.1 20), .ref (u2.1 21), .ref (u2.1 22), .ref (u2.1 23), .int 0])), (q5, .inl (cq5, 8, .inr (.inr (.inr (.inr (va_up f20 (5 : Int32).toNatClampNeg (some q21))))))), (q21, .inr (6, [.ref (u22.1 0), .ref (u22.1 1), .ref (u22.1 2), .ref (u22.1 3), .ref (u22.1 4)])), ((u22.1 1), .inl ((u22.2 0), 3, .inl (fun _ => 0))), ((u22.1 3), .inr (5, [.ref (u22.1 5), .ref (u22.1 6), .ref (u22.1 7), .ref (u22.1 8), .ref (u22.1 9), .ref (u22.1 10), .ref (u22.1 11), .int 0])), ((u22.1 4), .inr (3, [.ref (u22.1 12), .ref (u22.1 13), .ref (u22.1 14), .ref (u22.1 15), .ref (u22.1 16), .ref (u22.1 17), .int 0]))] := hD
  generalize (va_up f20 (5 : Int32).toNatClampNeg (some q21)) = f23 at hP hD
  have hP : va_P D cls [(h0, .inr (0, [.ref q1, .ref q3, .ref q5, .int 0])), (q1, .inr (1, [.ref (u2.1 0), .ref (u2.1 1), .int 0, .int 0, .int 0, .int 0, .int 0, .int (-1), .long 0, .int 0, .int 0, .int 0, .int 0, .int (-1), .int (-1)])), ((u2.1 0), .inr (4, [.ref (u2.1 2), .int 0, .int 0, .int 0, .ref (u2.1 3), .ref (u2.1 4), .ref (u2.1 5)])), ((u2.1 2), .inl ((u2.2 0), 8192, .inl (fun _ => 0))), (q3, .inr (2, [.ref (u4.1 0), .int 0, .int 0, .int 0, .int 0, .int (-1), .int (-1)])), ((u2.1 1), .inr (6, [.ref (u2.1 6), .ref (u2.1 7), .ref (u2.1 8), .ref (u2.1 9), .ref (u2.1 10)])), ((u2.1 7), .inl ((u2.2 1), 3, .inl (fun _ => 0))), ((u2.1 9), .inr (5, [.ref (u2.1 11), .ref (u2.1 12), .ref (u2.1 13), .ref (u2.1 14), .ref (u2.1 15), .ref (u2.1 16), .ref (u2.1 17), .int 0])), ((u2.1 10), .inr (3, [.ref (u2.1 18), .ref (u2.1 19), .ref (u2.1 20), .ref (u2.1 21), .ref (u2.1 22), .ref (u2.1 23), .int 0])), (q5, .inl (cq5, 8, .inr (.inr (.inr (.inr f23)))))] H := hP.sub [0, 1, 2, 3, 4, 5, 6, 7, 8, 9] rfl
  have hD : va_D A [(h0, .inr (0, [.ref q1, .ref q3, .ref q5, .int 0])), (q1, .inr (1, [.ref (u2.1 0), .ref (u2.1 1), .int 0, .int 0, .int 0, .int 0, .int 0, .int (-1), .long 0, .int 0, .int 0, .int 0, .int 0, .int (-1), .int (-1)])), ((u2.1 0), .inr (4, [.ref (u2.1 2), .int 0, .int 0, .int 0, .ref (u2.1 3), .ref (u2.1 4), .ref (u2.1 5)])), ((u2.1 2), .inl ((u2.2 0), 8192, .inl (fun _ => 0))), (q3, .inr (2, [.ref (u4.1 0), .int 0, .int 0, .int 0, .int 0, .int (-1), .int (-1)])), ((u2.1 1), .inr (6, [.ref (u2.1 6), .ref (u2.1 7), .ref (u2.1 8), .ref (u2.1 9), .ref (u2.1 10)])), ((u2.1 7), .inl ((u2.2 1), 3, .inl (fun _ => 0))), ((u2.1 9), .inr (5, [.ref (u2.1 11), .ref (u2.1 12), .ref (u2.1 13), .ref (u2.1 14), .ref (u2.1 15), .ref (u2.1 16), .ref (u2.1 17), .int 0])), ((u2.1 10), .inr (3, [.ref (u2.1 18), .ref (u2.1 19), .ref (u2.1 20), .ref (u2.1 21), .ref (u2.1 22), .ref (u2.1 23), .int 0])), (q5, .inl (cq5, 8, .inr (.inr (.inr (.inr f23)))))] := hD.sub [0, 1, 2, 3, 4, 5, 6, 7, 8, 9] (by decide) rfl
  have hK : va_K D cls [((u2.2 0), .byte), ((u2.2 1), .int), (cq5, .object "ObjectForge$Unit")] s := hK.sub [0, 1, 2] rfl
  refine lv_iinc (v := 6) (lv' := [(1, .int 6), (0, .ref h0)]) hx hb d_OF_init_61 hl (k := 0) rfl (by decide) (by decide) rfl (fun ls hl => ?_)
  refine lv_goto (tgt := 42) hx hb d_OF_init_64 (by decide) ?_
  refine lv_iload_n hx hb d_OF_init_42 rfl (lv_at hl 0 rfl) ?_
  refine lv_bipush (v := 8) hx hb d_OF_init_43 (by decide) ?_
  refine lv_icmp_ge (tgt := 67) hx hb d_OF_init_45 (by decide) (fun q9 => absurd q9 (by decide : ¬ ((8 : Int32) ≤ 6))) (fun _ => ?_)
  refine lv_aload_n hx hb d_OF_init_48 rfl (lv_at hl 1 rfl) ?_
  refine va_get (D := D) (ci := 0) (v := .ref q5) (C := R_OF) (T := F_OF) (N := 4) hx hb hts i_OF hown hK hP 0 rfl rfl 2 (by decide) (hts _ w_152) (fun _ h9 => h9) rfl d_OF_init_49 ?_
  refine lv_iload_n hx hb d_OF_init_52 rfl (lv_at hl 0 rfl) ?_
  refine va_new (ci := 6) (fs := [.null, .null, .null, .null, .null]) (C := R_Un) (T := F_Un) (N := 5) hx hb hts i_Un t_Un t_Un_ok hown (hts _ w_149) (hts _ w_45) (hts _ w_4) hK hP hD hS hA rfl (by decide) (Nat.le_of_ble_eq_true rfl) (Nat.le_of_ble_eq_true rfl) d_OF_init_53 (fun q24 H hP hD hS => ?_)
  have hP : va_P D cls [(h0, .inr (0, [.ref q1, .ref q3, .ref q5, .int 0])), (q1, .inr (1, [.ref (u2.1 0), .ref (u2.1 1), .int 0, .int 0, .int 0, .int 0, .int 0, .int (-1), .long 0, .int 0, .int 0, .int 0, .int 0, .int (-1), .int (-1)])), ((u2.1 0), .inr (4, [.ref (u2.1 2), .int 0, .int 0, .int 0, .ref (u2.1 3), .ref (u2.1 4), .ref (u2.1 5)])), ((u2.1 2), .inl ((u2.2 0), 8192, .inl (fun _ => 0))), (q3, .inr (2, [.ref (u4.1 0), .int 0, .int 0, .int 0, .int 0, .int (-1), .int (-1)])), ((u2.1 1), .inr (6, [.ref (u2.1 6), .ref (u2.1 7), .ref (u2.1 8), .ref (u2.1 9), .ref (u2.1 10)])), ((u2.1 7), .inl ((u2.2 1), 3, .inl (fun _ => 0))), ((u2.1 9), .inr (5, [.ref (u2.1 11), .ref (u2.1 12), .ref (u2.1 13), .ref (u2.1 14), .ref (u2.1 15), .ref (u2.1 16), .ref (u2.1 17), .int 0])), ((u2.1 10), .inr (3, [.ref (u2.1 18), .ref (u2.1 19), .ref (u2.1 20), .ref (u2.1 21), .ref (u2.1 22), .ref (u2.1 23), .int 0])), (q5, .inl (cq5, 8, .inr (.inr (.inr (.inr f23))))), (q24, .inr (6, [.null, .null, .null, .null, .null]))] H := hP
  have hD : va_D A [(h0, .inr (0, [.ref q1, .ref q3, .ref q5, .int 0])), (q1, .inr (1, [.ref (u2.1 0), .ref (u2.1 1), .int 0, .int 0, .int 0, .int 0, .int 0, .int (-1), .long 0, .int 0, .int 0, .int 0, .int 0, .int (-1), .int (-1)])), ((u2.1 0), .inr (4, [.ref (u2.1 2), .int 0, .int 0, .int 0, .ref (u2.1 3), .ref (u2.1 4), .ref (u2.1 5)])), ((u2.1 2), .inl ((u2.2 0), 8192, .inl (fun _ => 0))), (q3, .inr (2, [.ref (u4.1 0), .int 0, .int 0, .int 0, .int 0, .int (-1), .int (-1)])), ((u2.1 1), .inr (6, [.ref (u2.1 6), .ref (u2.1 7), .ref (u2.1 8), .ref (u2.1 9), .ref (u2.1 10)])), ((u2.1 7), .inl ((u2.2 1), 3, .inl (fun _ => 0))), ((u2.1 9), .inr (5, [.ref (u2.1 11), .ref (u2.1 12), .ref (u2.1 13), .ref (u2.1 14), .ref (u2.1 15), .ref (u2.1 16), .ref (u2.1 17), .int 0])), ((u2.1 10), .inr (3, [.ref (u2.1 18), .ref (u2.1 19), .ref (u2.1 20), .ref (u2.1 21), .ref (u2.1 22), .ref (u2.1 23), .int 0])), (q5, .inl (cq5, 8, .inr (.inr (.inr (.inr f23))))), (q24, .inr (6, [.null, .null, .null, .null, .null]))] := hD
  refine W.widen (k := 157) (n := 147310) (by omega) (by omega) ?_
  refine lv_dup hx hb d_OF_init_56 rfl ?_
  refine xc_IN (As := []) (rest := [.ref q24, .int 6, .ref q5]) (wc := [(q24, .inr (6, [.null, .null, .null, .null, .null]))]) (wr := [(h0, .inr (0, [.ref q1, .ref q3, .ref q5, .int 0])), (q1, .inr (1, [.ref (u2.1 0), .ref (u2.1 1), .int 0, .int 0, .int 0, .int 0, .int 0, .int (-1), .long 0, .int 0, .int 0, .int 0, .int 0, .int (-1), .int (-1)])), ((u2.1 0), .inr (4, [.ref (u2.1 2), .int 0, .int 0, .int 0, .ref (u2.1 3), .ref (u2.1 4), .ref (u2.1 5)])), ((u2.1 2), .inl ((u2.2 0), 8192, .inl (fun _ => 0))), (q3, .inr (2, [.ref (u4.1 0), .int 0, .int 0, .int 0, .int 0, .int (-1), .int (-1)])), ((u2.1 1), .inr (6, [.ref (u2.1 6), .ref (u2.1 7), .ref (u2.1 8), .ref (u2.1 9), .ref (u2.1 10)])), ((u2.1 7), .inl ((u2.2 1), 3, .inl (fun _ => 0))), ((u2.1 9), .inr (5, [.ref (u2.1 11), .ref (u2.1 12), .ref (u2.1 13), .ref (u2.1 14), .ref (u2.1 15), .ref (u2.1 16), .ref (u2.1 17), .int 0])), ((u2.1 10), .inr (3, [.ref (u2.1 18), .ref (u2.1 19), .ref (u2.1 20), .ref (u2.1 21), .ref (u2.1 22), .ref (u2.1 23), .int 0])), (q5, .inl (cq5, 8, .inr (.inr (.inr (.inr f23)))))]) (tc := []) (tr := [((u2.2 0), .byte), ((u2.2 1), .int), (cq5, .object "ObjectForge$Unit")]) ⟨hx, hb, hml, hown, hts⟩ (c_Un_init l D q24 H.size) rfl rfl rfl w_47 (by simp [xnM]) w_46 w_4 (by decide +kernel) ⟨Nat.le_of_ble_eq_true rfl, Nat.le_of_ble_eq_true rfl⟩ hP hD hK hS hA hN hZ [10] [0, 1, 2, 3, 4, 5, 6, 7, 8, 9] rfl rfl (by decide) (by decide) (by decide) [] [0, 1, 2] rfl rfl rfl hl.1 rfl (Nat.le_of_ble_eq_true rfl) d_OF_init_57 ⟨Nat.le_of_ble_eq_true rfl, Nat.le_of_ble_eq_true rfl⟩ (fun u25 H locs hP hD hK hS => ?_)
  have hP : va_P D cls [(h0, .inr (0, [.ref q1, .ref q3, .ref q5, .int 0])), (q1, .inr (1, [.ref (u2.1 0), .ref (u2.1 1), .int 0, .int 0, .int 0, .int 0, .int 0, .int (-1), .long 0, .int 0, .int 0, .int 0, .int 0, .int (-1), .int (-1)])), ((u2.1 0), .inr (4, [.ref (u2.1 2), .int 0, .int 0, .int 0, .ref (u2.1 3), .ref (u2.1 4), .ref (u2.1 5)])), ((u2.1 2), .inl ((u2.2 0), 8192, .inl (fun _ => 0))), (q3, .inr (2, [.ref (u4.1 0), .int 0, .int 0, .int 0, .int 0, .int (-1), .int (-1)])), ((u2.1 1), .inr (6, [.ref (u2.1 6), .ref (u2.1 7), .ref (u2.1 8), .ref (u2.1 9), .ref (u2.1 10)])), ((u2.1 7), .inl ((u2.2 1), 3, .inl (fun _ => 0))), ((u2.1 9), .inr (5, [.ref (u2.1 11), .ref (u2.1 12), .ref (u2.1 13), .ref (u2.1 14), .ref (u2.1 15), .ref (u2.1 16), .ref (u2.1 17), .int 0])), ((u2.1 10), .inr (3, [.ref (u2.1 18), .ref (u2.1 19), .ref (u2.1 20), .ref (u2.1 21), .ref (u2.1 22), .ref (u2.1 23), .int 0])), (q5, .inl (cq5, 8, .inr (.inr (.inr (.inr f23))))), (q24, .inr (6, [.ref (u25.1 0), .ref (u25.1 1), .ref (u25.1 2), .ref (u25.1 3), .ref (u25.1 4)])), ((u25.1 1), .inl ((u25.2 0), 3, .inl (fun _ => 0))), ((u25.1 3), .inr (5, [.ref (u25.1 5), .ref (u25.1 6), .ref (u25.1 7), .ref (u25.1 8), .ref (u25.1 9), .ref (u25.1 10), .ref (u25.1 11), .int 0])), ((u25.1 4), .inr (3, [.ref (u25.1 12), .ref (u25.1 13), .ref (u25.1 14), .ref (u25.1 15), .ref (u25.1 16), .ref (u25.1 17), .int 0]))] H := hP
  have hD : va_D A [(h0, .inr (0, [.ref q1, .ref q3, .ref q5, .int 0])), (q1, .inr (1, [.ref (u2.1 0), .ref (u2.1 1), .int 0, .int 0, .int 0, .int 0, .int 0, .int (-1), .long 0, .int 0, .int 0, .int 0, .int 0, .int (-1), .int (-1)])), ((u2.1 0), .inr (4, [.ref (u2.1 2), .int 0, .int 0, .int 0, .ref (u2.1 3), .ref (u2.1 4), .ref (u2.1 5)])), ((u2.1 2), .inl ((u2.2 0), 8192, .inl (fun _ => 0))), (q3, .inr (2, [.ref (u4.1 0), .int 0, .int 0, .int 0, .int 0, .int (-1), .int (-1)])), ((u2.1 1), .inr (6, [.ref (u2.1 6), .ref (u2.1 7), .ref (u2.1 8), .ref (u2.1 9), .ref (u2.1 10)])), ((u2.1 7), .inl ((u2.2 1), 3, .inl (fun _ => 0))), ((u2.1 9), .inr (5, [.ref (u2.1 11), .ref (u2.1 12), .ref (u2.1 13), .ref (u2.1 14), .ref (u2.1 15), .ref (u2.1 16), .ref (u2.1 17), .int 0])), ((u2.1 10), .inr (3, [.ref (u2.1 18), .ref (u2.1 19), .ref (u2.1 20), .ref (u2.1 21), .ref (u2.1 22), .ref (u2.1 23), .int 0])), (q5, .inl (cq5, 8, .inr (.inr (.inr (.inr f23))))), (q24, .inr (6, [.ref (u25.1 0), .ref (u25.1 1), .ref (u25.1 2), .ref (u25.1 3), .ref (u25.1 4)])), ((u25.1 1), .inl ((u25.2 0), 3, .inl (fun _ => 0))), ((u25.1 3), .inr (5, [.ref (u25.1 5), .ref (u25.1 6), .ref (u25.1 7), .ref (u25.1 8), .ref (u25.1 9), .ref (u25.1 10), .ref (u25.1 11), .int 0])), ((u25.1 4), .inr (3, [.ref (u25.1 12), .ref (u25.1 13), .ref (u25.1 14), .ref (u25.1 15), .ref (u25.1 16), .ref (u25.1 17), .int 0]))] := hD
  have hK : va_K D cls [((u2.2 0), .byte), ((u2.2 1), .int), (cq5, .object "ObjectForge$Unit"), ((u25.2 0), .int)] s := hK
  refine W.widen (k := 177) (n := 158981) (by omega) (by omega) ?_
  refine W.eq (g2 := F0 m 60 ls [.ref q24, .int 6, .ref q5]) rfl ?_
  refine va_astq hx hb hK hP hD hS 9 2 10 6 rfl rfl rfl rfl (by unfold vp_in; decide) d_OF_init_60 (fun H locs hP hD hS => ?_)
  have hP : va_P D cls [(h0, .inr (0, [.ref q1, .ref q3, .ref q5, .int 0])), (q1, .inr (1, [.ref (u2.1 0), .ref (u2.1 1), .int 0, .int 0, .int 0, .int 0, .int 0, .int (-1), .long 0, .int 0, .int 0, .int 0, .int 0, .int (-1), .int (-1)])), ((u2.1 0), .inr (4, [.ref (u2.1 2), .int 0, .int 0, .int 0, .ref (u2.1 3), .ref (u2.1 4), .ref (u2.1 5)])), ((u2.1 2), .inl ((u2.2 0), 8192, .inl (fun _ => 0))), (q3, .inr (2, [.ref (u4.1 0), .int 0, .int 0, .int 0, .int 0, .int (-1), .int (-1)])), ((u2.1 1), .inr (6, [.ref (u2.1 6), .ref (u2.1 7), .ref (u2.1 8), .ref (u2.1 9), .ref (u2.1 10)])), ((u2.1 7), .inl ((u2.2 1), 3, .inl (fun _ => 0))), ((u2.1 9), .inr (5, [.ref (u2.1 11), .ref (u2.1 12), .ref (u2.1 13), .ref (u2.1 14), .ref (u2.1 15), .ref (u2.1 16), .ref (u2.1 17), .int 0])), ((u2.1 10), .inr (3, [.ref (u2.1 18), .ref (u2.1 19), .ref (u2.1 20), .ref (u2.1 21), .ref (u2.1 22), .ref (u2.1 23), .int 0])), (q5, .inl (cq5, 8, .inr (.inr (.inr (.inr (va_up f23 (6 : Int32).toNatClampNeg (some q24))))))), (q24, .inr (6, [.ref (u25.1 0), .ref (u25.1 1), .ref (u25.1 2), .ref (u25.1 3), .ref (u25.1 4)])), ((u25.1 1), .inl ((u25.2 0), 3, .inl (fun _ => 0))), ((u25.1 3), .inr (5, [.ref (u25.1 5), .ref (u25.1 6), .ref (u25.1 7), .ref (u25.1 8), .ref (u25.1 9), .ref (u25.1 10), .ref (u25.1 11), .int 0])), ((u25.1 4), .inr (3, [.ref (u25.1 12), .ref (u25.1 13), .ref (u25.1 14), .ref (u25.1 15), .ref (u25.1 16), .ref (u25.1 17), .int 0]))] H := hP
  have hD : va_D A [(h0, .inr (0, [.ref q1, .ref q3, .ref q5, .int 0])), (q1, .inr (1, [.ref (u2.1 0), .ref (u2.1 1), .int 0, .int 0, .int 0, .int 0, .int 0, .int (-1), .long 0, .int 0, .int 0, .int 0, .int 0, .int (-1), .int (-1)])), ((u2.1 0), .inr (4, [.ref (u2.1 2), .int 0, .int 0, .int 0, .ref (u2.1 3), .ref (u2.1 4), .ref (u2.1 5)])), ((u2.1 2), .inl ((u2.2 0), 8192, .inl (fun _ => 0))), (q3, .inr (2, [.ref (u4.1 0), .int 0, .int 0, .int 0, .int 0, .int (-1), .int (-1)])), ((u2.1 1), .inr (6, [.ref (u2.1 6), .ref (u2.1 7), .ref (u2.1 8), .ref (u2.1 9), .ref (u2.1 10)])), ((u2.1 7), .inl ((u2.2 1), 3, .inl (fun _ => 0))), ((u2.1 9), .inr (5, [.ref (u2.1 11), .ref (u2.1 12), .ref (u2.1 13), .ref (u2.1 14), .ref (u2.1 15), .ref (u2.1 16), .ref (u2.1 17), .int 0])), ((u2.1 10), .inr (3, [.ref (u2.1 18), .ref (u2.1 19), .ref (u2.1 20), .ref (u2.1 21), .ref (u2.1 22), .ref (u2.1 23), .int 0])), (q5, .inl (cq5, 8, .inr (.inr (.inr (.inr (va_up f23 (6 : Int32).toNatClampNeg (some q24))))))), (q24, .inr (6, [.ref (u25.1 0), .ref (u25.1 1), .ref (u25.1 2), .ref (u25.1 3), .ref (u25.1 4)])), ((u25.1 1), .inl ((u25.2 0), 3, .inl (fun _ => 0))), ((u25.1 3), .inr (5, [.ref (u25.1 5), .ref (u25.1 6), .ref (u25.1 7), .ref (u25.1 8), .ref (u25.1 9), .ref (u25.1 10), .ref (u25.1 11), .int 0])), ((u25.1 4), .inr (3, [.ref (u25.1 12), .ref (u25.1 13), .ref (u25.1 14), .ref (u25.1 15), .ref (u25.1 16), .ref (u25.1 17), .int 0]))] := hD
  generalize (va_up f23 (6 : Int32).toNatClampNeg (some q24)) = f26 at hP hD
  have hP : va_P D cls [(h0, .inr (0, [.ref q1, .ref q3, .ref q5, .int 0])), (q1, .inr (1, [.ref (u2.1 0), .ref (u2.1 1), .int 0, .int 0, .int 0, .int 0, .int 0, .int (-1), .long 0, .int 0, .int 0, .int 0, .int 0, .int (-1), .int (-1)])), ((u2.1 0), .inr (4, [.ref (u2.1 2), .int 0, .int 0, .int 0, .ref (u2.1 3), .ref (u2.1 4), .ref (u2.1 5)])), ((u2.1 2), .inl ((u2.2 0), 8192, .inl (fun _ => 0))), (q3, .inr (2, [.ref (u4.1 0), .int 0, .int 0, .int 0, .int 0, .int (-1), .int (-1)])), ((u2.1 1), .inr (6, [.ref (u2.1 6), .ref (u2.1 7), .ref (u2.1 8), .ref (u2.1 9), .ref (u2.1 10)])), ((u2.1 7), .inl ((u2.2 1), 3, .inl (fun _ => 0))), ((u2.1 9), .inr (5, [.ref (u2.1 11), .ref (u2.1 12), .ref (u2.1 13), .ref (u2.1 14), .ref (u2.1 15), .ref (u2.1 16), .ref (u2.1 17), .int 0])), ((u2.1 10), .inr (3, [.ref (u2.1 18), .ref (u2.1 19), .ref (u2.1 20), .ref (u2.1 21), .ref (u2.1 22), .ref (u2.1 23), .int 0])), (q5, .inl (cq5, 8, .inr (.inr (.inr (.inr f26)))))] H := hP.sub [0, 1, 2, 3, 4, 5, 6, 7, 8, 9] rfl
  have hD : va_D A [(h0, .inr (0, [.ref q1, .ref q3, .ref q5, .int 0])), (q1, .inr (1, [.ref (u2.1 0), .ref (u2.1 1), .int 0, .int 0, .int 0, .int 0, .int 0, .int (-1), .long 0, .int 0, .int 0, .int 0, .int 0, .int (-1), .int (-1)])), ((u2.1 0), .inr (4, [.ref (u2.1 2), .int 0, .int 0, .int 0, .ref (u2.1 3), .ref (u2.1 4), .ref (u2.1 5)])), ((u2.1 2), .inl ((u2.2 0), 8192, .inl (fun _ => 0))), (q3, .inr (2, [.ref (u4.1 0), .int 0, .int 0, .int 0, .int 0, .int (-1), .int (-1)])), ((u2.1 1), .inr (6, [.ref (u2.1 6), .ref (u2.1 7), .ref (u2.1 8), .ref (u2.1 9), .ref (u2.1 10)])), ((u2.1 7), .inl ((u2.2 1), 3, .inl (fun _ => 0))), ((u2.1 9), .inr (5, [.ref (u2.1 11), .ref (u2.1 12), .ref (u2.1 13), .ref (u2.1 14), .ref (u2.1 15), .ref (u2.1 16), .ref (u2.1 17), .int 0])), ((u2.1 10), .inr (3, [.ref (u2.1 18), .ref (u2.1 19), .ref (u2.1 20), .ref (u2.1 21), .ref (u2.1 22), .ref (u2.1 23), .int 0])), (q5, .inl (cq5, 8, .inr (.inr (.inr (.inr f26)))))] := hD.sub [0, 1, 2, 3, 4, 5, 6, 7, 8, 9] (by decide) rfl
  have hK : va_K D cls [((u2.2 0), .byte), ((u2.2 1), .int), (cq5, .object "ObjectForge$Unit")] s := hK.sub [0, 1, 2] rfl
  refine lv_iinc (v := 7) (lv' := [(1, .int 7), (0, .ref h0)]) hx hb d_OF_init_61 hl (k := 0) rfl (by decide) (by decide) rfl (fun ls hl => ?_)
  refine lv_goto (tgt := 42) hx hb d_OF_init_64 (by decide) ?_
  refine lv_iload_n hx hb d_OF_init_42 rfl (lv_at hl 0 rfl) ?_
  refine lv_bipush (v := 8) hx hb d_OF_init_43 (by decide) ?_
  refine lv_icmp_ge (tgt := 67) hx hb d_OF_init_45 (by decide) (fun q9 => absurd q9 (by decide : ¬ ((8 : Int32) ≤ 7))) (fun _ => ?_)
  refine lv_aload_n hx hb d_OF_init_48 rfl (lv_at hl 1 rfl) ?_
  refine va_get (D := D) (ci := 0) (v := .ref q5) (C := R_OF) (T := F_OF) (N := 4) hx hb hts i_OF hown hK hP 0 rfl rfl 2 (by decide) (hts _ w_152) (fun _ h9 => h9) rfl d_OF_init_49 ?_
  refine lv_iload_n hx hb d_OF_init_52 rfl (lv_at hl 0 rfl) ?_
  refine va_new (ci := 6) (fs := [.null, .null, .null, .null, .null]) (C := R_Un) (T := F_Un) (N := 5) hx hb hts i_Un t_Un t_Un_ok hown (hts _ w_149) (hts _ w_45) (hts _ w_4) hK hP hD hS hA rfl (by decide) (Nat.le_of_ble_eq_true rfl) (Nat.le_of_ble_eq_true rfl) d_OF_init_53 (fun q27 H hP hD hS => ?_)
  have hP : va_P D cls [(h0, .inr (0, [.ref q1, .ref q3, .ref q5, .int 0])), (q1, .inr (1, [.ref (u2.1 0), .ref (u2.1 1), .int 0, .int 0, .int 0, .int 0, .int 0, .int (-1), .long 0, .int 0, .int 0, .int 0, .int 0, .int (-1), .int (-1)])), ((u2.1 0), .inr (4, [.ref (u2.1 2), .int 0, .int 0, .int 0, .ref (u2.1 3), .ref (u2.1 4), .ref (u2.1 5)])), ((u2.1 2), .inl ((u2.2 0), 8192, .inl (fun _ => 0))), (q3, .inr (2, [.ref (u4.1 0), .int 0, .int 0, .int 0, .int 0, .int (-1), .int (-1)])), ((u2.1 1), .inr (6, [.ref (u2.1 6), .ref (u2.1 7), .ref (u2.1 8), .ref (u2.1 9), .ref (u2.1 10)])), ((u2.1 7), .inl ((u2.2 1), 3, .inl (fun _ => 0))), ((u2.1 9), .inr (5, [.ref (u2.1 11), .ref (u2.1 12), .ref (u2.1 13), .ref (u2.1 14), .ref (u2.1 15), .ref (u2.1 16), .ref (u2.1 17), .int 0])), ((u2.1 10), .inr (3, [.ref (u2.1 18), .ref (u2.1 19), .ref (u2.1 20), .ref (u2.1 21), .ref (u2.1 22), .ref (u2.1 23), .int 0])), (q5, .inl (cq5, 8, .inr (.inr (.inr (.inr f26))))), (q27, .inr (6, [.null, .null, .null, .null, .null]))] H := hP
  have hD : va_D A [(h0, .inr (0, [.ref q1, .ref q3, .ref q5, .int 0])), (q1, .inr (1, [.ref (u2.1 0), .ref (u2.1 1), .int 0, .int 0, .int 0, .int 0, .int 0, .int (-1), .long 0, .int 0, .int 0, .int 0, .int 0, .int (-1), .int (-1)])), ((u2.1 0), .inr (4, [.ref (u2.1 2), .int 0, .int 0, .int 0, .ref (u2.1 3), .ref (u2.1 4), .ref (u2.1 5)])), ((u2.1 2), .inl ((u2.2 0), 8192, .inl (fun _ => 0))), (q3, .inr (2, [.ref (u4.1 0), .int 0, .int 0, .int 0, .int 0, .int (-1), .int (-1)])), ((u2.1 1), .inr (6, [.ref (u2.1 6), .ref (u2.1 7), .ref (u2.1 8), .ref (u2.1 9), .ref (u2.1 10)])), ((u2.1 7), .inl ((u2.2 1), 3, .inl (fun _ => 0))), ((u2.1 9), .inr (5, [.ref (u2.1 11), .ref (u2.1 12), .ref (u2.1 13), .ref (u2.1 14), .ref (u2.1 15), .ref (u2.1 16), .ref (u2.1 17), .int 0])), ((u2.1 10), .inr (3, [.ref (u2.1 18), .ref (u2.1 19), .ref (u2.1 20), .ref (u2.1 21), .ref (u2.1 22), .ref (u2.1 23), .int 0])), (q5, .inl (cq5, 8, .inr (.inr (.inr (.inr f26))))), (q27, .inr (6, [.null, .null, .null, .null, .null]))] := hD
  refine W.widen (k := 178) (n := 158986) (by omega) (by omega) ?_
  refine lv_dup hx hb d_OF_init_56 rfl ?_
  refine xc_IN (As := []) (rest := [.ref q27, .int 7, .ref q5]) (wc := [(q27, .inr (6, [.null, .null, .null, .null, .null]))]) (wr := [(h0, .inr (0, [.ref q1, .ref q3, .ref q5, .int 0])), (q1, .inr (1, [.ref (u2.1 0), .ref (u2.1 1), .int 0, .int 0, .int 0, .int 0, .int 0, .int (-1), .long 0, .int 0, .int 0, .int 0, .int 0, .int (-1), .int (-1)])), ((u2.1 0), .inr (4, [.ref (u2.1 2), .int 0, .int 0, .int 0, .ref (u2.1 3), .ref (u2.1 4), .ref (u2.1 5)])), ((u2.1 2), .inl ((u2.2 0), 8192, .inl (fun _ => 0))), (q3, .inr (2, [.ref (u4.1 0), .int 0, .int 0, .int 0, .int 0, .int (-1), .int (-1)])), ((u2.1 1), .inr (6, [.ref (u2.1 6), .ref (u2.1 7), .ref (u2.1 8), .ref (u2.1 9), .ref (u2.1 10)])), ((u2.1 7), .inl ((u2.2 1), 3, .inl (fun _ => 0))), ((u2.1 9), .inr (5, [.ref (u2.1 11), .ref (u2.1 12), .ref (u2.1 13), .ref (u2.1 14), .ref (u2.1 15), .ref (u2.1 16), .ref (u2.1 17), .int 0])), ((u2.1 10), .inr (3, [.ref (u2.1 18), .ref (u2.1 19), .ref (u2.1 20), .ref (u2.1 21), .ref (u2.1 22), .ref (u2.1 23), .int 0])), (q5, .inl (cq5, 8, .inr (.inr (.inr (.inr f26)))))]) (tc := []) (tr := [((u2.2 0), .byte), ((u2.2 1), .int), (cq5, .object "ObjectForge$Unit")]) ⟨hx, hb, hml, hown, hts⟩ (c_Un_init l D q27 H.size) rfl rfl rfl w_47 (by simp [xnM]) w_46 w_4 (by decide +kernel) ⟨Nat.le_of_ble_eq_true rfl, Nat.le_of_ble_eq_true rfl⟩ hP hD hK hS hA hN hZ [10] [0, 1, 2, 3, 4, 5, 6, 7, 8, 9] rfl rfl (by decide) (by decide) (by decide) [] [0, 1, 2] rfl rfl rfl hl.1 rfl (Nat.le_of_ble_eq_true rfl) d_OF_init_57 ⟨Nat.le_of_ble_eq_true rfl, Nat.le_of_ble_eq_true rfl⟩ (fun u28 H locs hP hD hK hS => ?_)
  have hP : va_P D cls [(h0, .inr (0, [.ref q1, .ref q3, .ref q5, .int 0])), (q1, .inr (1, [.ref (u2.1 0), .ref (u2.1 1), .int 0, .int 0, .int 0, .int 0, .int 0, .int (-1), .long 0, .int 0, .int 0, .int 0, .int 0, .int (-1), .int (-1)])), ((u2.1 0), .inr (4, [.ref (u2.1 2), .int 0, .int 0, .int 0, .ref (u2.1 3), .ref (u2.1 4), .ref (u2.1 5)])), ((u2.1 2), .inl ((u2.2 0), 8192, .inl (fun _ => 0))), (q3, .inr (2, [.ref (u4.1 0), .int 0, .int 0, .int 0, .int 0, .int (-1), .int (-1)])), ((u2.1 1), .inr (6, [.ref (u2.1 6), .ref (u2.1 7), .ref (u2.1 8), .ref (u2.1 9), .ref (u2.1 10)])), ((u2.1 7), .inl ((u2.2 1), 3, .inl (fun _ => 0))), ((u2.1 9), .inr (5, [.ref (u2.1 11), .ref (u2.1 12), .ref (u2.1 13), .ref (u2.1 14), .ref (u2.1 15), .ref (u2.1 16), .ref (u2.1 17), .int 0])), ((u2.1 10), .inr (3, [.ref (u2.1 18), .ref (u2.1 19), .ref (u2.1 20), .ref (u2.1 21), .ref (u2.1 22), .ref (u2.1 23), .int 0])), (q5, .inl (cq5, 8, .inr (.inr (.inr (.inr f26))))), (q27, .inr (6, [.ref (u28.1 0), .ref (u28.1 1), .ref (u28.1 2), .ref (u28.1 3), .ref (u28.1 4)])), ((u28.1 1), .inl ((u28.2 0), 3, .inl (fun _ => 0))), ((u28.1 3), .inr (5, [.ref (u28.1 5), .ref (u28.1 6), .ref (u28.1 7), .ref (u28.1 8), .ref (u28.1 9), .ref (u28.1 10), .ref (u28.1 11), .int 0])), ((u28.1 4), .inr (3, [.ref (u28.1 12), .ref (u28.1 13), .ref (u28.1 14), .ref (u28.1 15), .ref (u28.1 16), .ref (u28.1 17), .int 0]))] H := hP
  have hD : va_D A [(h0, .inr (0, [.ref q1, .ref q3, .ref q5, .int 0])), (q1, .inr (1, [.ref (u2.1 0), .ref (u2.1 1), .int 0, .int 0, .int 0, .int 0, .int 0, .int (-1), .long 0, .int 0, .int 0, .int 0, .int 0, .int (-1), .int (-1)])), ((u2.1 0), .inr (4, [.ref (u2.1 2), .int 0, .int 0, .int 0, .ref (u2.1 3), .ref (u2.1 4), .ref (u2.1 5)])), ((u2.1 2), .inl ((u2.2 0), 8192, .inl (fun _ => 0))), (q3, .inr (2, [.ref (u4.1 0), .int 0, .int 0, .int 0, .int 0, .int (-1), .int (-1)])), ((u2.1 1), .inr (6, [.ref (u2.1 6), .ref (u2.1 7), .ref (u2.1 8), .ref (u2.1 9), .ref (u2.1 10)])), ((u2.1 7), .inl ((u2.2 1), 3, .inl (fun _ => 0))), ((u2.1 9), .inr (5, [.ref (u2.1 11), .ref (u2.1 12), .ref (u2.1 13), .ref (u2.1 14), .ref (u2.1 15), .ref (u2.1 16), .ref (u2.1 17), .int 0])), ((u2.1 10), .inr (3, [.ref (u2.1 18), .ref (u2.1 19), .ref (u2.1 20), .ref (u2.1 21), .ref (u2.1 22), .ref (u2.1 23), .int 0])), (q5, .inl (cq5, 8, .inr (.inr (.inr (.inr f26))))), (q27, .inr (6, [.ref (u28.1 0), .ref (u28.1 1), .ref (u28.1 2), .ref (u28.1 3), .ref (u28.1 4)])), ((u28.1 1), .inl ((u28.2 0), 3, .inl (fun _ => 0))), ((u28.1 3), .inr (5, [.ref (u28.1 5), .ref (u28.1 6), .ref (u28.1 7), .ref (u28.1 8), .ref (u28.1 9), .ref (u28.1 10), .ref (u28.1 11), .int 0])), ((u28.1 4), .inr (3, [.ref (u28.1 12), .ref (u28.1 13), .ref (u28.1 14), .ref (u28.1 15), .ref (u28.1 16), .ref (u28.1 17), .int 0]))] := hD
  have hK : va_K D cls [((u2.2 0), .byte), ((u2.2 1), .int), (cq5, .object "ObjectForge$Unit"), ((u28.2 0), .int)] s := hK
  refine W.widen (k := 198) (n := 170657) (by omega) (by omega) ?_
  refine W.eq (g2 := F0 m 60 ls [.ref q27, .int 7, .ref q5]) rfl ?_
  refine va_astq hx hb hK hP hD hS 9 2 10 6 rfl rfl rfl rfl (by unfold vp_in; decide) d_OF_init_60 (fun H locs hP hD hS => ?_)
  have hP : va_P D cls [(h0, .inr (0, [.ref q1, .ref q3, .ref q5, .int 0])), (q1, .inr (1, [.ref (u2.1 0), .ref (u2.1 1), .int 0, .int 0, .int 0, .int 0, .int 0, .int (-1), .long 0, .int 0, .int 0, .int 0, .int 0, .int (-1), .int (-1)])), ((u2.1 0), .inr (4, [.ref (u2.1 2), .int 0, .int 0, .int 0, .ref (u2.1 3), .ref (u2.1 4), .ref (u2.1 5)])), ((u2.1 2), .inl ((u2.2 0), 8192, .inl (fun _ => 0))), (q3, .inr (2, [.ref (u4.1 0), .int 0, .int 0, .int 0, .int 0, .int (-1), .int (-1)])), ((u2.1 1), .inr (6, [.ref (u2.1 6), .ref (u2.1 7), .ref (u2.1 8), .ref (u2.1 9), .ref (u2.1 10)])), ((u2.1 7), .inl ((u2.2 1), 3, .inl (fun _ => 0))), ((u2.1 9), .inr (5, [.ref (u2.1 11), .ref (u2.1 12), .ref (u2.1 13), .ref (u2.1 14), .ref (u2.1 15), .ref (u2.1 16), .ref (u2.1 17), .int 0])), ((u2.1 10), .inr (3, [.ref (u2.1 18), .ref (u2.1 19), .ref (u2.1 20), .ref (u2.1 21), .ref (u2.1 22), .ref (u2.1 23), .int 0])), (q5, .inl (cq5, 8, .inr (.inr (.inr (.inr (va_up f26 (7 : Int32).toNatClampNeg (some q27))))))), (q27, .inr (6, [.ref (u28.1 0), .ref (u28.1 1), .ref (u28.1 2), .ref (u28.1 3), .ref (u28.1 4)])), ((u28.1 1), .inl ((u28.2 0), 3, .inl (fun _ => 0))), ((u28.1 3), .inr (5, [.ref (u28.1 5), .ref (u28.1 6), .ref (u28.1 7), .ref (u28.1 8), .ref (u28.1 9), .ref (u28.1 10), .ref (u28.1 11), .int 0])), ((u28.1 4), .inr (3, [.ref (u28.1 12), .ref (u28.1 13), .ref (u28.1 14), .ref (u28.1 15), .ref (u28.1 16), .ref (u28.1 17), .int 0]))] H := hP
  have hD : va_D A [(h0, .inr (0, [.ref q1, .ref q3, .ref q5, .int 0])), (q1, .inr (1, [.ref (u2.1 0), .ref (u2.1 1), .int 0, .int 0, .int 0, .int 0, .int 0, .int (-1), .long 0, .int 0, .int 0, .int 0, .int 0, .int (-1), .int (-1)])), ((u2.1 0), .inr (4, [.ref (u2.1 2), .int 0, .int 0, .int 0, .ref (u2.1 3), .ref (u2.1 4), .ref (u2.1 5)])), ((u2.1 2), .inl ((u2.2 0), 8192, .inl (fun _ => 0))), (q3, .inr (2, [.ref (u4.1 0), .int 0, .int 0, .int 0, .int 0, .int (-1), .int (-1)])), ((u2.1 1), .inr (6, [.ref (u2.1 6), .ref (u2.1 7), .ref (u2.1 8), .ref (u2.1 9), .ref (u2.1 10)])), ((u2.1 7), .inl ((u2.2 1), 3, .inl (fun _ => 0))), ((u2.1 9), .inr (5, [.ref (u2.1 11), .ref (u2.1 12), .ref (u2.1 13), .ref (u2.1 14), .ref (u2.1 15), .ref (u2.1 16), .ref (u2.1 17), .int 0])), ((u2.1 10), .inr (3, [.ref (u2.1 18), .ref (u2.1 19), .ref (u2.1 20), .ref (u2.1 21), .ref (u2.1 22), .ref (u2.1 23), .int 0])), (q5, .inl (cq5, 8, .inr (.inr (.inr (.inr (va_up f26 (7 : Int32).toNatClampNeg (some q27))))))), (q27, .inr (6, [.ref (u28.1 0), .ref (u28.1 1), .ref (u28.1 2), .ref (u28.1 3), .ref (u28.1 4)])), ((u28.1 1), .inl ((u28.2 0), 3, .inl (fun _ => 0))), ((u28.1 3), .inr (5, [.ref (u28.1 5), .ref (u28.1 6), .ref (u28.1 7), .ref (u28.1 8), .ref (u28.1 9), .ref (u28.1 10), .ref (u28.1 11), .int 0])), ((u28.1 4), .inr (3, [.ref (u28.1 12), .ref (u28.1 13), .ref (u28.1 14), .ref (u28.1 15), .ref (u28.1 16), .ref (u28.1 17), .int 0]))] := hD
  generalize (va_up f26 (7 : Int32).toNatClampNeg (some q27)) = f29 at hP hD
  have hP : va_P D cls [(h0, .inr (0, [.ref q1, .ref q3, .ref q5, .int 0])), (q1, .inr (1, [.ref (u2.1 0), .ref (u2.1 1), .int 0, .int 0, .int 0, .int 0, .int 0, .int (-1), .long 0, .int 0, .int 0, .int 0, .int 0, .int (-1), .int (-1)])), ((u2.1 0), .inr (4, [.ref (u2.1 2), .int 0, .int 0, .int 0, .ref (u2.1 3), .ref (u2.1 4), .ref (u2.1 5)])), ((u2.1 2), .inl ((u2.2 0), 8192, .inl (fun _ => 0))), (q3, .inr (2, [.ref (u4.1 0), .int 0, .int 0, .int 0, .int 0, .int (-1), .int (-1)])), ((u2.1 1), .inr (6, [.ref (u2.1 6), .ref (u2.1 7), .ref (u2.1 8), .ref (u2.1 9), .ref (u2.1 10)])), ((u2.1 7), .inl ((u2.2 1), 3, .inl (fun _ => 0))), ((u2.1 9), .inr (5, [.ref (u2.1 11), .ref (u2.1 12), .ref (u2.1 13), .ref (u2.1 14), .ref (u2.1 15), .ref (u2.1 16), .ref (u2.1 17), .int 0])), ((u2.1 10), .inr (3, [.ref (u2.1 18), .ref (u2.1 19), .ref (u2.1 20), .ref (u2.1 21), .ref (u2.1 22), .ref (u2.1 23), .int 0])), (q5, .inl (cq5, 8, .inr (.inr (.inr (.inr f29)))))] H := hP.sub [0, 1, 2, 3, 4, 5, 6, 7, 8, 9] rfl
  have hD : va_D A [(h0, .inr (0, [.ref q1, .ref q3, .ref q5, .int 0])), (q1, .inr (1, [.ref (u2.1 0), .ref (u2.1 1), .int 0, .int 0, .int 0, .int 0, .int 0, .int (-1), .long 0, .int 0, .int 0, .int 0, .int 0, .int (-1), .int (-1)])), ((u2.1 0), .inr (4, [.ref (u2.1 2), .int 0, .int 0, .int 0, .ref (u2.1 3), .ref (u2.1 4), .ref (u2.1 5)])), ((u2.1 2), .inl ((u2.2 0), 8192, .inl (fun _ => 0))), (q3, .inr (2, [.ref (u4.1 0), .int 0, .int 0, .int 0, .int 0, .int (-1), .int (-1)])), ((u2.1 1), .inr (6, [.ref (u2.1 6), .ref (u2.1 7), .ref (u2.1 8), .ref (u2.1 9), .ref (u2.1 10)])), ((u2.1 7), .inl ((u2.2 1), 3, .inl (fun _ => 0))), ((u2.1 9), .inr (5, [.ref (u2.1 11), .ref (u2.1 12), .ref (u2.1 13), .ref (u2.1 14), .ref (u2.1 15), .ref (u2.1 16), .ref (u2.1 17), .int 0])), ((u2.1 10), .inr (3, [.ref (u2.1 18), .ref (u2.1 19), .ref (u2.1 20), .ref (u2.1 21), .ref (u2.1 22), .ref (u2.1 23), .int 0])), (q5, .inl (cq5, 8, .inr (.inr (.inr (.inr f29)))))] := hD.sub [0, 1, 2, 3, 4, 5, 6, 7, 8, 9] (by decide) rfl
  have hK : va_K D cls [((u2.2 0), .byte), ((u2.2 1), .int), (cq5, .object "ObjectForge$Unit")] s := hK.sub [0, 1, 2] rfl
  refine lv_iinc (v := 8) (lv' := [(1, .int 8), (0, .ref h0)]) hx hb d_OF_init_61 hl (k := 0) rfl (by decide) (by decide) rfl (fun ls hl => ?_)
  refine lv_goto (tgt := 42) hx hb d_OF_init_64 (by decide) ?_
  refine lv_iload_n hx hb d_OF_init_42 rfl (lv_at hl 0 rfl) ?_
  refine lv_bipush (v := 8) hx hb d_OF_init_43 (by decide) ?_
  refine lv_icmp_ge (tgt := 67) hx hb d_OF_init_45 (by decide) (fun _ => ?_) (fun q9 => absurd (by decide : ((8 : Int32) ≤ 8)) q9)
  exact xr_v hx hb hr hlocks hP hD hK hS (((fun k => [q1, q3, q5, (u2.1 0), (u2.1 1), (u2.1 2), (u2.1 3), (u2.1 4), (u2.1 5), (u2.1 6), (u2.1 7), (u2.1 8), (u2.1 9), (u2.1 10), (u2.1 11), (u2.1 12), (u2.1 13), (u2.1 14), (u2.1 15), (u2.1 16), (u2.1 17), (u2.1 18), (u2.1 19), (u2.1 20), (u2.1 21), (u2.1 22), (u2.1 23), (u4.1 0)].getD k 0), (fun k => [(u2.2 0), (u2.2 1), cq5].getD k 0), f29)) [0, 1, 2, 3, 4, 5, 6, 7, 8, 9] rfl rfl (by decide) [0, 1, 2] rfl rfl d_OF_init_67
end
section
theorem d_Mo_init_0 : decode b_Mo_init 0 = .ok (.aload_n 0, 1) := by decide +kernel
theorem d_Mo_init_1 : decode b_Mo_init 1 = .ok (.invokespecial 1, 3) := by decide +kernel
theorem d_Mo_init_4 : decode b_Mo_init 4 = .ok (.aload_n 0, 1) := by decide +kernel
theorem d_Mo_init_5 : decode b_Mo_init 5 = .ok (.sipush 8192, 3) := by decide +kernel
theorem d_Mo_init_8 : decode b_Mo_init 8 = .ok (.newarray .byte, 2) := by decide +kernel
theorem d_Mo_init_10 : decode b_Mo_init 10 = .ok (.putfield 7, 3) := by decide +kernel
theorem d_Mo_init_13 : decode b_Mo_init 13 = .ok (.aload_n 0, 1) := by decide +kernel
theorem d_Mo_init_14 : decode b_Mo_init 14 = .ok (.ldc 13, 2) := by decide +kernel
theorem d_Mo_init_16 : decode b_Mo_init 16 = .ok (.newarray .byte, 2) := by decide +kernel
theorem d_Mo_init_18 : decode b_Mo_init 18 = .ok (.putfield 14, 3) := by decide +kernel
theorem d_Mo_init_21 : decode b_Mo_init 21 = .ok (.aload_n 0, 1) := by decide +kernel
theorem d_Mo_init_22 : decode b_Mo_init 22 = .ok (.bipush 24, 2) := by decide +kernel
theorem d_Mo_init_24 : decode b_Mo_init 24 = .ok (.newarray .int, 2) := by decide +kernel
theorem d_Mo_init_26 : decode b_Mo_init 26 = .ok (.putfield 17, 3) := by decide +kernel
theorem d_Mo_init_29 : decode b_Mo_init 29 = .ok (.aload_n 0, 1) := by decide +kernel
theorem d_Mo_init_30 : decode b_Mo_init 30 = .ok (.bipush 8, 2) := by decide +kernel
theorem d_Mo_init_32 : decode b_Mo_init 32 = .ok (.newarray .int, 2) := by decide +kernel
theorem d_Mo_init_34 : decode b_Mo_init 34 = .ok (.putfield 21, 3) := by decide +kernel
theorem d_Mo_init_37 : decode b_Mo_init 37 = .ok (.aload_n 0, 1) := by decide +kernel
theorem d_Mo_init_38 : decode b_Mo_init 38 = .ok (.bipush 8, 2) := by decide +kernel
theorem d_Mo_init_40 : decode b_Mo_init 40 = .ok (.newarray .int, 2) := by decide +kernel
theorem d_Mo_init_42 : decode b_Mo_init 42 = .ok (.putfield 24, 3) := by decide +kernel
theorem d_Mo_init_45 : decode b_Mo_init 45 = .ok (.aload_n 0, 1) := by decide +kernel
theorem d_Mo_init_46 : decode b_Mo_init 46 = .ok (.sipush 512, 3) := by decide +kernel
theorem d_Mo_init_49 : decode b_Mo_init 49 = .ok (.newarray .long, 2) := by decide +kernel
theorem d_Mo_init_51 : decode b_Mo_init 51 = .ok (.putfield 27, 3) := by decide +kernel
theorem d_Mo_init_54 : decode b_Mo_init 54 = .ok (.aload_n 0, 1) := by decide +kernel
theorem d_Mo_init_55 : decode b_Mo_init 55 = .ok (.sipush 512, 3) := by decide +kernel
theorem d_Mo_init_58 : decode b_Mo_init 58 = .ok (.newarray .long, 2) := by decide +kernel
theorem d_Mo_init_60 : decode b_Mo_init 60 = .ok (.putfield 31, 3) := by decide +kernel
theorem d_Mo_init_63 : decode b_Mo_init 63 = .ok (.aload_n 0, 1) := by decide +kernel
theorem d_Mo_init_64 : decode b_Mo_init 64 = .ok (.sipush 512, 3) := by decide +kernel
theorem d_Mo_init_67 : decode b_Mo_init 67 = .ok (.newarray .long, 2) := by decide +kernel
theorem d_Mo_init_69 : decode b_Mo_init 69 = .ok (.putfield 34, 3) := by decide +kernel
theorem d_Mo_init_72 : decode b_Mo_init 72 = .ok (.aload_n 0, 1) := by decide +kernel
theorem d_Mo_init_73 : decode b_Mo_init 73 = .ok (.sipush 512, 3) := by decide +kernel
theorem d_Mo_init_76 : decode b_Mo_init 76 = .ok (.newarray .int, 2) := by decide +kernel
theorem d_Mo_init_78 : decode b_Mo_init 78 = .ok (.putfield 37, 3) := by decide +kernel
theorem d_Mo_init_81 : decode b_Mo_init 81 = .ok (.aload_n 0, 1) := by decide +kernel
theorem d_Mo_init_82 : decode b_Mo_init 82 = .ok (.sipush 512, 3) := by decide +kernel
theorem d_Mo_init_85 : decode b_Mo_init 85 = .ok (.newarray .int, 2) := by decide +kernel
theorem d_Mo_init_87 : decode b_Mo_init 87 = .ok (.putfield 40, 3) := by decide +kernel
theorem d_Mo_init_90 : decode b_Mo_init 90 = .ok (.aload_n 0, 1) := by decide +kernel
theorem d_Mo_init_91 : decode b_Mo_init 91 = .ok (.sipush 512, 3) := by decide +kernel
theorem d_Mo_init_94 : decode b_Mo_init 94 = .ok (.newarray .int, 2) := by decide +kernel
theorem d_Mo_init_96 : decode b_Mo_init 96 = .ok (.putfield 43, 3) := by decide +kernel
theorem d_Mo_init_99 : decode b_Mo_init 99 = .ok (.aload_n 0, 1) := by decide +kernel
theorem d_Mo_init_100 : decode b_Mo_init 100 = .ok (.sipush 512, 3) := by decide +kernel
theorem d_Mo_init_103 : decode b_Mo_init 103 = .ok (.newarray .boolean, 2) := by decide +kernel
theorem d_Mo_init_105 : decode b_Mo_init 105 = .ok (.putfield 46, 3) := by decide +kernel
theorem d_Mo_init_108 : decode b_Mo_init 108 = .ok (.aload_n 0, 1) := by decide +kernel
theorem d_Mo_init_109 : decode b_Mo_init 109 = .ok (.sipush 2048, 3) := by decide +kernel
theorem d_Mo_init_112 : decode b_Mo_init 112 = .ok (.newarray .int, 2) := by decide +kernel
theorem d_Mo_init_114 : decode b_Mo_init 114 = .ok (.putfield 50, 3) := by decide +kernel
theorem d_Mo_init_117 : decode b_Mo_init 117 = .ok (.aload_n 0, 1) := by decide +kernel
theorem d_Mo_init_118 : decode b_Mo_init 118 = .ok (.sipush 2048, 3) := by decide +kernel
theorem d_Mo_init_121 : decode b_Mo_init 121 = .ok (.newarray .int, 2) := by decide +kernel
theorem d_Mo_init_123 : decode b_Mo_init 123 = .ok (.putfield 53, 3) := by decide +kernel
theorem d_Mo_init_126 : decode b_Mo_init 126 = .ok (.aload_n 0, 1) := by decide +kernel
theorem d_Mo_init_127 : decode b_Mo_init 127 = .ok (.sipush 2048, 3) := by decide +kernel
theorem d_Mo_init_130 : decode b_Mo_init 130 = .ok (.newarray .int, 2) := by decide +kernel
theorem d_Mo_init_132 : decode b_Mo_init 132 = .ok (.putfield 56, 3) := by decide +kernel
theorem d_Mo_init_135 : decode b_Mo_init 135 = .ok (.aload_n 0, 1) := by decide +kernel
theorem d_Mo_init_136 : decode b_Mo_init 136 = .ok (.sipush 2048, 3) := by decide +kernel
theorem d_Mo_init_139 : decode b_Mo_init 139 = .ok (.newarray .int, 2) := by decide +kernel
theorem d_Mo_init_141 : decode b_Mo_init 141 = .ok (.putfield 59, 3) := by decide +kernel
theorem d_Mo_init_144 : decode b_Mo_init 144 = .ok (.aload_n 0, 1) := by decide +kernel
theorem d_Mo_init_145 : decode b_Mo_init 145 = .ok (.sipush 2048, 3) := by decide +kernel
theorem d_Mo_init_148 : decode b_Mo_init 148 = .ok (.newarray .int, 2) := by decide +kernel
theorem d_Mo_init_150 : decode b_Mo_init 150 = .ok (.putfield 62, 3) := by decide +kernel
theorem d_Mo_init_153 : decode b_Mo_init 153 = .ok (.aload_n 0, 1) := by decide +kernel
theorem d_Mo_init_154 : decode b_Mo_init 154 = .ok (.sipush 256, 3) := by decide +kernel
theorem d_Mo_init_157 : decode b_Mo_init 157 = .ok (.newarray .int, 2) := by decide +kernel
theorem d_Mo_init_159 : decode b_Mo_init 159 = .ok (.putfield 65, 3) := by decide +kernel
theorem d_Mo_init_162 : decode b_Mo_init 162 = .ok (.aload_n 0, 1) := by decide +kernel
theorem d_Mo_init_163 : decode b_Mo_init 163 = .ok (.iconst (-1), 1) := by decide +kernel
theorem d_Mo_init_164 : decode b_Mo_init 164 = .ok (.putfield 68, 3) := by decide +kernel
theorem d_Mo_init_167 : decode b_Mo_init 167 = .ok (.aload_n 0, 1) := by decide +kernel
theorem d_Mo_init_168 : decode b_Mo_init 168 = .ok (.iconst (-1), 1) := by decide +kernel
theorem d_Mo_init_169 : decode b_Mo_init 169 = .ok (.putfield 72, 3) := by decide +kernel
theorem d_Mo_init_172 : decode b_Mo_init 172 = .ok (.aload_n 0, 1) := by decide +kernel
theorem d_Mo_init_173 : decode b_Mo_init 173 = .ok (.ldc 75, 2) := by decide +kernel
theorem d_Mo_init_175 : decode b_Mo_init 175 = .ok (.newarray .byte, 2) := by decide +kernel
theorem d_Mo_init_177 : decode b_Mo_init 177 = .ok (.putfield 76, 3) := by decide +kernel
theorem d_Mo_init_180 : decode b_Mo_init 180 = .ok (.aload_n 0, 1) := by decide +kernel
theorem d_Mo_init_181 : decode b_Mo_init 181 = .ok (.bipush 24, 2) := by decide +kernel
theorem d_Mo_init_183 : decode b_Mo_init 183 = .ok (.newarray .int, 2) := by decide +kernel
theorem d_Mo_init_185 : decode b_Mo_init 185 = .ok (.putfield 79, 3) := by decide +kernel
theorem d_Mo_init_188 : decode b_Mo_init 188 = .ok (.aload_n 0, 1) := by decide +kernel
theorem d_Mo_init_189 : decode b_Mo_init 189 = .ok (.sipush 512, 3) := by decide +kernel
theorem d_Mo_init_192 : decode b_Mo_init 192 = .ok (.newarray .int, 2) := by decide +kernel
theorem d_Mo_init_194 : decode b_Mo_init 194 = .ok (.putfield 82, 3) := by decide +kernel
theorem d_Mo_init_197 : decode b_Mo_init 197 = .ok (.aload_n 0, 1) := by decide +kernel
theorem d_Mo_init_198 : decode b_Mo_init 198 = .ok (.sipush 8192, 3) := by decide +kernel
theorem d_Mo_init_201 : decode b_Mo_init 201 = .ok (.newarray .byte, 2) := by decide +kernel
theorem d_Mo_init_203 : decode b_Mo_init 203 = .ok (.putfield 85, 3) := by decide +kernel
theorem d_Mo_init_206 : decode b_Mo_init 206 = .ok (.return_, 1) := by decide +kernel
set_option maxHeartbeats 4000000 in
set_option maxRecDepth 100000 in
theorem c_Mo_init (l : Launch) (D : va_G) (h0 : Nat) (sz : Nat) : Met l y_Mo_init (Cond.code y_Mo_init b_Mo_init 1 none :: bw) (xR 1 22 129344) (va_Pc [.ref h0] (xP D [] sz [(h0, .inr (7, [.int 0, .int 0, .int 0, .int 0, .int 0, .int 0, .int 0, .int 0, .int 0, .int 0, .int 0, .int 0, .int 0, .int 0, .int 0, .int 0, .null, .null, .null, .null, .int 0, .null, .null, .null, .null, .null, .null, .null, .null, .null, .null, .null, .null, .null, .null, .null, .null, .null, .int 0, .int 0, .int 0, .int 0, .long 0, .long 0, .long 0, .long 0, .long 0, .null, .int 0, .int 0, .int 0, .int 0]))])) (xQ (S := ((Nat → Nat) × (Nat → ClassId))) (fun u => none) (fun u => [(h0, .inr (7, [.int 0, .int 0, .int 0, .int 0, .int 0, .int 0, .int (-1), .int (-1), .int 0, .int 0, .int 0, .int 0, .int 0, .int 0, .int 0, .int 0, .ref (u.1 0), .ref (u.1 1), .ref (u.1 2), .ref (u.1 3), .int 0, .ref (u.1 4), .ref (u.1 5), .ref (u.1 6), .ref (u.1 7), .ref (u.1 8), .ref (u.1 9), .ref (u.1 10), .ref (u.1 11), .ref (u.1 12), .ref (u.1 13), .ref (u.1 14), .ref (u.1 15), .ref (u.1 16), .ref (u.1 17), .ref (u.1 18), .ref (u.1 19), .ref (u.1 20), .int 0, .int 0, .int 0, .int 0, .long 0, .long 0, .long 0, .long 0, .long 0, .ref (u.1 21), .int 0, .int 0, .int 0, .int 0])), ((u.1 0), .inl ((u.2 0), 8192, .inl (fun _ => 0))), ((u.1 1), .inl ((u.2 1), 24, .inl (fun _ => 0))), ((u.1 2), .inl ((u.2 2), 8, .inl (fun _ => 0))), ((u.1 3), .inl ((u.2 3), 8, .inl (fun _ => 0)))]) (fun u => [((u.2 0), .byte), ((u.2 1), .int), ((u.2 2), .int), ((u.2 3), .int)]) D (va_A [(h0, .inr (7, [.int 0, .int 0, .int 0, .int 0, .int 0, .int 0, .int 0, .int 0, .int 0, .int 0, .int 0, .int 0, .int 0, .int 0, .int 0, .int 0, .null, .null, .null, .null, .int 0, .null, .null, .null, .null, .null, .null, .null, .null, .null, .null, .null, .null, .null, .null, .null, .null, .null, .int 0, .int 0, .int 0, .int 0, .long 0, .long 0, .long 0, .long 0, .long 0, .null, .int 0, .int 0, .int 0, .int 0]))] sz)) 22 129344 (va_A [(h0, .inr (7, [.int 0, .int 0, .int 0, .int 0, .int 0, .int 0, .int 0, .int 0, .int 0, .int 0, .int 0, .int 0, .int 0, .int 0, .int 0, .int 0, .null, .null, .null, .null, .int 0, .null, .null, .null, .null, .null, .null, .null, .null, .null, .null, .null, .null, .null, .null, .null, .null, .null, .int 0, .int 0, .int 0, .int 0, .long 0, .long 0, .long 0, .long 0, .long 0, .null, .int 0, .int 0, .int 0, .int 0]))] sz) := by
  refine Met.ofW (cc := b_Mo_init) (maxL := 1) (ret := none) (by decide) rfl ?_
  intro p e s m args below meth c s₁ B hml hv
  obtain ⟨rfl, hsz, hP, hK, hD0, hN, hZ⟩ := hv
  have hx := B.exec
  have hb := B.bytes
  have hr := B.returns
  have hlocks := B.notSynchronized
  have hts : ∀ w ∈ bw, w.before _ s = true := fun w h => atoms_spec (ws := Cond.code y_Mo_init b_Mo_init 1 none :: bw) B.pre w (List.mem_cons_of_mem _ h)
  have hown : s.vm.findClass "ObjectForgeModel" = some m.cls := findClass_of_methodNamed B.named
  have hin : meth.name = "<init>" := (name_of_methodNamed B.named B.method).1
  subst hsz
  have hP0 := hP
  have hD := hD0.self (sz := s.heap.size)
  generalize hAe : va_A [(h0, .inr (7, [.int 0, .int 0, .int 0, .int 0, .int 0, .int 0, .int 0, .int 0, .int 0, .int 0, .int 0, .int 0, .int 0, .int 0, .int 0, .int 0, .null, .null, .null, .null, .int 0, .null, .null, .null, .null, .null, .null, .null, .null, .null, .null, .null, .null, .null, .null, .null, .null, .null, .int 0, .int 0, .int 0, .int 0, .long 0, .long 0, .long 0, .long 0, .long 0, .null, .int 0, .int 0, .int 0, .int 0]))] s.heap.size = A at hD hZ ⊢
  have hA : ∀ q : Nat, s.heap.size ≤ q → A q := fun q h => by rw [← hAe]; exact Or.inr h
  have hS : va_S A s.heap s.heap [] := va_S.rf
  have hl := lv_entry ([.ref h0]) (n := 1) (Nat.le_of_ble_eq_true rfl)
  rw [lg_entry_eq]
  generalize (lg_sl ([.ref h0]) ++ List.replicate (1 - (lg_sl ([.ref h0])).length) Slot.unset).toArray = ls at hl ⊢
  have hl : lv_has ls 1 [(0, .ref h0)] := hl
  refine lv_aload_n hx hb d_Mo_init_0 rfl (lv_at hl 0 rfl) ?_
  refine W.objInit hx hb hown (hts _ w_394) (hts _ w_22) (hts _ w_23) rfl (by rw [hml]; exact hl.1) rfl d_Mo_init_1 (Nat.le_of_ble_eq_true rfl) (Nat.le_of_ble_eq_true rfl) ?_
  refine W.eq (g2 := F0 m 4 ls []) rfl ?_
  refine lv_aload_n hx hb d_Mo_init_4 rfl (lv_at hl 0 rfl) ?_
  refine lv_sipush (v := 8192) hx hb d_Mo_init_5 (by decide) ?_
  refine va_newa (atype := .byte) (ty := .byte) (n := 8192) (N' := 8192) (a0 := (8192, .inl (fun _ => 0))) hx hb (hts _ w_42) rfl hK hP hD hS hA (fun _ => rfl) (by decide) (by decide) (by decide) (Nat.le_of_ble_eq_true rfl) (Nat.le_of_ble_eq_true rfl) d_Mo_init_8 (fun q1 cq1 H hK hP hD hS => ?_)
  have hP : va_P D cls [(h0, .inr (7, [.int 0, .int 0, .int 0, .int 0, .int 0, .int 0, .int 0, .int 0, .int 0, .int 0, .int 0, .int 0, .int 0, .int 0, .int 0, .int 0, .null, .null, .null, .null, .int 0, .null, .null, .null, .null, .null, .null, .null, .null, .null, .null, .null, .null, .null, .null, .null, .null, .null, .int 0, .int 0, .int 0, .int 0, .long 0, .long 0, .long 0, .long 0, .long 0, .null, .int 0, .int 0, .int 0, .int 0])), (q1, .inl (cq1, 8192, .inl (fun _ => 0)))] H := hP
  have hD : va_D A [(h0, .inr (7, [.int 0, .int 0, .int 0, .int 0, .int 0, .int 0, .int 0, .int 0, .int 0, .int 0, .int 0, .int 0, .int 0, .int 0, .int 0, .int 0, .null, .null, .null, .null, .int 0, .null, .null, .null, .null, .null, .null, .null, .null, .null, .null, .null, .null, .null, .null, .null, .null, .null, .int 0, .int 0, .int 0, .int 0, .long 0, .long 0, .long 0, .long 0, .long 0, .null, .int 0, .int 0, .int 0, .int 0])), (q1, .inl (cq1, 8192, .inl (fun _ => 0)))] := hD
  have hK : va_K D cls [(cq1, .byte)] s := hK
  refine W.widen (k := 1) (n := 8192) (by omega) (by omega) ?_
  refine va_putF (D := D) (ci := 7) (v := .ref q1) (ty := .array .byte) (C := R_Mo) (T := F_Mo) (N := 52) hx hb hts i_Mo t_Mo t_Mo_ok n_Mo hown hK hP hD hS 0 rfl rfl 16 (by decide) (hts _ w_399) (fun _ h9 => h9) rfl hin rfl (by decide +kernel) rfl rfl (Nat.le_of_ble_eq_true rfl) d_Mo_init_10 (fun H locs hP hD hS => ?_)
  have hP : va_P D cls [(h0, .inr (7, [.int 0, .int 0, .int 0, .int 0, .int 0, .int 0, .int 0, .int 0, .int 0, .int 0, .int 0, .int 0, .int 0, .int 0, .int 0, .int 0, .ref q1, .null, .null, .null, .int 0, .null, .null, .null, .null, .null, .null, .null, .null, .null, .null, .null, .null, .null, .null, .null, .null, .null, .int 0, .int 0, .int 0, .int 0, .long 0, .long 0, .long 0, .long 0, .long 0, .null, .int 0, .int 0, .int 0, .int 0])), (q1, .inl (cq1, 8192, .inl (fun _ => 0)))] H := hP
  have hD : va_D A [(h0, .inr (7, [.int 0, .int 0, .int 0, .int 0, .int 0, .int 0, .int 0, .int 0, .int 0, .int 0, .int 0, .int 0, .int 0, .int 0, .int 0, .int 0, .ref q1, .null, .null, .null, .int 0, .null, .null, .null, .null, .null, .null, .null, .null, .null, .null, .null, .null, .null, .null, .null, .null, .null, .int 0, .int 0, .int 0, .int 0, .long 0, .long 0, .long 0, .long 0, .long 0, .null, .int 0, .int 0, .int 0, .int 0])), (q1, .inl (cq1, 8192, .inl (fun _ => 0)))] := hD
  refine lv_aload_n hx hb d_Mo_init_13 rfl (lv_at hl 0 rfl) ?_
  refine lv_ldc (v := 65536) hx hb hown (hts _ w_395) d_Mo_init_14 ?_
  refine x_newa (atype := .byte) (ty := .byte) (n := 65536) (N' := 65536) (a0 := (65536, .inl (fun _ => 0))) hx hb (hts _ w_42) rfl hK hP hD hS hA (fun _ => rfl) (by decide) (by decide) (by decide) (Nat.le_of_ble_eq_true rfl) (Nat.le_of_ble_eq_true rfl) d_Mo_init_16 (fun q2 H hP hD hS => ?_)
  refine W.widen (k := 2) (n := 73728) (by omega) (by omega) ?_
  refine va_putF (D := D) (ci := 7) (v := .ref q2) (ty := .array .byte) (C := R_Mo) (T := F_Mo) (N := 52) hx hb hts i_Mo t_Mo t_Mo_ok n_Mo hown hK hP hD hS 0 rfl rfl 21 (by decide) (hts _ w_402) (fun _ h9 => h9) rfl hin rfl (by decide +kernel) rfl rfl (Nat.le_of_ble_eq_true rfl) d_Mo_init_18 (fun H locs hP hD hS => ?_)
  have hP : va_P D cls [(h0, .inr (7, [.int 0, .int 0, .int 0, .int 0, .int 0, .int 0, .int 0, .int 0, .int 0, .int 0, .int 0, .int 0, .int 0, .int 0, .int 0, .int 0, .ref q1, .null, .null, .null, .int 0, .ref q2, .null, .null, .null, .null, .null, .null, .null, .null, .null, .null, .null, .null, .null, .null, .null, .null, .int 0, .int 0, .int 0, .int 0, .long 0, .long 0, .long 0, .long 0, .long 0, .null, .int 0, .int 0, .int 0, .int 0])), (q1, .inl (cq1, 8192, .inl (fun _ => 0)))] H := hP
  have hD : va_D A [(h0, .inr (7, [.int 0, .int 0, .int 0, .int 0, .int 0, .int 0, .int 0, .int 0, .int 0, .int 0, .int 0, .int 0, .int 0, .int 0, .int 0, .int 0, .ref q1, .null, .null, .null, .int 0, .ref q2, .null, .null, .null, .null, .null, .null, .null, .null, .null, .null, .null, .null, .null, .null, .null, .null, .int 0, .int 0, .int 0, .int 0, .long 0, .long 0, .long 0, .long 0, .long 0, .null, .int 0, .int 0, .int 0, .int 0])), (q1, .inl (cq1, 8192, .inl (fun _ => 0)))] := hD
  refine lv_aload_n hx hb d_Mo_init_21 rfl (lv_at hl 0 rfl) ?_
  refine lv_bipush (v := 24) hx hb d_Mo_init_22 (by decide) ?_
  refine va_newa (atype := .int) (ty := .int) (n := 24) (N' := 24) (a0 := (24, .inl (fun _ => 0))) hx hb (hts _ w_43) rfl hK hP hD hS hA (fun _ => rfl) (by decide) (by decide) (by decide) (Nat.le_of_ble_eq_true rfl) (Nat.le_of_ble_eq_true rfl) d_Mo_init_24 (fun q3 cq3 H hK hP hD hS => ?_)
  have hP : va_P D cls [(h0, .inr (7, [.int 0, .int 0, .int 0, .int 0, .int 0, .int 0, .int 0, .int 0, .int 0, .int 0, .int 0, .int 0, .int 0, .int 0, .int 0, .int 0, .ref q1, .null, .null, .null, .int 0, .ref q2, .null, .null, .null, .null, .null, .null, .null, .null, .null, .null, .null, .null, .null, .null, .null, .null, .int 0, .int 0, .int 0, .int 0, .long 0, .long 0, .long 0, .long 0, .long 0, .null, .int 0, .int 0, .int 0, .int 0])), (q1, .inl (cq1, 8192, .inl (fun _ => 0))), (q3, .inl (cq3, 24, .inl (fun _ => 0)))] H := hP
  have hD : va_D A [(h0, .inr (7, [.int 0, .int 0, .int 0, .int 0, .int 0, .int 0, .int 0, .int 0, .int 0, .int 0, .int 0, .int 0, .int 0, .int 0, .int 0, .int 0, .ref q1, .null, .null, .null, .int 0, .ref q2, .null, .null, .null, .null, .null, .null, .null, .null, .null, .null, .null, .null, .null, .null, .null, .null, .int 0, .int 0, .int 0, .int 0, .long 0, .long 0, .long 0, .long 0, .long 0, .null, .int 0, .int 0, .int 0, .int 0])), (q1, .inl (cq1, 8192, .inl (fun _ => 0))), (q3, .inl (cq3, 24, .inl (fun _ => 0)))] := hD
  have hK : va_K D cls [(cq1, .byte), (cq3, .int)] s := hK
  refine W.widen (k := 3) (n := 73752) (by omega) (by omega) ?_
  refine va_putF (D := D) (ci := 7) (v := .ref q3) (ty := .array .int) (C := R_Mo) (T := F_Mo) (N := 52) hx hb hts i_Mo t_Mo t_Mo_ok n_Mo hown hK hP hD hS 0 rfl rfl 17 (by decide) (hts _ w_403) (fun _ h9 => h9) rfl hin rfl (by decide +kernel) rfl rfl (Nat.le_of_ble_eq_true rfl) d_Mo_init_26 (fun H locs hP hD hS => ?_)
  have hP : va_P D cls [(h0, .inr (7, [.int 0, .int 0, .int 0, .int 0, .int 0, .int 0, .int 0, .int 0, .int 0, .int 0, .int 0, .int 0, .int 0, .int 0, .int 0, .int 0, .ref q1, .ref q3, .null, .null, .int 0, .ref q2, .null, .null, .null, .null, .null, .null, .null, .null, .null, .null, .null, .null, .null, .null, .null, .null, .int 0, .int 0, .int 0, .int 0, .long 0, .long 0, .long 0, .long 0, .long 0, .null, .int 0, .int 0, .int 0, .int 0])), (q1, .inl (cq1, 8192, .inl (fun _ => 0))), (q3, .inl (cq3, 24, .inl (fun _ => 0)))] H := hP
  have hD : va_D A [(h0, .inr (7, [.int 0, .int 0, .int 0, .int 0, .int 0, .int 0, .int 0, .int 0, .int 0, .int 0, .int 0, .int 0, .int 0, .int 0, .int 0, .int 0, .ref q1, .ref q3, .null, .null, .int 0, .ref q2, .null, .null, .null, .null, .null, .null, .null, .null, .null, .null, .null, .null, .null, .null, .null, .null, .int 0, .int 0, .int 0, .int 0, .long 0, .long 0, .long 0, .long 0, .long 0, .null, .int 0, .int 0, .int 0, .int 0])), (q1, .inl (cq1, 8192, .inl (fun _ => 0))), (q3, .inl (cq3, 24, .inl (fun _ => 0)))] := hD
  refine lv_aload_n hx hb d_Mo_init_29 rfl (lv_at hl 0 rfl) ?_
  refine lv_bipush (v := 8) hx hb d_Mo_init_30 (by decide) ?_
  refine va_newa (atype := .int) (ty := .int) (n := 8) (N' := 8) (a0 := (8, .inl (fun _ => 0))) hx hb (hts _ w_43) rfl hK hP hD hS hA (fun _ => rfl) (by decide) (by decide) (by decide) (Nat.le_of_ble_eq_true rfl) (Nat.le_of_ble_eq_true rfl) d_Mo_init_32 (fun q4 cq4 H hK hP hD hS => ?_)
  have hP : va_P D cls [(h0, .inr (7, [.int 0, .int 0, .int 0, .int 0, .int 0, .int 0, .int 0, .int 0, .int 0, .int 0, .int 0, .int 0, .int 0, .int 0, .int 0, .int 0, .ref q1, .ref q3, .null, .null, .int 0, .ref q2, .null, .null, .null, .null, .null, .null, .null, .null, .null, .null, .null, .null, .null, .null, .null, .null, .int 0, .int 0, .int 0, .int 0, .long 0, .long 0, .long 0, .long 0, .long 0, .null, .int 0, .int 0, .int 0, .int 0])), (q1, .inl (cq1, 8192, .inl (fun _ => 0))), (q3, .inl (cq3, 24, .inl (fun _ => 0))), (q4, .inl (cq4, 8, .inl (fun _ => 0)))] H := hP
  have hD : va_D A [(h0, .inr (7, [.int 0, .int 0, .int 0, .int 0, .int 0, .int 0, .int 0, .int 0, .int 0, .int 0, .int 0, .int 0, .int 0, .int 0, .int 0, .int 0, .ref q1, .ref q3, .null, .null, .int 0, .ref q2, .null, .null, .null, .null, .null, .null, .null, .null, .null, .null, .null, .null, .null, .null, .null, .null, .int 0, .int 0, .int 0, .int 0, .long 0, .long 0, .long 0, .long 0, .long 0, .null, .int 0, .int 0, .int 0, .int 0])), (q1, .inl (cq1, 8192, .inl (fun _ => 0))), (q3, .inl (cq3, 24, .inl (fun _ => 0))), (q4, .inl (cq4, 8, .inl (fun _ => 0)))] := hD
  have hK : va_K D cls [(cq1, .byte), (cq3, .int), (cq4, .int)] s := hK
  refine W.widen (k := 4) (n := 73760) (by omega) (by omega) ?_
  refine va_putF (D := D) (ci := 7) (v := .ref q4) (ty := .array .int) (C := R_Mo) (T := F_Mo) (N := 52) hx hb hts i_Mo t_Mo t_Mo_ok n_Mo hown hK hP hD hS 0 rfl rfl 18 (by decide) (hts _ w_404) (fun _ h9 => h9) rfl hin rfl (by decide +kernel) rfl rfl (Nat.le_of_ble_eq_true rfl) d_Mo_init_34 (fun H locs hP hD hS => ?_)
  have hP : va_P D cls [(h0, .inr (7, [.int 0, .int 0, .int 0, .int 0, .int 0, .int 0, .int 0, .int 0, .int 0, .int 0, .int 0, .int 0, .int 0, .int 0, .int 0, .int 0, .ref q1, .ref q3, .ref q4, .null, .int 0, .ref q2, .null, .null, .null, .null, .null, .null, .null, .null, .null, .null, .null, .null, .null, .null, .null, .null, .int 0, .int 0, .int 0, .int 0, .long 0, .long 0, .long 0, .long 0, .long 0, .null, .int 0, .int 0, .int 0, .int 0])), (q1, .inl (cq1, 8192, .inl (fun _ => 0))), (q3, .inl (cq3, 24, .inl (fun _ => 0))), (q4, .inl (cq4, 8, .inl (fun _ => 0)))] H := hP
  have hD : va_D A [(h0, .inr (7, [.int 0, .int 0, .int 0, .int 0, .int 0, .int 0, .int 0, .int 0, .int 0, .int 0, .int 0, .int 0, .int 0, .int 0, .int 0, .int 0, .ref q1, .ref q3, .ref q4, .null, .int 0, .ref q2, .null, .null, .null, .null, .null, .null, .null, .null, .null, .null, .null, .null, .null, .null, .null, .null, .int 0, .int 0, .int 0, .int 0, .long 0, .long 0, .long 0, .long 0, .long 0, .null, .int 0, .int 0, .int 0, .int 0])), (q1, .inl (cq1, 8192, .inl (fun _ => 0))), (q3, .inl (cq3, 24, .inl (fun _ => 0))), (q4, .inl (cq4, 8, .inl (fun _ => 0)))] := hD
  refine lv_aload_n hx hb d_Mo_init_37 rfl (lv_at hl 0 rfl) ?_
  refine lv_bipush (v := 8) hx hb d_Mo_init_38 (by decide) ?_
  refine va_newa (atype := .int) (ty := .int) (n := 8) (N' := 8) (a0 := (8, .inl (fun _ => 0))) hx hb (hts _ w_43) rfl hK hP hD hS hA (fun _ => rfl) (by decide) (by decide) (by decide) (Nat.le_of_ble_eq_true rfl) (Nat.le_of_ble_eq_true rfl) d_Mo_init_40 (fun q5 cq5 H hK hP hD hS => ?_)
  have hP : va_P D cls [(h0, .inr (7, [.int 0, .int 0, .int 0, .int 0, .int 0, .int 0, .int 0, .int 0, .int 0, .int 0, .int 0, .int 0, .int 0, .int 0, .int 0, .int 0, .ref q1, .ref q3, .ref q4, .null, .int 0, .ref q2, .null, .null, .null, .null, .null, .null, .null, .null, .null, .null, .null, .null, .null, .null, .null, .null, .int 0, .int 0, .int 0, .int 0, .long 0, .long 0, .long 0, .long 0, .long 0, .null, .int 0, .int 0, .int 0, .int 0])), (q1, .inl (cq1, 8192, .inl (fun _ => 0))), (q3, .inl (cq3, 24, .inl (fun _ => 0))), (q4, .inl (cq4, 8, .inl (fun _ => 0))), (q5, .inl (cq5, 8, .inl (fun _ => 0)))] H := hP
  have hD : va_D A [(h0, .inr (7, [.int 0, .int 0, .int 0, .int 0, .int 0, .int 0, .int 0, .int 0, .int 0, .int 0, .int 0, .int 0, .int 0, .int 0, .int 0, .int 0, .ref q1, .ref q3, .ref q4, .null, .int 0, .ref q2, .null, .null, .null, .null, .null, .null, .null, .null, .null, .null, .null, .null, .null, .null, .null, .null, .int 0, .int 0, .int 0, .int 0, .long 0, .long 0, .long 0, .long 0, .long 0, .null, .int 0, .int 0, .int 0, .int 0])), (q1, .inl (cq1, 8192, .inl (fun _ => 0))), (q3, .inl (cq3, 24, .inl (fun _ => 0))), (q4, .inl (cq4, 8, .inl (fun _ => 0))), (q5, .inl (cq5, 8, .inl (fun _ => 0)))] := hD
  have hK : va_K D cls [(cq1, .byte), (cq3, .int), (cq4, .int), (cq5, .int)] s := hK
  refine W.widen (k := 5) (n := 73768) (by omega) (by omega) ?_
  refine va_putF (D := D) (ci := 7) (v := .ref q5) (ty := .array .int) (C := R_Mo) (T := F_Mo) (N := 52) hx hb hts i_Mo t_Mo t_Mo_ok n_Mo hown hK hP hD hS 0 rfl rfl 19 (by decide) (hts _ w_405) (fun _ h9 => h9) rfl hin rfl (by decide +kernel) rfl rfl (Nat.le_of_ble_eq_true rfl) d_Mo_init_42 (fun H locs hP hD hS => ?_)
  have hP : va_P D cls [(h0, .inr (7, [.int 0, .int 0, .int 0, .int 0, .int 0, .int 0, .int 0, .int 0, .int 0, .int 0, .int 0, .int 0, .int 0, .int 0, .int 0, .int 0, .ref q1, .ref q3, .ref q4, .ref q5, .int 0, .ref q2, .null, .null, .null, .null, .null, .null, .null, .null, .null, .null, .null, .null, .null, .null, .null, .null, .int 0, .int 0, .int 0, .int 0, .long 0, .long 0, .long 0, .long 0, .long 0, .null, .int 0, .int 0, .int 0, .int 0])), (q1, .inl (cq1, 8192, .inl (fun _ => 0))), (q3, .inl (cq3, 24, .inl (fun _ => 0))), (q4, .inl (cq4, 8, .inl (fun _ => 0))), (q5, .inl (cq5, 8, .inl (fun _ => 0)))] H := hP
  have hD : va_D A [(h0, .inr (7, [.int 0, .int 0, .int 0, .int 0, .int 0, .int 0, .int 0, .int 0, .int 0, .int 0, .int 0, .int 0, .int 0, .int 0, .int 0, .int 0, .ref q1, .ref q3, .ref q4, .ref q5, .int 0, .ref q2, .null, .null, .null, .null, .null, .null, .null, .null, .null, .null, .null, .null, .null, .null, .null, .null, .int 0, .int 0, .int 0, .int 0, .long 0, .long 0, .long 0, .long 0, .long 0, .null, .int 0, .int 0, .int 0, .int 0])), (q1, .inl (cq1, 8192, .inl (fun _ => 0))), (q3, .inl (cq3, 24, .inl (fun _ => 0))), (q4, .inl (cq4, 8, .inl (fun _ => 0))), (q5, .inl (cq5, 8, .inl (fun _ => 0)))] := hD
  refine lv_aload_n hx hb d_Mo_init_45 rfl (lv_at hl 0 rfl) ?_
  refine lv_sipush (v := 512) hx hb d_Mo_init_46 (by decide) ?_
  refine x_newa (atype := .long) (ty := .long) (n := 512) (N' := 512) (a0 := (512, .inr (.inl (fun _ => 0)))) hx hb (hts _ w_100) rfl hK hP hD hS hA (fun _ => rfl) (by decide) (by decide) (by decide) (Nat.le_of_ble_eq_true rfl) (Nat.le_of_ble_eq_true rfl) d_Mo_init_49 (fun q6 H hP hD hS => ?_)
  refine W.widen (k := 6) (n := 74280) (by omega) (by omega) ?_
  refine va_putF (D := D) (ci := 7) (v := .ref q6) (ty := .array .long) (C := R_Mo) (T := F_Mo) (N := 52) hx hb hts i_Mo t_Mo t_Mo_ok n_Mo hown hK hP hD hS 0 rfl rfl 22 (by decide) (hts _ w_406) (fun _ h9 => h9) rfl hin rfl (by decide +kernel) rfl rfl (Nat.le_of_ble_eq_true rfl) d_Mo_init_51 (fun H locs hP hD hS => ?_)
  have hP : va_P D cls [(h0, .inr (7, [.int 0, .int 0, .int 0, .int 0, .int 0, .int 0, .int 0, .int 0, .int 0, .int 0, .int 0, .int 0, .int 0, .int 0, .int 0, .int 0, .ref q1, .ref q3, .ref q4, .ref q5, .int 0, .ref q2, .ref q6, .null, .null, .null, .null, .null, .null, .null, .null, .null, .null, .null, .null, .null, .null, .null, .int 0, .int 0, .int 0, .int 0, .long 0, .long 0, .long 0, .long 0, .long 0, .null, .int 0, .int 0, .int 0, .int 0])), (q1, .inl (cq1, 8192, .inl (fun _ => 0))), (q3, .inl (cq3, 24, .inl (fun _ => 0))), (q4, .inl (cq4, 8, .inl (fun _ => 0))), (q5, .inl (cq5, 8, .inl (fun _ => 0)))] H := hP
  have hD : va_D A [(h0, .inr (7, [.int 0, .int 0, .int 0, .int 0, .int 0, .int 0, .int 0, .int 0, .int 0, .int 0, .int 0, .int 0, .int 0, .int 0, .int 0, .int 0, .ref q1, .ref q3, .ref q4, .ref q5, .int 0, .ref q2, .ref q6, .null, .null, .null, .null, .null, .null, .null, .null, .null, .null, .null, .null, .null, .null, .null, .int 0, .int 0, .int 0, .int 0, .long 0, .long 0, .long 0, .long 0, .long 0, .null, .int 0, .int 0, .int 0, .int 0])), (q1, .inl (cq1, 8192, .inl (fun _ => 0))), (q3, .inl (cq3, 24, .inl (fun _ => 0))), (q4, .inl (cq4, 8, .inl (fun _ => 0))), (q5, .inl (cq5, 8, .inl (fun _ => 0)))] := hD
  refine lv_aload_n hx hb d_Mo_init_54 rfl (lv_at hl 0 rfl) ?_
  refine lv_sipush (v := 512) hx hb d_Mo_init_55 (by decide) ?_
  refine x_newa (atype := .long) (ty := .long) (n := 512) (N' := 512) (a0 := (512, .inr (.inl (fun _ => 0)))) hx hb (hts _ w_100) rfl hK hP hD hS hA (fun _ => rfl) (by decide) (by decide) (by decide) (Nat.le_of_ble_eq_true rfl) (Nat.le_of_ble_eq_true rfl) d_Mo_init_58 (fun q7 H hP hD hS => ?_)
  refine W.widen (k := 7) (n := 74792) (by omega) (by omega) ?_
  refine va_putF (D := D) (ci := 7) (v := .ref q7) (ty := .array .long) (C := R_Mo) (T := F_Mo) (N := 52) hx hb hts i_Mo t_Mo t_Mo_ok n_Mo hown hK hP hD hS 0 rfl rfl 23 (by decide) (hts _ w_407) (fun _ h9 => h9) rfl hin rfl (by decide +kernel) rfl rfl (Nat.le_of_ble_eq_true rfl) d_Mo_init_60 (fun H locs hP hD hS => ?_)
  have hP : va_P D cls [(h0, .inr (7, [.int 0, .int 0, .int 0, .int 0, .int 0, .int 0, .int 0, .int 0, .int 0, .int 0, .int 0, .int 0, .int 0, .int 0, .int 0, .int 0, .ref q1, .ref q3, .ref q4, .ref q5, .int 0, .ref q2, .ref q6, .ref q7, .null, .null, .null, .null, .null, .null, .null, .null, .null, .null, .null, .null, .null, .null, .int 0, .int 0, .int 0, .int 0, .long 0, .long 0, .long 0, .long 0, .long 0, .null, .int 0, .int 0, .int 0, .int 0])), (q1, .inl (cq1, 8192, .inl (fun _ => 0))), (q3, .inl (cq3, 24, .inl (fun _ => 0))), (q4, .inl (cq4, 8, .inl (fun _ => 0))), (q5, .inl (cq5, 8, .inl (fun _ => 0)))] H := hP
  have hD : va_D A [(h0, .inr (7, [.int 0, .int 0, .int 0, .int 0, .int 0, .int 0, .int 0, .int 0, .int 0, .int 0, .int 0, .int 0, .int 0, .int 0, .int 0, .int 0, .ref q1, .ref q3, .ref q4, .ref q5, .int 0, .ref q2, .ref q6, .ref q7, .null, .null, .null, .null, .null, .null, .null, .null, .null, .null, .null, .null, .null, .null, .int 0, .int 0, .int 0, .int 0, .long 0, .long 0, .long 0, .long 0, .long 0, .null, .int 0, .int 0, .int 0, .int 0])), (q1, .inl (cq1, 8192, .inl (fun _ => 0))), (q3, .inl (cq3, 24, .inl (fun _ => 0))), (q4, .inl (cq4, 8, .inl (fun _ => 0))), (q5, .inl (cq5, 8, .inl (fun _ => 0)))] := hD
  refine lv_aload_n hx hb d_Mo_init_63 rfl (lv_at hl 0 rfl) ?_
  refine lv_sipush (v := 512) hx hb d_Mo_init_64 (by decide) ?_
  refine x_newa (atype := .long) (ty := .long) (n := 512) (N' := 512) (a0 := (512, .inr (.inl (fun _ => 0)))) hx hb (hts _ w_100) rfl hK hP hD hS hA (fun _ => rfl) (by decide) (by decide) (by decide) (Nat.le_of_ble_eq_true rfl) (Nat.le_of_ble_eq_true rfl) d_Mo_init_67 (fun q8 H hP hD hS => ?_)
  refine W.widen (k := 8) (n := 75304) (by omega) (by omega) ?_
  refine va_putF (D := D) (ci := 7) (v := .ref q8) (ty := .array .long) (C := R_Mo) (T := F_Mo) (N := 52) hx hb hts i_Mo t_Mo t_Mo_ok n_Mo hown hK hP hD hS 0 rfl rfl 24 (by decide) (hts _ w_408) (fun _ h9 => h9) rfl hin rfl (by decide +kernel) rfl rfl (Nat.le_of_ble_eq_true rfl) d_Mo_init_69 (fun H locs hP hD hS => ?_)
  have hP : va_P D cls [(h0, .inr (7, [.int 0, .int 0, .int 0, .int 0, .int 0, .int 0, .int 0, .int 0, .int 0, .int 0, .int 0, .int 0, .int 0, .int 0, .int 0, .int 0, .ref q1, .ref q3, .ref q4, .ref q5, .int 0, .ref q2, .ref q6, .ref q7, .ref q8, .null, .null, .null, .null, .null, .null, .null, .null, .null, .null, .null, .null, .null, .int 0, .int 0, .int 0, .int 0, .long 0, .long 0, .long 0, .long 0, .long 0, .null, .int 0, .int 0, .int 0, .int 0])), (q1, .inl (cq1, 8192, .inl (fun _ => 0))), (q3, .inl (cq3, 24, .inl (fun _ => 0))), (q4, .inl (cq4, 8, .inl (fun _ => 0))), (q5, .inl (cq5, 8, .inl (fun _ => 0)))] H := hP
  have hD : va_D A [(h0, .inr (7, [.int 0, .int 0, .int 0, .int 0, .int 0, .int 0, .int 0, .int 0, .int 0, .int 0, .int 0, .int 0, .int 0, .int 0, .int 0, .int 0, .ref q1, .ref q3, .ref q4, .ref q5, .int 0, .ref q2, .ref q6, .ref q7, .ref q8, .null, .null, .null, .null, .null, .null, .null, .null, .null, .null, .null, .null, .null, .int 0, .int 0, .int 0, .int 0, .long 0, .long 0, .long 0, .long 0, .long 0, .null, .int 0, .int 0, .int 0, .int 0])), (q1, .inl (cq1, 8192, .inl (fun _ => 0))), (q3, .inl (cq3, 24, .inl (fun _ => 0))), (q4, .inl (cq4, 8, .inl (fun _ => 0))), (q5, .inl (cq5, 8, .inl (fun _ => 0)))] := hD
  refine lv_aload_n hx hb d_Mo_init_72 rfl (lv_at hl 0 rfl) ?_
  refine lv_sipush (v := 512) hx hb d_Mo_init_73 (by decide) ?_
  refine x_newa (atype := .int) (ty := .int) (n := 512) (N' := 512) (a0 := (512, .inl (fun _ => 0))) hx hb (hts _ w_43) rfl hK hP hD hS hA (fun _ => rfl) (by decide) (by decide) (by decide) (Nat.le_of_ble_eq_true rfl) (Nat.le_of_ble_eq_true rfl) d_Mo_init_76 (fun q9 H hP hD hS => ?_)
  refine W.widen (k := 9) (n := 75816) (by omega) (by omega) ?_
  refine va_putF (D := D) (ci := 7) (v := .ref q9) (ty := .array .int) (C := R_Mo) (T := F_Mo) (N := 52) hx hb hts i_Mo t_Mo t_Mo_ok n_Mo hown hK hP hD hS 0 rfl rfl 25 (by decide) (hts _ w_409) (fun _ h9 => h9) rfl hin rfl (by decide +kernel) rfl rfl (Nat.le_of_ble_eq_true rfl) d_Mo_init_78 (fun H locs hP hD hS => ?_)
  have hP : va_P D cls [(h0, .inr (7, [.int 0, .int 0, .int 0, .int 0, .int 0, .int 0, .int 0, .int 0, .int 0, .int 0, .int 0, .int 0, .int 0, .int 0, .int 0, .int 0, .ref q1, .ref q3, .ref q4, .ref q5, .int 0, .ref q2, .ref q6, .ref q7, .ref q8, .ref q9, .null, .null, .null, .null, .null, .null, .null, .null, .null, .null, .null, .null, .int 0, .int 0, .int 0, .int 0, .long 0, .long 0, .long 0, .long 0, .long 0, .null, .int 0, .int 0, .int 0, .int 0])), (q1, .inl (cq1, 8192, .inl (fun _ => 0))), (q3, .inl (cq3, 24, .inl (fun _ => 0))), (q4, .inl (cq4, 8, .inl (fun _ => 0))), (q5, .inl (cq5, 8, .inl (fun _ => 0)))] H := hP
  have hD : va_D A [(h0, .inr (7, [.int 0, .int 0, .int 0, .int 0, .int 0, .int 0, .int 0, .int 0, .int 0, .int 0, .int 0, .int 0, .int 0, .int 0, .int 0, .int 0, .ref q1, .ref q3, .ref q4, .ref q5, .int 0, .ref q2, .ref q6, .ref q7, .ref q8, .ref q9, .null, .null, .null, .null, .null, .null, .null, .null, .null, .null, .null, .null, .int 0, .int 0, .int 0, .int 0, .long 0, .long 0, .long 0, .long 0, .long 0, .null, .int 0, .int 0, .int 0, .int 0])), (q1, .inl (cq1, 8192, .inl (fun _ => 0))), (q3, .inl (cq3, 24, .inl (fun _ => 0))), (q4, .inl (cq4, 8, .inl (fun _ => 0))), (q5, .inl (cq5, 8, .inl (fun _ => 0)))] := hD
  refine lv_aload_n hx hb d_Mo_init_81 rfl (lv_at hl 0 rfl) ?_
  refine lv_sipush (v := 512) hx hb d_Mo_init_82 (by decide) ?_
  refine x_newa (atype := .int) (ty := .int) (n := 512) (N' := 512) (a0 := (512, .inl (fun _ => 0))) hx hb (hts _ w_43) rfl hK hP hD hS hA (fun _ => rfl) (by decide) (by decide) (by decide) (Nat.le_of_ble_eq_true rfl) (Nat.le_of_ble_eq_true rfl) d_Mo_init_85 (fun q10 H hP hD hS => ?_)
  refine W.widen (k := 10) (n := 76328) (by omega) (by omega) ?_
  refine va_putF (D := D) (ci := 7) (v := .ref q10) (ty := .array .int) (C := R_Mo) (T := F_Mo) (N := 52) hx hb hts i_Mo t_Mo t_Mo_ok n_Mo hown hK hP hD hS 0 rfl rfl 26 (by decide) (hts _ w_410) (fun _ h9 => h9) rfl hin rfl (by decide +kernel) rfl rfl (Nat.le_of_ble_eq_true rfl) d_Mo_init_87 (fun H locs hP hD hS => ?_)
  have hP : va_P D cls [(h0, .inr (7, [.int 0, .int 0, .int 0, .int 0, .int 0, .int 0, .int 0, .int 0, .int 0, .int 0, .int 0, .int 0, .int 0, .int 0, .int 0, .int 0, .ref q1, .ref q3, .ref q4, .ref q5, .int 0, .ref q2, .ref q6, .ref q7, .ref q8, .ref q9, .ref q10, .null, .null, .null, .null, .null, .null, .null, .null, .null, .null, .null, .int 0, .int 0, .int 0, .int 0, .long 0, .long 0, .long 0, .long 0, .long 0, .null, .int 0, .int 0, .int 0, .int 0])), (q1, .inl (cq1, 8192, .inl (fun _ => 0))), (q3, .inl (cq3, 24, .inl (fun _ => 0))), (q4, .inl (cq4, 8, .inl (fun _ => 0))), (q5, .inl (cq5, 8, .inl (fun _ => 0)))] H := hP
  have hD : va_D A [(h0, .inr (7, [.int 0, .int 0, .int 0, .int 0, .int 0, .int 0, .int 0, .int 0, .int 0, .int 0, .int 0, .int 0, .int 0, .int 0, .int 0, .int 0, .ref q1, .ref q3, .ref q4, .ref q5, .int 0, .ref q2, .ref q6, .ref q7, .ref q8, .ref q9, .ref q10, .null, .null, .null, .null, .null, .null, .null, .null, .null, .null, .null, .int 0, .int 0, .int 0, .int 0, .long 0, .long 0, .long 0, .long 0, .long 0, .null, .int 0, .int 0, .int 0, .int 0])), (q1, .inl (cq1, 8192, .inl (fun _ => 0))), (q3, .inl (cq3, 24, .inl (fun _ => 0))), (q4, .inl (cq4, 8, .inl (fun _ => 0))), (q5, .inl (cq5, 8, .inl (fun _ => 0)))] := hD
  refine lv_aload_n hx hb d_Mo_init_90 rfl (lv_at hl 0 rfl) ?_
  refine lv_sipush (v := 512) hx hb d_Mo_init_91 (by decide) ?_
  refine x_newa (atype := .int) (ty := .int) (n := 512) (N' := 512) (a0 := (512, .inl (fun _ => 0))) hx hb (hts _ w_43) rfl hK hP hD hS hA (fun _ => rfl) (by decide) (by decide) (by decide) (Nat.le_of_ble_eq_true rfl) (Nat.le_of_ble_eq_true rfl) d_Mo_init_94 (fun q11 H hP hD hS => ?_)
  refine W.widen (k := 11) (n := 76840) (by omega) (by omega) ?_
  refine va_putF (D := D) (ci := 7) (v := .ref q11) (ty := .array .int) (C := R_Mo) (T := F_Mo) (N := 52) hx hb hts i_Mo t_Mo t_Mo_ok n_Mo hown hK hP hD hS 0 rfl rfl 27 (by decide) (hts _ w_411) (fun _ h9 => h9) rfl hin rfl (by decide +kernel) rfl rfl (Nat.le_of_ble_eq_true rfl) d_Mo_init_96 (fun H locs hP hD hS => ?_)
  have hP : va_P D cls [(h0, .inr (7, [.int 0, .int 0, .int 0, .int 0, .int 0, .int 0, .int 0, .int 0, .int 0, .int 0, .int 0, .int 0, .int 0, .int 0, .int 0, .int 0, .ref q1, .ref q3, .ref q4, .ref q5, .int 0, .ref q2, .ref q6, .ref q7, .ref q8, .ref q9, .ref q10, .ref q11, .null, .null, .null, .null, .null, .null, .null, .null, .null, .null, .int 0, .int 0, .int 0, .int 0, .long 0, .long 0, .long 0, .long 0, .long 0, .null, .int 0, .int 0, .int 0, .int 0])), (q1, .inl (cq1, 8192, .inl (fun _ => 0))), (q3, .inl (cq3, 24, .inl (fun _ => 0))), (q4, .inl (cq4, 8, .inl (fun _ => 0))), (q5, .inl (cq5, 8, .inl (fun _ => 0)))] H := hP
  have hD : va_D A [(h0, .inr (7, [.int 0, .int 0, .int 0, .int 0, .int 0, .int 0, .int 0, .int 0, .int 0, .int 0, .int 0, .int 0, .int 0, .int 0, .int 0, .int 0, .ref q1, .ref q3, .ref q4, .ref q5, .int 0, .ref q2, .ref q6, .ref q7, .ref q8, .ref q9, .ref q10, .ref q11, .null, .null, .null, .null, .null, .null, .null, .null, .null, .null, .int 0, .int 0, .int 0, .int 0, .long 0, .long 0, .long 0, .long 0, .long 0, .null, .int 0, .int 0, .int 0, .int 0])), (q1, .inl (cq1, 8192, .inl (fun _ => 0))), (q3, .inl (cq3, 24, .inl (fun _ => 0))), (q4, .inl (cq4, 8, .inl (fun _ => 0))), (q5, .inl (cq5, 8, .inl (fun _ => 0)))] := hD
  refine lv_aload_n hx hb d_Mo_init_99 rfl (lv_at hl 0 rfl) ?_
  refine lv_sipush (v := 512) hx hb d_Mo_init_100 (by decide) ?_
  refine x_newa (atype := .boolean) (ty := .boolean) (n := 512) (N' := 512) (a0 := (512, .inl (fun _ => 0))) hx hb (hts _ w_74) rfl hK hP hD hS hA (fun _ => rfl) (by decide) (by decide) (by decide) (Nat.le_of_ble_eq_true rfl) (Nat.le_of_ble_eq_true rfl) d_Mo_init_103 (fun q12 H hP hD hS => ?_)
  refine W.widen (k := 12) (n := 77352) (by omega) (by omega) ?_
  refine va_putF (D := D) (ci := 7) (v := .ref q12) (ty := .array .boolean) (C := R_Mo) (T := F_Mo) (N := 52) hx hb hts i_Mo t_Mo t_Mo_ok n_Mo hown hK hP hD hS 0 rfl rfl 28 (by decide) (hts _ w_412) (fun _ h9 => h9) rfl hin rfl (by decide +kernel) rfl rfl (Nat.le_of_ble_eq_true rfl) d_Mo_init_105 (fun H locs hP hD hS => ?_)
  have hP : va_P D cls [(h0, .inr (7, [.int 0, .int 0, .int 0, .int 0, .int 0, .int 0, .int 0, .int 0, .int 0, .int 0, .int 0, .int 0, .int 0, .int 0, .int 0, .int 0, .ref q1, .ref q3, .ref q4, .ref q5, .int 0, .ref q2, .ref q6, .ref q7, .ref q8, .ref q9, .ref q10, .ref q11, .ref q12, .null, .null, .null, .null, .null, .null, .null, .null, .null, .int 0, .int 0, .int 0, .int 0, .long 0, .long 0, .long 0, .long 0, .long 0, .null, .int 0, .int 0, .int 0, .int 0])), (q1, .inl (cq1, 8192, .inl (fun _ => 0))), (q3, .inl (cq3, 24, .inl (fun _ => 0))), (q4, .inl (cq4, 8, .inl (fun _ => 0))), (q5, .inl (cq5, 8, .inl (fun _ => 0)))] H := hP
  have hD : va_D A [(h0, .inr (7, [.int 0, .int 0, .int 0, .int 0, .int 0, .int 0, .int 0, .int 0, .int 0, .int 0, .int 0, .int 0, .int 0, .int 0, .int 0, .int 0, .ref q1, .ref q3, .ref q4, .ref q5, .int 0, .ref q2, .ref q6, .ref q7, .ref q8, .ref q9, .ref q10, .ref q11, .ref q12, .null, .null, .null, .null, .null, .null, .null, .null, .null, .int 0, .int 0, .int 0, .int 0, .long 0, .long 0, .long 0, .long 0, .long 0, .null, .int 0, .int 0, .int 0, .int 0])), (q1, .inl (cq1, 8192, .inl (fun _ => 0))), (q3, .inl (cq3, 24, .inl (fun _ => 0))), (q4, .inl (cq4, 8, .inl (fun _ => 0))), (q5, .inl (cq5, 8, .inl (fun _ => 0)))] := hD
  refine lv_aload_n hx hb d_Mo_init_108 rfl (lv_at hl 0 rfl) ?_
  refine lv_sipush (v := 2048) hx hb d_Mo_init_109 (by decide) ?_
  refine x_newa (atype := .int) (ty := .int) (n := 2048) (N' := 2048) (a0 := (2048, .inl (fun _ => 0))) hx hb (hts _ w_43) rfl hK hP hD hS hA (fun _ => rfl) (by decide) (by decide) (by decide) (Nat.le_of_ble_eq_true rfl) (Nat.le_of_ble_eq_true rfl) d_Mo_init_112 (fun q13 H hP hD hS => ?_)
  refine W.widen (k := 13) (n := 79400) (by omega) (by omega) ?_
  refine va_putF (D := D) (ci := 7) (v := .ref q13) (ty := .array .int) (C := R_Mo) (T := F_Mo) (N := 52) hx hb hts i_Mo t_Mo t_Mo_ok n_Mo hown hK hP hD hS 0 rfl rfl 29 (by decide) (hts _ w_413) (fun _ h9 => h9) rfl hin rfl (by decide +kernel) rfl rfl (Nat.le_of_ble_eq_true rfl) d_Mo_init_114 (fun H locs hP hD hS => ?_)
  have hP : va_P D cls [(h0, .inr (7, [.int 0, .int 0, .int 0, .int 0, .int 0, .int 0, .int 0, .int 0, .int 0, .int 0, .int 0, .int 0, .int 0, .int 0, .int 0, .int 0, .ref q1, .ref q3, .ref q4, .ref q5, .int 0, .ref q2, .ref q6, .ref q7, .ref q8, .ref q9, .ref q10, .ref q11, .ref q12, .ref q13, .null, .null, .null, .null, .null, .null, .null, .null, .int 0, .int 0, .int 0, .int 0, .long 0, .long 0, .long 0, .long 0, .long 0, .null, .int 0, .int 0, .int 0, .int 0])), (q1, .inl (cq1, 8192, .inl (fun _ => 0))), (q3, .inl (cq3, 24, .inl (fun _ => 0))), (q4, .inl (cq4, 8, .inl (fun _ => 0))), (q5, .inl (cq5, 8, .inl (fun _ => 0)))] H := hP
  have hD : va_D A [(h0, .inr (7, [.int 0, .int 0, .int 0, .int 0, .int 0, .int 0, .int 0, .int 0, .int 0, .int 0, .int 0, .int 0, .int 0, .int 0, .int 0, .int 0, .ref q1, .ref q3, .ref q4, .ref q5, .int 0, .ref q2, .ref q6, .ref q7, .ref q8, .ref q9, .ref q10, .ref q11, .ref q12, .ref q13, .null, .null, .null, .null, .null, .null, .null, .null, .int 0, .int 0, .int 0, .int 0, .long 0, .long 0, .long 0, .long 0, .long 0, .null, .int 0, .int 0, .int 0, .int 0])), (q1, .inl (cq1, 8192, .inl (fun _ => 0))), (q3, .inl (cq3, 24, .inl (fun _ => 0))), (q4, .inl (cq4, 8, .inl (fun _ => 0))), (q5, .inl (cq5, 8, .inl (fun _ => 0)))] := hD
  refine lv_aload_n hx hb d_Mo_init_117 rfl (lv_at hl 0 rfl) ?_
  refine lv_sipush (v := 2048) hx hb d_Mo_init_118 (by decide) ?_
  refine x_newa (atype := .int) (ty := .int) (n := 2048) (N' := 2048) (a0 := (2048, .inl (fun _ => 0))) hx hb (hts _ w_43) rfl hK hP hD hS hA (fun _ => rfl) (by decide) (by decide) (by decide) (Nat.le_of_ble_eq_true rfl) (Nat.le_of_ble_eq_true rfl) d_Mo_init_121 (fun q14 H hP hD hS => ?_)
  refine W.widen (k := 14) (n := 81448) (by omega) (by omega) ?_
  refine va_putF (D := D) (ci := 7) (v := .ref q14) (ty := .array .int) (C := R_Mo) (T := F_Mo) (N := 52) hx hb hts i_Mo t_Mo t_Mo_ok n_Mo hown hK hP hD hS 0 rfl rfl 30 (by decide) (hts _ w_414) (fun _ h9 => h9) rfl hin rfl (by decide +kernel) rfl rfl (Nat.le_of_ble_eq_true rfl) d_Mo_init_123 (fun H locs hP hD hS => ?_)
  have hP : va_P D cls [(h0, .inr (7, [.int 0, .int 0, .int 0, .int 0, .int 0, .int 0, .int 0, .int 0, .int 0, .int 0, .int 0, .int 0, .int 0, .int 0, .int 0, .int 0, .ref q1, .ref q3, .ref q4, .ref q5, .int 0, .ref q2, .ref q6, .ref q7, .ref q8, .ref q9, .ref q10, .ref q11, .ref q12, .ref q13, .ref q14, .null, .null, .null, .null, .null, .null, .null, .int 0, .int 0, .int 0, .int 0, .long 0, .long 0, .long 0, .long 0, .long 0, .null, .int 0, .int 0, .int 0, .int 0])), (q1, .inl (cq1, 8192, .inl (fun _ => 0))), (q3, .inl (cq3, 24, .inl (fun _ => 0))), (q4, .inl (cq4, 8, .inl (fun _ => 0))), (q5, .inl (cq5, 8, .inl (fun _ => 0)))] H := hP
  have hD : va_D A [(h0, .inr (7, [.int 0, .int 0, .int 0, .int 0, .int 0, .int 0, .int 0, .int 0, .int 0, .int 0, .int 0, .int 0, .int 0, .int 0, .int 0, .int 0, .ref q1, .ref q3, .ref q4, .ref q5, .int 0, .ref q2, .ref q6, .ref q7, .ref q8, .ref q9, .ref q10, .ref q11, .ref q12, .ref q13, .ref q14, .null, .null, .null, .null, .null, .null, .null, .int 0, .int 0, .int 0, .int 0, .long 0, .long 0, .long 0, .long 0, .long 0, .null, .int 0, .int 0, .int 0, .int 0])), (q1, .inl (cq1, 8192, .inl (fun _ => 0))), (q3, .inl (cq3, 24, .inl (fun _ => 0))), (q4, .inl (cq4, 8, .inl (fun _ => 0))), (q5, .inl (cq5, 8, .inl (fun _ => 0)))] := hD
  refine lv_aload_n hx hb d_Mo_init_126 rfl (lv_at hl 0 rfl) ?_
  refine lv_sipush (v := 2048) hx hb d_Mo_init_127 (by decide) ?_
  refine x_newa (atype := .int) (ty := .int) (n := 2048) (N' := 2048) (a0 := (2048, .inl (fun _ => 0))) hx hb (hts _ w_43) rfl hK hP hD hS hA (fun _ => rfl) (by decide) (by decide) (by decide) (Nat.le_of_ble_eq_true rfl) (Nat.le_of_ble_eq_true rfl) d_Mo_init_130 (fun q15 H hP hD hS => ?_)
  refine W.widen (k := 15) (n := 83496) (by omega) (by omega) ?_
  refine va_putF (D := D) (ci := 7) (v := .ref q15) (ty := .array .int) (C := R_Mo) (T := F_Mo) (N := 52) hx hb hts i_Mo t_Mo t_Mo_ok n_Mo hown hK hP hD hS 0 rfl rfl 31 (by decide) (hts _ w_415) (fun _ h9 => h9) rfl hin rfl (by decide +kernel) rfl rfl (Nat.le_of_ble_eq_true rfl) d_Mo_init_132 (fun H locs hP hD hS => ?_)
  have hP : va_P D cls [(h0, .inr (7, [.int 0, .int 0, .int 0, .int 0, .int 0, .int 0, .int 0, .int 0, .int 0, .int 0, .int 0, .int 0, .int 0, .int 0, .int 0, .int 0, .ref q1, .ref q3, .ref q4, .ref q5, .int 0, .ref q2, .ref q6, .ref q7, .ref q8, .ref q9, .ref q10, .ref q11, .ref q12, .ref q13, .ref q14, .ref q15, .null, .null, .null, .null, .null, .null, .int 0, .int 0, .int 0, .int 0, .long 0, .long 0, .long 0, .long 0, .long 0, .null, .int 0, .int 0, .int 0, .int 0])), (q1, .inl (cq1, 8192, .inl (fun _ => 0))), (q3, .inl (cq3, 24, .inl (fun _ => 0))), (q4, .inl (cq4, 8, .inl (fun _ => 0))), (q5, .inl (cq5, 8, .inl (fun _ => 0)))] H := hP
  have hD : va_D A [(h0, .inr (7, [.int 0, .int 0, .int 0, .int 0, .int 0, .int 0, .int 0, .int 0, .int 0, .int 0, .int 0, .int 0, .int 0, .int 0, .int 0, .int 0, .ref q1, .ref q3, .ref q4, .ref q5, .int 0, .ref q2, .ref q6, .ref q7, .ref q8, .ref q9, .ref q10, .ref q11, .ref q12, .ref q13, .ref q14, .ref q15, .null, .null, .null, .null, .null, .null, .int 0, .int 0, .int 0, .int 0, .long 0, .long 0, .long 0, .long 0, .long 0, .null, .int 0, .int 0, .int 0, .int 0])), (q1, .inl (cq1, 8192, .inl (fun _ => 0))), (q3, .inl (cq3, 24, .inl (fun _ => 0))), (q4, .inl (cq4, 8, .inl (fun _ => 0))), (q5, .inl (cq5, 8, .inl (fun _ => 0)))] := hD
  refine lv_aload_n hx hb d_Mo_init_135 rfl (lv_at hl 0 rfl) ?_
  refine lv_sipush (v := 2048) hx hb d_Mo_init_136 (by decide) ?_
  refine x_newa (atype := .int) (ty := .int) (n := 2048) (N' := 2048) (a0 := (2048, .inl (fun _ => 0))) hx hb (hts _ w_43) rfl hK hP hD hS hA (fun _ => rfl) (by decide) (by decide) (by decide) (Nat.le_of_ble_eq_true rfl) (Nat.le_of_ble_eq_true rfl) d_Mo_init_139 (fun q16 H hP hD hS => ?_)
  refine W.widen (k := 16) (n := 85544) (by omega) (by omega) ?_
  refine va_putF (D := D) (ci := 7) (v := .ref q16) (ty := .array .int) (C := R_Mo) (T := F_Mo) (N := 52) hx hb hts i_Mo t_Mo t_Mo_ok n_Mo hown hK hP hD hS 0 rfl rfl 32 (by decide) (hts _ w_416) (fun _ h9 => h9) rfl hin rfl (by decide +kernel) rfl rfl (Nat.le_of_ble_eq_true rfl) d_Mo_init_141 (fun H locs hP hD hS => ?_)
  have hP : va_P D cls [(h0, .inr (7, [.int 0, .int 0, .int 0, .int 0, .int 0, .int 0, .int 0, .int 0, .int 0, .int 0, .int 0, .int 0, .int 0, .int 0, .int 0, .int 0, .ref q1, .ref q3, .ref q4, .ref q5, .int 0, .ref q2, .ref q6, .ref q7, .ref q8, .ref q9, .ref q10, .ref q11, .ref q12, .ref q13, .ref q14, .ref q15, .ref q16, .null, .null, .null, .null, .null, .int 0, .int 0, .int 0, .int 0, .long 0, .long 0, .long 0, .long 0, .long 0, .null, .int 0, .int 0, .int 0, .int 0])), (q1, .inl (cq1, 8192, .inl (fun _ => 0))), (q3, .inl (cq3, 24, .inl (fun _ => 0))), (q4, .inl (cq4, 8, .inl (fun _ => 0))), (q5, .inl (cq5, 8, .inl (fun _ => 0)))] H := hP
  have hD : va_D A [(h0, .inr (7, [.int 0, .int 0, .int 0, .int 0, .int 0, .int 0, .int 0, .int 0, .int 0, .int 0, .int 0, .int 0, .int 0, .int 0, .int 0, .int 0, .ref q1, .ref q3, .ref q4, .ref q5, .int 0, .ref q2, .ref q6, .ref q7, .ref q8, .ref q9, .ref q10, .ref q11, .ref q12, .ref q13, .ref q14, .ref q15, .ref q16, .null, .null, .null, .null, .null, .int 0, .int 0, .int 0, .int 0, .long 0, .long 0, .long 0, .long 0, .long 0, .null, .int 0, .int 0, .int 0, .int 0])), (q1, .inl (cq1, 8192, .inl (fun _ => 0))), (q3, .inl (cq3, 24, .inl (fun _ => 0))), (q4, .inl (cq4, 8, .inl (fun _ => 0))), (q5, .inl (cq5, 8, .inl (fun _ => 0)))] := hD
  refine lv_aload_n hx hb d_Mo_init_144 rfl (lv_at hl 0 rfl) ?_
  refine lv_sipush (v := 2048) hx hb d_Mo_init_145 (by decide) ?_
  refine x_newa (atype := .int) (ty := .int) (n := 2048) (N' := 2048) (a0 := (2048, .inl (fun _ => 0))) hx hb (hts _ w_43) rfl hK hP hD hS hA (fun _ => rfl) (by decide) (by decide) (by decide) (Nat.le_of_ble_eq_true rfl) (Nat.le_of_ble_eq_true rfl) d_Mo_init_148 (fun q17 H hP hD hS => ?_)
  refine W.widen (k := 17) (n := 87592) (by omega) (by omega) ?_
  refine va_putF (D := D) (ci := 7) (v := .ref q17) (ty := .array .int) (C := R_Mo) (T := F_Mo) (N := 52) hx hb hts i_Mo t_Mo t_Mo_ok n_Mo hown hK hP hD hS 0 rfl rfl 33 (by decide) (hts _ w_417) (fun _ h9 => h9) rfl hin rfl (by decide +kernel) rfl rfl (Nat.le_of_ble_eq_true rfl) d_Mo_init_150 (fun H locs hP hD hS => ?_)
  have hP : va_P D cls [(h0, .inr (7, [.int 0, .int 0, .int 0, .int 0, .int 0, .int 0, .int 0, .int 0, .int 0, .int 0, .int 0, .int 0, .int 0, .int 0, .int 0, .int 0, .ref q1, .ref q3, .ref q4, .ref q5, .int 0, .ref q2, .ref q6, .ref q7, .ref q8, .ref q9, .ref q10, .ref q11, .ref q12, .ref q13, .ref q14, .ref q15, .ref q16, .ref q17, .null, .null, .null, .null, .int 0, .int 0, .int 0, .int 0, .long 0, .long 0, .long 0, .long 0, .long 0, .null, .int 0, .int 0, .int 0, .int 0])), (q1, .inl (cq1, 8192, .inl (fun _ => 0))), (q3, .inl (cq3, 24, .inl (fun _ => 0))), (q4, .inl (cq4, 8, .inl (fun _ => 0))), (q5, .inl (cq5, 8, .inl (fun _ => 0)))] H := hP
  have hD : va_D A [(h0, .inr (7, [.int 0, .int 0, .int 0, .int 0, .int 0, .int 0, .int 0, .int 0, .int 0, .int 0, .int 0, .int 0, .int 0, .int 0, .int 0, .int 0, .ref q1, .ref q3, .ref q4, .ref q5, .int 0, .ref q2, .ref q6, .ref q7, .ref q8, .ref q9, .ref q10, .ref q11, .ref q12, .ref q13, .ref q14, .ref q15, .ref q16, .ref q17, .null, .null, .null, .null, .int 0, .int 0, .int 0, .int 0, .long 0, .long 0, .long 0, .long 0, .long 0, .null, .int 0, .int 0, .int 0, .int 0])), (q1, .inl (cq1, 8192, .inl (fun _ => 0))), (q3, .inl (cq3, 24, .inl (fun _ => 0))), (q4, .inl (cq4, 8, .inl (fun _ => 0))), (q5, .inl (cq5, 8, .inl (fun _ => 0)))] := hD
  refine lv_aload_n hx hb d_Mo_init_153 rfl (lv_at hl 0 rfl) ?_
  refine lv_sipush (v := 256) hx hb d_Mo_init_154 (by decide) ?_
  refine x_newa (atype := .int) (ty := .int) (n := 256) (N' := 256) (a0 := (256, .inl (fun _ => 0))) hx hb (hts _ w_43) rfl hK hP hD hS hA (fun _ => rfl) (by decide) (by decide) (by decide) (Nat.le_of_ble_eq_true rfl) (Nat.le_of_ble_eq_true rfl) d_Mo_init_157 (fun q18 H hP hD hS => ?_)
  refine W.widen (k := 18) (n := 87848) (by omega) (by omega) ?_
  refine va_putF (D := D) (ci := 7) (v := .ref q18) (ty := .array .int) (C := R_Mo) (T := F_Mo) (N := 52) hx hb hts i_Mo t_Mo t_Mo_ok n_Mo hown hK hP hD hS 0 rfl rfl 34 (by decide) (hts _ w_418) (fun _ h9 => h9) rfl hin rfl (by decide +kernel) rfl rfl (Nat.le_of_ble_eq_true rfl) d_Mo_init_159 (fun H locs hP hD hS => ?_)
  have hP : va_P D cls [(h0, .inr (7, [.int 0, .int 0, .int 0, .int 0, .int 0, .int 0, .int 0, .int 0, .int 0, .int 0, .int 0, .int 0, .int 0, .int 0, .int 0, .int 0, .ref q1, .ref q3, .ref q4, .ref q5, .int 0, .ref q2, .ref q6, .ref q7, .ref q8, .ref q9, .ref q10, .ref q11, .ref q12, .ref q13, .ref q14, .ref q15, .ref q16, .ref q17, .ref q18, .null, .null, .null, .int 0, .int 0, .int 0, .int 0, .long 0, .long 0, .long 0, .long 0, .long 0, .null, .int 0, .int 0, .int 0, .int 0])), (q1, .inl (cq1, 8192, .inl (fun _ => 0))), (q3, .inl (cq3, 24, .inl (fun _ => 0))), (q4, .inl (cq4, 8, .inl (fun _ => 0))), (q5, .inl (cq5, 8, .inl (fun _ => 0)))] H := hP
  have hD : va_D A [(h0, .inr (7, [.int 0, .int 0, .int 0, .int 0, .int 0, .int 0, .int 0, .int 0, .int 0, .int 0, .int 0, .int 0, .int 0, .int 0, .int 0, .int 0, .ref q1, .ref q3, .ref q4, .ref q5, .int 0, .ref q2, .ref q6, .ref q7, .ref q8, .ref q9, .ref q10, .ref q11, .ref q12, .ref q13, .ref q14, .ref q15, .ref q16, .ref q17, .ref q18, .null, .null, .null, .int 0, .int 0, .int 0, .int 0, .long 0, .long 0, .long 0, .long 0, .long 0, .null, .int 0, .int 0, .int 0, .int 0])), (q1, .inl (cq1, 8192, .inl (fun _ => 0))), (q3, .inl (cq3, 24, .inl (fun _ => 0))), (q4, .inl (cq4, 8, .inl (fun _ => 0))), (q5, .inl (cq5, 8, .inl (fun _ => 0)))] := hD
  refine lv_aload_n hx hb d_Mo_init_162 rfl (lv_at hl 0 rfl) ?_
  refine lv_iconst (v := (-1)) hx hb d_Mo_init_163 (by decide) ?_
  refine va_put (D := D) (ci := 7) (v := .int (-1)) (ty := .int) (C := R_Mo) (T := F_Mo) (N := 52) hx hb hts i_Mo t_Mo t_Mo_ok n_Mo hown hK hP hD hS 0 rfl rfl 6 (by decide) (hts _ w_422) (fun _ h9 => h9) rfl (by decide +kernel) rfl rfl (Nat.le_of_ble_eq_true rfl) d_Mo_init_164 (fun H locs hP hD hS => ?_)
  have hP : va_P D cls [(h0, .inr (7, [.int 0, .int 0, .int 0, .int 0, .int 0, .int 0, .int (-1), .int 0, .int 0, .int 0, .int 0, .int 0, .int 0, .int 0, .int 0, .int 0, .ref q1, .ref q3, .ref q4, .ref q5, .int 0, .ref q2, .ref q6, .ref q7, .ref q8, .ref q9, .ref q10, .ref q11, .ref q12, .ref q13, .ref q14, .ref q15, .ref q16, .ref q17, .ref q18, .null, .null, .null, .int 0, .int 0, .int 0, .int 0, .long 0, .long 0, .long 0, .long 0, .long 0, .null, .int 0, .int 0, .int 0, .int 0])), (q1, .inl (cq1, 8192, .inl (fun _ => 0))), (q3, .inl (cq3, 24, .inl (fun _ => 0))), (q4, .inl (cq4, 8, .inl (fun _ => 0))), (q5, .inl (cq5, 8, .inl (fun _ => 0)))] H := hP
  have hD : va_D A [(h0, .inr (7, [.int 0, .int 0, .int 0, .int 0, .int 0, .int 0, .int (-1), .int 0, .int 0, .int 0, .int 0, .int 0, .int 0, .int 0, .int 0, .int 0, .ref q1, .ref q3, .ref q4, .ref q5, .int 0, .ref q2, .ref q6, .ref q7, .ref q8, .ref q9, .ref q10, .ref q11, .ref q12, .ref q13, .ref q14, .ref q15, .ref q16, .ref q17, .ref q18, .null, .null, .null, .int 0, .int 0, .int 0, .int 0, .long 0, .long 0, .long 0, .long 0, .long 0, .null, .int 0, .int 0, .int 0, .int 0])), (q1, .inl (cq1, 8192, .inl (fun _ => 0))), (q3, .inl (cq3, 24, .inl (fun _ => 0))), (q4, .inl (cq4, 8, .inl (fun _ => 0))), (q5, .inl (cq5, 8, .inl (fun _ => 0)))] := hD
  refine lv_aload_n hx hb d_Mo_init_167 rfl (lv_at hl 0 rfl) ?_
  refine lv_iconst (v := (-1)) hx hb d_Mo_init_168 (by decide) ?_
  refine va_put (D := D) (ci := 7) (v := .int (-1)) (ty := .int) (C := R_Mo) (T := F_Mo) (N := 52) hx hb hts i_Mo t_Mo t_Mo_ok n_Mo hown hK hP hD hS 0 rfl rfl 7 (by decide) (hts _ w_423) (fun _ h9 => h9) rfl (by decide +kernel) rfl rfl (Nat.le_of_ble_eq_true rfl) d_Mo_init_169 (fun H locs hP hD hS => ?_)
  have hP : va_P D cls [(h0, .inr (7, [.int 0, .int 0, .int 0, .int 0, .int 0, .int 0, .int (-1), .int (-1), .int 0, .int 0, .int 0, .int 0, .int 0, .int 0, .int 0, .int 0, .ref q1, .ref q3, .ref q4, .ref q5, .int 0, .ref q2, .ref q6, .ref q7, .ref q8, .ref q9, .ref q10, .ref q11, .ref q12, .ref q13, .ref q14, .ref q15, .ref q16, .ref q17, .ref q18, .null, .null, .null, .int 0, .int 0, .int 0, .int 0, .long 0, .long 0, .long 0, .long 0, .long 0, .null, .int 0, .int 0, .int 0, .int 0])), (q1, .inl (cq1, 8192, .inl (fun _ => 0))), (q3, .inl (cq3, 24, .inl (fun _ => 0))), (q4, .inl (cq4, 8, .inl (fun _ => 0))), (q5, .inl (cq5, 8, .inl (fun _ => 0)))] H := hP
  have hD : va_D A [(h0, .inr (7, [.int 0, .int 0, .int 0, .int 0, .int 0, .int 0, .int (-1), .int (-1), .int 0, .int 0, .int 0, .int 0, .int 0, .int 0, .int 0, .int 0, .ref q1, .ref q3, .ref q4, .ref q5, .int 0, .ref q2, .ref q6, .ref q7, .ref q8, .ref q9, .ref q10, .ref q11, .ref q12, .ref q13, .ref q14, .ref q15, .ref q16, .ref q17, .ref q18, .null, .null, .null, .int 0, .int 0, .int 0, .int 0, .long 0, .long 0, .long 0, .long 0, .long 0, .null, .int 0, .int 0, .int 0, .int 0])), (q1, .inl (cq1, 8192, .inl (fun _ => 0))), (q3, .inl (cq3, 24, .inl (fun _ => 0))), (q4, .inl (cq4, 8, .inl (fun _ => 0))), (q5, .inl (cq5, 8, .inl (fun _ => 0)))] := hD
  refine lv_aload_n hx hb d_Mo_init_172 rfl (lv_at hl 0 rfl) ?_
  refine lv_ldc (v := 32768) hx hb hown (hts _ w_396) d_Mo_init_173 ?_
  refine x_newa (atype := .byte) (ty := .byte) (n := 32768) (N' := 32768) (a0 := (32768, .inl (fun _ => 0))) hx hb (hts _ w_42) rfl hK hP hD hS hA (fun _ => rfl) (by decide) (by decide) (by decide) (Nat.le_of_ble_eq_true rfl) (Nat.le_of_ble_eq_true rfl) d_Mo_init_175 (fun q19 H hP hD hS => ?_)
  refine W.widen (k := 19) (n := 120616) (by omega) (by omega) ?_
  refine va_putF (D := D) (ci := 7) (v := .ref q19) (ty := .array .byte) (C := R_Mo) (T := F_Mo) (N := 52) hx hb hts i_Mo t_Mo t_Mo_ok n_Mo hown hK hP hD hS 0 rfl rfl 35 (by decide) (hts _ w_427) (fun _ h9 => h9) rfl hin rfl (by decide +kernel) rfl rfl (Nat.le_of_ble_eq_true rfl) d_Mo_init_177 (fun H locs hP hD hS => ?_)
  have hP : va_P D cls [(h0, .inr (7, [.int 0, .int 0, .int 0, .int 0, .int 0, .int 0, .int (-1), .int (-1), .int 0, .int 0, .int 0, .int 0, .int 0, .int 0, .int 0, .int 0, .ref q1, .ref q3, .ref q4, .ref q5, .int 0, .ref q2, .ref q6, .ref q7, .ref q8, .ref q9, .ref q10, .ref q11, .ref q12, .ref q13, .ref q14, .ref q15, .ref q16, .ref q17, .ref q18, .ref q19, .null, .null, .int 0, .int 0, .int 0, .int 0, .long 0, .long 0, .long 0, .long 0, .long 0, .null, .int 0, .int 0, .int 0, .int 0])), (q1, .inl (cq1, 8192, .inl (fun _ => 0))), (q3, .inl (cq3, 24, .inl (fun _ => 0))), (q4, .inl (cq4, 8, .inl (fun _ => 0))), (q5, .inl (cq5, 8, .inl (fun _ => 0)))] H := hP
  have hD : va_D A [(h0, .inr (7, [.int 0, .int 0, .int 0, .int 0, .int 0, .int 0, .int (-1), .int (-1), .int 0, .int 0, .int 0, .int 0, .int 0, .int 0, .int 0, .int 0, .ref q1, .ref q3, .ref q4, .ref q5, .int 0, .ref q2, .ref q6, .ref q7, .ref q8, .ref q9, .ref q10, .ref q11, .ref q12, .ref q13, .ref q14, .ref q15, .ref q16, .ref q17, .ref q18, .ref q19, .null, .null, .int 0, .int 0, .int 0, .int 0, .long 0, .long 0, .long 0, .long 0, .long 0, .null, .int 0, .int 0, .int 0, .int 0])), (q1, .inl (cq1, 8192, .inl (fun _ => 0))), (q3, .inl (cq3, 24, .inl (fun _ => 0))), (q4, .inl (cq4, 8, .inl (fun _ => 0))), (q5, .inl (cq5, 8, .inl (fun _ => 0)))] := hD
  refine lv_aload_n hx hb d_Mo_init_180 rfl (lv_at hl 0 rfl) ?_
  refine lv_bipush (v := 24) hx hb d_Mo_init_181 (by decide) ?_
  refine x_newa (atype := .int) (ty := .int) (n := 24) (N' := 24) (a0 := (24, .inl (fun _ => 0))) hx hb (hts _ w_43) rfl hK hP hD hS hA (fun _ => rfl) (by decide) (by decide) (by decide) (Nat.le_of_ble_eq_true rfl) (Nat.le_of_ble_eq_true rfl) d_Mo_init_183 (fun q20 H hP hD hS => ?_)
  refine W.widen (k := 20) (n := 120640) (by omega) (by omega) ?_
  refine va_putF (D := D) (ci := 7) (v := .ref q20) (ty := .array .int) (C := R_Mo) (T := F_Mo) (N := 52) hx hb hts i_Mo t_Mo t_Mo_ok n_Mo hown hK hP hD hS 0 rfl rfl 36 (by decide) (hts _ w_428) (fun _ h9 => h9) rfl hin rfl (by decide +kernel) rfl rfl (Nat.le_of_ble_eq_true rfl) d_Mo_init_185 (fun H locs hP hD hS => ?_)
  have hP : va_P D cls [(h0, .inr (7, [.int 0, .int 0, .int 0, .int 0, .int 0, .int 0, .int (-1), .int (-1), .int 0, .int 0, .int 0, .int 0, .int 0, .int 0, .int 0, .int 0, .ref q1, .ref q3, .ref q4, .ref q5, .int 0, .ref q2, .ref q6, .ref q7, .ref q8, .ref q9, .ref q10, .ref q11, .ref q12, .ref q13, .ref q14, .ref q15, .ref q16, .ref q17, .ref q18, .ref q19, .ref q20, .null, .int 0, .int 0, .int 0, .int 0, .long 0, .long 0, .long 0, .long 0, .long 0, .null, .int 0, .int 0, .int 0, .int 0])), (q1, .inl (cq1, 8192, .inl (fun _ => 0))), (q3, .inl (cq3, 24, .inl (fun _ => 0))), (q4, .inl (cq4, 8, .inl (fun _ => 0))), (q5, .inl (cq5, 8, .inl (fun _ => 0)))] H := hP
  have hD : va_D A [(h0, .inr (7, [.int 0, .int 0, .int 0, .int 0, .int 0, .int 0, .int (-1), .int (-1), .int 0, .int 0, .int 0, .int 0, .int 0, .int 0, .int 0, .int 0, .ref q1, .ref q3, .ref q4, .ref q5, .int 0, .ref q2, .ref q6, .ref q7, .ref q8, .ref q9, .ref q10, .ref q11, .ref q12, .ref q13, .ref q14, .ref q15, .ref q16, .ref q17, .ref q18, .ref q19, .ref q20, .null, .int 0, .int 0, .int 0, .int 0, .long 0, .long 0, .long 0, .long 0, .long 0, .null, .int 0, .int 0, .int 0, .int 0])), (q1, .inl (cq1, 8192, .inl (fun _ => 0))), (q3, .inl (cq3, 24, .inl (fun _ => 0))), (q4, .inl (cq4, 8, .inl (fun _ => 0))), (q5, .inl (cq5, 8, .inl (fun _ => 0)))] := hD
  refine lv_aload_n hx hb d_Mo_init_188 rfl (lv_at hl 0 rfl) ?_
  refine lv_sipush (v := 512) hx hb d_Mo_init_189 (by decide) ?_
  refine x_newa (atype := .int) (ty := .int) (n := 512) (N' := 512) (a0 := (512, .inl (fun _ => 0))) hx hb (hts _ w_43) rfl hK hP hD hS hA (fun _ => rfl) (by decide) (by decide) (by decide) (Nat.le_of_ble_eq_true rfl) (Nat.le_of_ble_eq_true rfl) d_Mo_init_192 (fun q21 H hP hD hS => ?_)
  refine W.widen (k := 21) (n := 121152) (by omega) (by omega) ?_
  refine va_putF (D := D) (ci := 7) (v := .ref q21) (ty := .array .int) (C := R_Mo) (T := F_Mo) (N := 52) hx hb hts i_Mo t_Mo t_Mo_ok n_Mo hown hK hP hD hS 0 rfl rfl 37 (by decide) (hts _ w_429) (fun _ h9 => h9) rfl hin rfl (by decide +kernel) rfl rfl (Nat.le_of_ble_eq_true rfl) d_Mo_init_194 (fun H locs hP hD hS => ?_)
  have hP : va_P D cls [(h0, .inr (7, [.int 0, .int 0, .int 0, .int 0, .int 0, .int 0, .int (-1), .int (-1), .int 0, .int 0, .int 0, .int 0, .int 0, .int 0, .int 0, .int 0, .ref q1, .ref q3, .ref q4, .ref q5, .int 0, .ref q2, .ref q6, .ref q7, .ref q8, .ref q9, .ref q10, .ref q11, .ref q12, .ref q13, .ref q14, .ref q15, .ref q16, .ref q17, .ref q18, .ref q19, .ref q20, .ref q21, .int 0, .int 0, .int 0, .int 0, .long 0, .long 0, .long 0, .long 0, .long 0, .null, .int 0, .int 0, .int 0, .int 0])), (q1, .inl (cq1, 8192, .inl (fun _ => 0))), (q3, .inl (cq3, 24, .inl (fun _ => 0))), (q4, .inl (cq4, 8, .inl (fun _ => 0))), (q5, .inl (cq5, 8, .inl (fun _ => 0)))] H := hP
  have hD : va_D A [(h0, .inr (7, [.int 0, .int 0, .int 0, .int 0, .int 0, .int 0, .int (-1), .int (-1), .int 0, .int 0, .int 0, .int 0, .int 0, .int 0, .int 0, .int 0, .ref q1, .ref q3, .ref q4, .ref q5, .int 0, .ref q2, .ref q6, .ref q7, .ref q8, .ref q9, .ref q10, .ref q11, .ref q12, .ref q13, .ref q14, .ref q15, .ref q16, .ref q17, .ref q18, .ref q19, .ref q20, .ref q21, .int 0, .int 0, .int 0, .int 0, .long 0, .long 0, .long 0, .long 0, .long 0, .null, .int 0, .int 0, .int 0, .int 0])), (q1, .inl (cq1, 8192, .inl (fun _ => 0))), (q3, .inl (cq3, 24, .inl (fun _ => 0))), (q4, .inl (cq4, 8, .inl (fun _ => 0))), (q5, .inl (cq5, 8, .inl (fun _ => 0)))] := hD
  refine lv_aload_n hx hb d_Mo_init_197 rfl (lv_at hl 0 rfl) ?_
  refine lv_sipush (v := 8192) hx hb d_Mo_init_198 (by decide) ?_
  refine x_newa (atype := .byte) (ty := .byte) (n := 8192) (N' := 8192) (a0 := (8192, .inl (fun _ => 0))) hx hb (hts _ w_42) rfl hK hP hD hS hA (fun _ => rfl) (by decide) (by decide) (by decide) (Nat.le_of_ble_eq_true rfl) (Nat.le_of_ble_eq_true rfl) d_Mo_init_201 (fun q22 H hP hD hS => ?_)
  refine W.widen (k := 22) (n := 129344) (by omega) (by omega) ?_
  refine va_putF (D := D) (ci := 7) (v := .ref q22) (ty := .array .byte) (C := R_Mo) (T := F_Mo) (N := 52) hx hb hts i_Mo t_Mo t_Mo_ok n_Mo hown hK hP hD hS 0 rfl rfl 47 (by decide) (hts _ w_439) (fun _ h9 => h9) rfl hin rfl (by decide +kernel) rfl rfl (Nat.le_of_ble_eq_true rfl) d_Mo_init_203 (fun H locs hP hD hS => ?_)
  have hP : va_P D cls [(h0, .inr (7, [.int 0, .int 0, .int 0, .int 0, .int 0, .int 0, .int (-1), .int (-1), .int 0, .int 0, .int 0, .int 0, .int 0, .int 0, .int 0, .int 0, .ref q1, .ref q3, .ref q4, .ref q5, .int 0, .ref q2, .ref q6, .ref q7, .ref q8, .ref q9, .ref q10, .ref q11, .ref q12, .ref q13, .ref q14, .ref q15, .ref q16, .ref q17, .ref q18, .ref q19, .ref q20, .ref q21, .int 0, .int 0, .int 0, .int 0, .long 0, .long 0, .long 0, .long 0, .long 0, .ref q22, .int 0, .int 0, .int 0, .int 0])), (q1, .inl (cq1, 8192, .inl (fun _ => 0))), (q3, .inl (cq3, 24, .inl (fun _ => 0))), (q4, .inl (cq4, 8, .inl (fun _ => 0))), (q5, .inl (cq5, 8, .inl (fun _ => 0)))] H := hP
  have hD : va_D A [(h0, .inr (7, [.int 0, .int 0, .int 0, .int 0, .int 0, .int 0, .int (-1), .int (-1), .int 0, .int 0, .int 0, .int 0, .int 0, .int 0, .int 0, .int 0, .ref q1, .ref q3, .ref q4, .ref q5, .int 0, .ref q2, .ref q6, .ref q7, .ref q8, .ref q9, .ref q10, .ref q11, .ref q12, .ref q13, .ref q14, .ref q15, .ref q16, .ref q17, .ref q18, .ref q19, .ref q20, .ref q21, .int 0, .int 0, .int 0, .int 0, .long 0, .long 0, .long 0, .long 0, .long 0, .ref q22, .int 0, .int 0, .int 0, .int 0])), (q1, .inl (cq1, 8192, .inl (fun _ => 0))), (q3, .inl (cq3, 24, .inl (fun _ => 0))), (q4, .inl (cq4, 8, .inl (fun _ => 0))), (q5, .inl (cq5, 8, .inl (fun _ => 0)))] := hD
  exact xr_v hx hb hr hlocks hP hD hK hS (((fun k => [q1, q3, q4, q5, q2, q6, q7, q8, q9, q10, q11, q12, q13, q14, q15, q16, q17, q18, q19, q20, q21, q22].getD k 0), (fun k => [cq1, cq3, cq4, cq5].getD k 0))) [0, 1, 2, 3, 4] rfl rfl (by decide) [0, 1, 2, 3] rfl rfl d_Mo_init_206
end
section
theorem d_Mo_thrown_0 : decode b_Mo_thrown 0 = .ok (.aload_n 0, 1) := by decide +kernel
theorem d_Mo_thrown_1 : decode b_Mo_thrown 1 = .ok (.getfield 88, 3) := by decide +kernel
theorem d_Mo_thrown_4 : decode b_Mo_thrown 4 = .ok (.ireturn, 1) := by decide +kernel
set_option maxHeartbeats 4000000 in
set_option maxRecDepth 100000 in
theorem c_Mo_thrown_0 (l : Launch) (D : va_G) (h0 : Nat) (qa : Nat → Nat) (sz : Nat) : Met l y_Mo_thrown (Cond.code y_Mo_thrown b_Mo_thrown 1 (some .int) :: bw) (xR 1 0 0) (va_Pc [.ref h0] (xP D [] sz [(h0, .inr (7, [.int 0, .int 0, .int 0, .int 0, .int 0, .int 0, .int (-1), .int (-1), .int 0, .int 0, .int 0, .int 0, .int 0, .int 0, .int 0, .int 0, .ref (qa 0), .ref (qa 1), .ref (qa 2), .ref (qa 3), .int 0, .ref (qa 4), .ref (qa 5), .ref (qa 6), .ref (qa 7), .ref (qa 8), .ref (qa 9), .ref (qa 10), .ref (qa 11), .ref (qa 12), .ref (qa 13), .ref (qa 14), .ref (qa 15), .ref (qa 16), .ref (qa 17), .ref (qa 18), .ref (qa 19), .ref (qa 20), .int 0, .int 0, .int 0, .int 0, .long 0, .long 0, .long 0, .long 0, .long 0, .ref (qa 21), .int 0, .int 0, .int 0, .int 0]))])) (xQ (S := Unit) (fun _ => some (.int 0)) (fun _ => [(h0, .inr (7, [.int 0, .int 0, .int 0, .int 0, .int 0, .int 0, .int (-1), .int (-1), .int 0, .int 0, .int 0, .int 0, .int 0, .int 0, .int 0, .int 0, .ref (qa 0), .ref (qa 1), .ref (qa 2), .ref (qa 3), .int 0, .ref (qa 4), .ref (qa 5), .ref (qa 6), .ref (qa 7), .ref (qa 8), .ref (qa 9), .ref (qa 10), .ref (qa 11), .ref (qa 12), .ref (qa 13), .ref (qa 14), .ref (qa 15), .ref (qa 16), .ref (qa 17), .ref (qa 18), .ref (qa 19), .ref (qa 20), .int 0, .int 0, .int 0, .int 0, .long 0, .long 0, .long 0, .long 0, .long 0, .ref (qa 21), .int 0, .int 0, .int 0, .int 0]))]) (fun _ => []) D (va_A [(h0, .inr (7, [.int 0, .int 0, .int 0, .int 0, .int 0, .int 0, .int (-1), .int (-1), .int 0, .int 0, .int 0, .int 0, .int 0, .int 0, .int 0, .int 0, .ref (qa 0), .ref (qa 1), .ref (qa 2), .ref (qa 3), .int 0, .ref (qa 4), .ref (qa 5), .ref (qa 6), .ref (qa 7), .ref (qa 8), .ref (qa 9), .ref (qa 10), .ref (qa 11), .ref (qa 12), .ref (qa 13), .ref (qa 14), .ref (qa 15), .ref (qa 16), .ref (qa 17), .ref (qa 18), .ref (qa 19), .ref (qa 20), .int 0, .int 0, .int 0, .int 0, .long 0, .long 0, .long 0, .long 0, .long 0, .ref (qa 21), .int 0, .int 0, .int 0, .int 0]))] sz)) 0 0 (va_A [(h0, .inr (7, [.int 0, .int 0, .int 0, .int 0, .int 0, .int 0, .int (-1), .int (-1), .int 0, .int 0, .int 0, .int 0, .int 0, .int 0, .int 0, .int 0, .ref (qa 0), .ref (qa 1), .ref (qa 2), .ref (qa 3), .int 0, .ref (qa 4), .ref (qa 5), .ref (qa 6), .ref (qa 7), .ref (qa 8), .ref (qa 9), .ref (qa 10), .ref (qa 11), .ref (qa 12), .ref (qa 13), .ref (qa 14), .ref (qa 15), .ref (qa 16), .ref (qa 17), .ref (qa 18), .ref (qa 19), .ref (qa 20), .int 0, .int 0, .int 0, .int 0, .long 0, .long 0, .long 0, .long 0, .long 0, .ref (qa 21), .int 0, .int 0, .int 0, .int 0]))] sz) := by
  refine Met.ofW (cc := b_Mo_thrown) (maxL := 1) (ret := (some .int)) (by decide) rfl ?_
  intro p e s m args below meth c s₁ B hml hv
  obtain ⟨rfl, hsz, hP, hK, hD0, hN, hZ⟩ := hv
  have hx := B.exec
  have hb := B.bytes
  have hr := B.returns
  have hlocks := B.notSynchronized
  have hts : ∀ w ∈ bw, w.before _ s = true := fun w h => atoms_spec (ws := Cond.code y_Mo_thrown b_Mo_thrown 1 (some .int) :: bw) B.pre w (List.mem_cons_of_mem _ h)
  have hown : s.vm.findClass "ObjectForgeModel" = some m.cls := findClass_of_methodNamed B.named
  subst hsz
  have hP0 := hP
  have hD := hD0.self (sz := s.heap.size)
  generalize hAe : va_A [(h0, .inr (7, [.int 0, .int 0, .int 0, .int 0, .int 0, .int 0, .int (-1), .int (-1), .int 0, .int 0, .int 0, .int 0, .int 0, .int 0, .int 0, .int 0, .ref (qa 0), .ref (qa 1), .ref (qa 2), .ref (qa 3), .int 0, .ref (qa 4), .ref (qa 5), .ref (qa 6), .ref (qa 7), .ref (qa 8), .ref (qa 9), .ref (qa 10), .ref (qa 11), .ref (qa 12), .ref (qa 13), .ref (qa 14), .ref (qa 15), .ref (qa 16), .ref (qa 17), .ref (qa 18), .ref (qa 19), .ref (qa 20), .int 0, .int 0, .int 0, .int 0, .long 0, .long 0, .long 0, .long 0, .long 0, .ref (qa 21), .int 0, .int 0, .int 0, .int 0]))] s.heap.size = A at hD hZ ⊢
  have hA : ∀ q : Nat, s.heap.size ≤ q → A q := fun q h => by rw [← hAe]; exact Or.inr h
  have hS : va_S A s.heap s.heap [] := va_S.rf
  have hl := lv_entry ([.ref h0]) (n := 1) (Nat.le_of_ble_eq_true rfl)
  rw [lg_entry_eq]
  generalize (lg_sl ([.ref h0]) ++ List.replicate (1 - (lg_sl ([.ref h0])).length) Slot.unset).toArray = ls at hl ⊢
  have hl : lv_has ls 1 [(0, .ref h0)] := hl
  refine lv_aload_n hx hb d_Mo_thrown_0 rfl (lv_at hl 0 rfl) ?_
  refine va_get (D := D) (ci := 7) (v := .int 0) (C := R_Mo) (T := F_Mo) (N := 52) hx hb hts i_Mo hown hK hP 0 rfl rfl 0 (by decide) (hts _ w_397) (fun _ h9 => h9) rfl d_Mo_thrown_1 ?_
  exact xr_i hx hb hr hlocks hP hD hK hS (()) [0] rfl rfl (by decide) [] rfl rfl d_Mo_thrown_4

set_option maxHeartbeats 4000000 in
set_option maxRecDepth 100000 in
theorem c_Mo_thrown_1 (l : Launch) (D : va_G) (h0 : Nat) (qa : Nat → Nat) (sz : Nat) : Met l y_Mo_thrown (Cond.code y_Mo_thrown b_Mo_thrown 1 (some .int) :: bw) (xR 1 0 0) (va_Pc [.ref h0] (xP D [] sz [(h0, .inr (7, [.int 1, .int 0, .int 0, .int 0, .int 0, .int 0, .int (-1), .int (-1), .int 0, .int 0, .int 0, .int 0, .int 0, .int 0, .int 0, .int 0, .ref (qa 0), .ref (qa 1), .ref (qa 2), .ref (qa 3), .int 0, .ref (qa 4), .ref (qa 5), .ref (qa 6), .ref (qa 7), .ref (qa 8), .ref (qa 9), .ref (qa 10), .ref (qa 11), .ref (qa 12), .ref (qa 13), .ref (qa 14), .ref (qa 15), .ref (qa 16), .ref (qa 17), .ref (qa 18), .ref (qa 19), .ref (qa 20), .int 0, .int 0, .int 0, .int 0, .long 0, .long 0, .long 0, .long 0, .long 0, .ref (qa 21), .int 0, .int 0, .int 0, .int 0]))])) (xQ (S := Unit) (fun _ => some (.int 1)) (fun _ => [(h0, .inr (7, [.int 1, .int 0, .int 0, .int 0, .int 0, .int 0, .int (-1), .int (-1), .int 0, .int 0, .int 0, .int 0, .int 0, .int 0, .int 0, .int 0, .ref (qa 0), .ref (qa 1), .ref (qa 2), .ref (qa 3), .int 0, .ref (qa 4), .ref (qa 5), .ref (qa 6), .ref (qa 7), .ref (qa 8), .ref (qa 9), .ref (qa 10), .ref (qa 11), .ref (qa 12), .ref (qa 13), .ref (qa 14), .ref (qa 15), .ref (qa 16), .ref (qa 17), .ref (qa 18), .ref (qa 19), .ref (qa 20), .int 0, .int 0, .int 0, .int 0, .long 0, .long 0, .long 0, .long 0, .long 0, .ref (qa 21), .int 0, .int 0, .int 0, .int 0]))]) (fun _ => []) D (va_A [(h0, .inr (7, [.int 1, .int 0, .int 0, .int 0, .int 0, .int 0, .int (-1), .int (-1), .int 0, .int 0, .int 0, .int 0, .int 0, .int 0, .int 0, .int 0, .ref (qa 0), .ref (qa 1), .ref (qa 2), .ref (qa 3), .int 0, .ref (qa 4), .ref (qa 5), .ref (qa 6), .ref (qa 7), .ref (qa 8), .ref (qa 9), .ref (qa 10), .ref (qa 11), .ref (qa 12), .ref (qa 13), .ref (qa 14), .ref (qa 15), .ref (qa 16), .ref (qa 17), .ref (qa 18), .ref (qa 19), .ref (qa 20), .int 0, .int 0, .int 0, .int 0, .long 0, .long 0, .long 0, .long 0, .long 0, .ref (qa 21), .int 0, .int 0, .int 0, .int 0]))] sz)) 0 0 (va_A [(h0, .inr (7, [.int 1, .int 0, .int 0, .int 0, .int 0, .int 0, .int (-1), .int (-1), .int 0, .int 0, .int 0, .int 0, .int 0, .int 0, .int 0, .int 0, .ref (qa 0), .ref (qa 1), .ref (qa 2), .ref (qa 3), .int 0, .ref (qa 4), .ref (qa 5), .ref (qa 6), .ref (qa 7), .ref (qa 8), .ref (qa 9), .ref (qa 10), .ref (qa 11), .ref (qa 12), .ref (qa 13), .ref (qa 14), .ref (qa 15), .ref (qa 16), .ref (qa 17), .ref (qa 18), .ref (qa 19), .ref (qa 20), .int 0, .int 0, .int 0, .int 0, .long 0, .long 0, .long 0, .long 0, .long 0, .ref (qa 21), .int 0, .int 0, .int 0, .int 0]))] sz) := by
  refine Met.ofW (cc := b_Mo_thrown) (maxL := 1) (ret := (some .int)) (by decide) rfl ?_
  intro p e s m args below meth c s₁ B hml hv
  obtain ⟨rfl, hsz, hP, hK, hD0, hN, hZ⟩ := hv
  have hx := B.exec
  have hb := B.bytes
  have hr := B.returns
  have hlocks := B.notSynchronized
  have hts : ∀ w ∈ bw, w.before _ s = true := fun w h => atoms_spec (ws := Cond.code y_Mo_thrown b_Mo_thrown 1 (some .int) :: bw) B.pre w (List.mem_cons_of_mem _ h)
  have hown : s.vm.findClass "ObjectForgeModel" = some m.cls := findClass_of_methodNamed B.named
  subst hsz
  have hP0 := hP
  have hD := hD0.self (sz := s.heap.size)
  generalize hAe : va_A [(h0, .inr (7, [.int 1, .int 0, .int 0, .int 0, .int 0, .int 0, .int (-1), .int (-1), .int 0, .int 0, .int 0, .int 0, .int 0, .int 0, .int 0, .int 0, .ref (qa 0), .ref (qa 1), .ref (qa 2), .ref (qa 3), .int 0, .ref (qa 4), .ref (qa 5), .ref (qa 6), .ref (qa 7), .ref (qa 8), .ref (qa 9), .ref (qa 10), .ref (qa 11), .ref (qa 12), .ref (qa 13), .ref (qa 14), .ref (qa 15), .ref (qa 16), .ref (qa 17), .ref (qa 18), .ref (qa 19), .ref (qa 20), .int 0, .int 0, .int 0, .int 0, .long 0, .long 0, .long 0, .long 0, .long 0, .ref (qa 21), .int 0, .int 0, .int 0, .int 0]))] s.heap.size = A at hD hZ ⊢
  have hA : ∀ q : Nat, s.heap.size ≤ q → A q := fun q h => by rw [← hAe]; exact Or.inr h
  have hS : va_S A s.heap s.heap [] := va_S.rf
  have hl := lv_entry ([.ref h0]) (n := 1) (Nat.le_of_ble_eq_true rfl)
  rw [lg_entry_eq]
  generalize (lg_sl ([.ref h0]) ++ List.replicate (1 - (lg_sl ([.ref h0])).length) Slot.unset).toArray = ls at hl ⊢
  have hl : lv_has ls 1 [(0, .ref h0)] := hl
  refine lv_aload_n hx hb d_Mo_thrown_0 rfl (lv_at hl 0 rfl) ?_
  refine va_get (D := D) (ci := 7) (v := .int 1) (C := R_Mo) (T := F_Mo) (N := 52) hx hb hts i_Mo hown hK hP 0 rfl rfl 0 (by decide) (hts _ w_397) (fun _ h9 => h9) rfl d_Mo_thrown_1 ?_
  exact xr_i hx hb hr hlocks hP hD hK hS (()) [0] rfl rfl (by decide) [] rfl rfl d_Mo_thrown_4

set_option maxHeartbeats 4000000 in
set_option maxRecDepth 100000 in
theorem c_Mo_thrown_2 (l : Launch) (D : va_G) (h0 : Nat) (qa : Nat → Nat) (sz : Nat) : Met l y_Mo_thrown (Cond.code y_Mo_thrown b_Mo_thrown 1 (some .int) :: bw) (xR 1 0 0) (va_Pc [.ref h0] (xP D [] sz [(h0, .inr (7, [.int 2, .int 0, .int 0, .int 0, .int 0, .int 0, .int (-1), .int (-1), .int 0, .int 0, .int 0, .int 0, .int 0, .int 0, .int 0, .int 0, .ref (qa 0), .ref (qa 1), .ref (qa 2), .ref (qa 3), .int 0, .ref (qa 4), .ref (qa 5), .ref (qa 6), .ref (qa 7), .ref (qa 8), .ref (qa 9), .ref (qa 10), .ref (qa 11), .ref (qa 12), .ref (qa 13), .ref (qa 14), .ref (qa 15), .ref (qa 16), .ref (qa 17), .ref (qa 18), .ref (qa 19), .ref (qa 20), .int 0, .int 0, .int 0, .int 0, .long 0, .long 0, .long 0, .long 0, .long 0, .ref (qa 21), .int 0, .int 0, .int 0, .int 0]))])) (xQ (S := Unit) (fun _ => some (.int 2)) (fun _ => [(h0, .inr (7, [.int 2, .int 0, .int 0, .int 0, .int 0, .int 0, .int (-1), .int (-1), .int 0, .int 0, .int 0, .int 0, .int 0, .int 0, .int 0, .int 0, .ref (qa 0), .ref (qa 1), .ref (qa 2), .ref (qa 3), .int 0, .ref (qa 4), .ref (qa 5), .ref (qa 6), .ref (qa 7), .ref (qa 8), .ref (qa 9), .ref (qa 10), .ref (qa 11), .ref (qa 12), .ref (qa 13), .ref (qa 14), .ref (qa 15), .ref (qa 16), .ref (qa 17), .ref (qa 18), .ref (qa 19), .ref (qa 20), .int 0, .int 0, .int 0, .int 0, .long 0, .long 0, .long 0, .long 0, .long 0, .ref (qa 21), .int 0, .int 0, .int 0, .int 0]))]) (fun _ => []) D (va_A [(h0, .inr (7, [.int 2, .int 0, .int 0, .int 0, .int 0, .int 0, .int (-1), .int (-1), .int 0, .int 0, .int 0, .int 0, .int 0, .int 0, .int 0, .int 0, .ref (qa 0), .ref (qa 1), .ref (qa 2), .ref (qa 3), .int 0, .ref (qa 4), .ref (qa 5), .ref (qa 6), .ref (qa 7), .ref (qa 8), .ref (qa 9), .ref (qa 10), .ref (qa 11), .ref (qa 12), .ref (qa 13), .ref (qa 14), .ref (qa 15), .ref (qa 16), .ref (qa 17), .ref (qa 18), .ref (qa 19), .ref (qa 20), .int 0, .int 0, .int 0, .int 0, .long 0, .long 0, .long 0, .long 0, .long 0, .ref (qa 21), .int 0, .int 0, .int 0, .int 0]))] sz)) 0 0 (va_A [(h0, .inr (7, [.int 2, .int 0, .int 0, .int 0, .int 0, .int 0, .int (-1), .int (-1), .int 0, .int 0, .int 0, .int 0, .int 0, .int 0, .int 0, .int 0, .ref (qa 0), .ref (qa 1), .ref (qa 2), .ref (qa 3), .int 0, .ref (qa 4), .ref (qa 5), .ref (qa 6), .ref (qa 7), .ref (qa 8), .ref (qa 9), .ref (qa 10), .ref (qa 11), .ref (qa 12), .ref (qa 13), .ref (qa 14), .ref (qa 15), .ref (qa 16), .ref (qa 17), .ref (qa 18), .ref (qa 19), .ref (qa 20), .int 0, .int 0, .int 0, .int 0, .long 0, .long 0, .long 0, .long 0, .long 0, .ref (qa 21), .int 0, .int 0, .int 0, .int 0]))] sz) := by
  refine Met.ofW (cc := b_Mo_thrown) (maxL := 1) (ret := (some .int)) (by decide) rfl ?_
  intro p e s m args below meth c s₁ B hml hv
  obtain ⟨rfl, hsz, hP, hK, hD0, hN, hZ⟩ := hv
  have hx := B.exec
  have hb := B.bytes
  have hr := B.returns
  have hlocks := B.notSynchronized
  have hts : ∀ w ∈ bw, w.before _ s = true := fun w h => atoms_spec (ws := Cond.code y_Mo_thrown b_Mo_thrown 1 (some .int) :: bw) B.pre w (List.mem_cons_of_mem _ h)
  have hown : s.vm.findClass "ObjectForgeModel" = some m.cls := findClass_of_methodNamed B.named
  subst hsz
  have hP0 := hP
  have hD := hD0.self (sz := s.heap.size)
  generalize hAe : va_A [(h0, .inr (7, [.int 2, .int 0, .int 0, .int 0, .int 0, .int 0, .int (-1), .int (-1), .int 0, .int 0, .int 0, .int 0, .int 0, .int 0, .int 0, .int 0, .ref (qa 0), .ref (qa 1), .ref (qa 2), .ref (qa 3), .int 0, .ref (qa 4), .ref (qa 5), .ref (qa 6), .ref (qa 7), .ref (qa 8), .ref (qa 9), .ref (qa 10), .ref (qa 11), .ref (qa 12), .ref (qa 13), .ref (qa 14), .ref (qa 15), .ref (qa 16), .ref (qa 17), .ref (qa 18), .ref (qa 19), .ref (qa 20), .int 0, .int 0, .int 0, .int 0, .long 0, .long 0, .long 0, .long 0, .long 0, .ref (qa 21), .int 0, .int 0, .int 0, .int 0]))] s.heap.size = A at hD hZ ⊢
  have hA : ∀ q : Nat, s.heap.size ≤ q → A q := fun q h => by rw [← hAe]; exact Or.inr h
  have hS : va_S A s.heap s.heap [] := va_S.rf
  have hl := lv_entry ([.ref h0]) (n := 1) (Nat.le_of_ble_eq_true rfl)
  rw [lg_entry_eq]
  generalize (lg_sl ([.ref h0]) ++ List.replicate (1 - (lg_sl ([.ref h0])).length) Slot.unset).toArray = ls at hl ⊢
  have hl : lv_has ls 1 [(0, .ref h0)] := hl
  refine lv_aload_n hx hb d_Mo_thrown_0 rfl (lv_at hl 0 rfl) ?_
  refine va_get (D := D) (ci := 7) (v := .int 2) (C := R_Mo) (T := F_Mo) (N := 52) hx hb hts i_Mo hown hK hP 0 rfl rfl 0 (by decide) (hts _ w_397) (fun _ h9 => h9) rfl d_Mo_thrown_1 ?_
  exact xr_i hx hb hr hlocks hP hD hK hS (()) [0] rfl rfl (by decide) [] rfl rfl d_Mo_thrown_4

theorem d_Mo_refuse_0 : decode b_Mo_refuse 0 = .ok (.aload_n 0, 1) := by decide +kernel
theorem d_Mo_refuse_1 : decode b_Mo_refuse 1 = .ok (.iload_n 1, 1) := by decide +kernel
theorem d_Mo_refuse_2 : decode b_Mo_refuse 2 = .ok (.putfield 88, 3) := by decide +kernel
theorem d_Mo_refuse_5 : decode b_Mo_refuse 5 = .ok (.iconst 0, 1) := by decide +kernel
theorem d_Mo_refuse_6 : decode b_Mo_refuse 6 = .ok (.ireturn, 1) := by decide +kernel
set_option maxHeartbeats 4000000 in
set_option maxRecDepth 100000 in
theorem c_Mo_refuse_1 (l : Launch) (D : va_G) (h0 : Nat) (qa : Nat → Nat) (sz : Nat) : Met l y_Mo_refuse (Cond.code y_Mo_refuse b_Mo_refuse 2 (some .int) :: bw) (xR 1 0 0) (va_Pc [.ref h0, .int 1] (xP D [] sz [(h0, .inr (7, [.int 0, .int 0, .int 0, .int 0, .int 0, .int 0, .int (-1), .int (-1), .int 0, .int 0, .int 0, .int 0, .int 0, .int 0, .int 0, .int 0, .ref (qa 0), .ref (qa 1), .ref (qa 2), .ref (qa 3), .int 0, .ref (qa 4), .ref (qa 5), .ref (qa 6), .ref (qa 7), .ref (qa 8), .ref (qa 9), .ref (qa 10), .ref (qa 11), .ref (qa 12), .ref (qa 13), .ref (qa 14), .ref (qa 15), .ref (qa 16), .ref (qa 17), .ref (qa 18), .ref (qa 19), .ref (qa 20), .int 0, .int 0, .int 0, .int 0, .long 0, .long 0, .long 0, .long 0, .long 0, .ref (qa 21), .int 0, .int 0, .int 0, .int 0]))])) (xQ (S := Unit) (fun _ => some (.int 0)) (fun _ => [(h0, .inr (7, [.int 1, .int 0, .int 0, .int 0, .int 0, .int 0, .int (-1), .int (-1), .int 0, .int 0, .int 0, .int 0, .int 0, .int 0, .int 0, .int 0, .ref (qa 0), .ref (qa 1), .ref (qa 2), .ref (qa 3), .int 0, .ref (qa 4), .ref (qa 5), .ref (qa 6), .ref (qa 7), .ref (qa 8), .ref (qa 9), .ref (qa 10), .ref (qa 11), .ref (qa 12), .ref (qa 13), .ref (qa 14), .ref (qa 15), .ref (qa 16), .ref (qa 17), .ref (qa 18), .ref (qa 19), .ref (qa 20), .int 0, .int 0, .int 0, .int 0, .long 0, .long 0, .long 0, .long 0, .long 0, .ref (qa 21), .int 0, .int 0, .int 0, .int 0]))]) (fun _ => []) D (va_A [(h0, .inr (7, [.int 0, .int 0, .int 0, .int 0, .int 0, .int 0, .int (-1), .int (-1), .int 0, .int 0, .int 0, .int 0, .int 0, .int 0, .int 0, .int 0, .ref (qa 0), .ref (qa 1), .ref (qa 2), .ref (qa 3), .int 0, .ref (qa 4), .ref (qa 5), .ref (qa 6), .ref (qa 7), .ref (qa 8), .ref (qa 9), .ref (qa 10), .ref (qa 11), .ref (qa 12), .ref (qa 13), .ref (qa 14), .ref (qa 15), .ref (qa 16), .ref (qa 17), .ref (qa 18), .ref (qa 19), .ref (qa 20), .int 0, .int 0, .int 0, .int 0, .long 0, .long 0, .long 0, .long 0, .long 0, .ref (qa 21), .int 0, .int 0, .int 0, .int 0]))] sz)) 0 0 (va_A [(h0, .inr (7, [.int 0, .int 0, .int 0, .int 0, .int 0, .int 0, .int (-1), .int (-1), .int 0, .int 0, .int 0, .int 0, .int 0, .int 0, .int 0, .int 0, .ref (qa 0), .ref (qa 1), .ref (qa 2), .ref (qa 3), .int 0, .ref (qa 4), .ref (qa 5), .ref (qa 6), .ref (qa 7), .ref (qa 8), .ref (qa 9), .ref (qa 10), .ref (qa 11), .ref (qa 12), .ref (qa 13), .ref (qa 14), .ref (qa 15), .ref (qa 16), .ref (qa 17), .ref (qa 18), .ref (qa 19), .ref (qa 20), .int 0, .int 0, .int 0, .int 0, .long 0, .long 0, .long 0, .long 0, .long 0, .ref (qa 21), .int 0, .int 0, .int 0, .int 0]))] sz) := by
  refine Met.ofW (cc := b_Mo_refuse) (maxL := 2) (ret := (some .int)) (by decide) rfl ?_
  intro p e s m args below meth c s₁ B hml hv
  obtain ⟨rfl, hsz, hP, hK, hD0, hN, hZ⟩ := hv
  have hx := B.exec
  have hb := B.bytes
  have hr := B.returns
  have hlocks := B.notSynchronized
  have hts : ∀ w ∈ bw, w.before _ s = true := fun w h => atoms_spec (ws := Cond.code y_Mo_refuse b_Mo_refuse 2 (some .int) :: bw) B.pre w (List.mem_cons_of_mem _ h)
  have hown : s.vm.findClass "ObjectForgeModel" = some m.cls := findClass_of_methodNamed B.named
  subst hsz
  have hP0 := hP
  have hD := hD0.self (sz := s.heap.size)
  generalize hAe : va_A [(h0, .inr (7, [.int 0, .int 0, .int 0, .int 0, .int 0, .int 0, .int (-1), .int (-1), .int 0, .int 0, .int 0, .int 0, .int 0, .int 0, .int 0, .int 0, .ref (qa 0), .ref (qa 1), .ref (qa 2), .ref (qa 3), .int 0, .ref (qa 4), .ref (qa 5), .ref (qa 6), .ref (qa 7), .ref (qa 8), .ref (qa 9), .ref (qa 10), .ref (qa 11), .ref (qa 12), .ref (qa 13), .ref (qa 14), .ref (qa 15), .ref (qa 16), .ref (qa 17), .ref (qa 18), .ref (qa 19), .ref (qa 20), .int 0, .int 0, .int 0, .int 0, .long 0, .long 0, .long 0, .long 0, .long 0, .ref (qa 21), .int 0, .int 0, .int 0, .int 0]))] s.heap.size = A at hD hZ ⊢
  have hA : ∀ q : Nat, s.heap.size ≤ q → A q := fun q h => by rw [← hAe]; exact Or.inr h
  have hS : va_S A s.heap s.heap [] := va_S.rf
  have hl := lv_entry ([.ref h0, .int 1]) (n := 2) (Nat.le_of_ble_eq_true rfl)
  rw [lg_entry_eq]
  generalize (lg_sl ([.ref h0, .int 1]) ++ List.replicate (2 - (lg_sl ([.ref h0, .int 1])).length) Slot.unset).toArray = ls at hl ⊢
  have hl : lv_has ls 2 [(0, .ref h0), (1, .int 1)] := hl
  refine lv_aload_n hx hb d_Mo_refuse_0 rfl (lv_at hl 0 rfl) ?_
  refine lv_iload_n hx hb d_Mo_refuse_1 rfl (lv_at hl 1 rfl) ?_
  refine va_put (D := D) (ci := 7) (v := .int 1) (ty := .int) (C := R_Mo) (T := F_Mo) (N := 52) hx hb hts i_Mo t_Mo t_Mo_ok n_Mo hown hK hP hD hS 0 rfl rfl 0 (by decide) (hts _ w_397) (fun _ h9 => h9) rfl (by decide +kernel) rfl rfl (Nat.le_of_ble_eq_true rfl) d_Mo_refuse_2 (fun H locs hP hD hS => ?_)
  have hP : va_P D cls [(h0, .inr (7, [.int 1, .int 0, .int 0, .int 0, .int 0, .int 0, .int (-1), .int (-1), .int 0, .int 0, .int 0, .int 0, .int 0, .int 0, .int 0, .int 0, .ref (qa 0), .ref (qa 1), .ref (qa 2), .ref (qa 3), .int 0, .ref (qa 4), .ref (qa 5), .ref (qa 6), .ref (qa 7), .ref (qa 8), .ref (qa 9), .ref (qa 10), .ref (qa 11), .ref (qa 12), .ref (qa 13), .ref (qa 14), .ref (qa 15), .ref (qa 16), .ref (qa 17), .ref (qa 18), .ref (qa 19), .ref (qa 20), .int 0, .int 0, .int 0, .int 0, .long 0, .long 0, .long 0, .long 0, .long 0, .ref (qa 21), .int 0, .int 0, .int 0, .int 0]))] H := hP
  have hD : va_D A [(h0, .inr (7, [.int 1, .int 0, .int 0, .int 0, .int 0, .int 0, .int (-1), .int (-1), .int 0, .int 0, .int 0, .int 0, .int 0, .int 0, .int 0, .int 0, .ref (qa 0), .ref (qa 1), .ref (qa 2), .ref (qa 3), .int 0, .ref (qa 4), .ref (qa 5), .ref (qa 6), .ref (qa 7), .ref (qa 8), .ref (qa 9), .ref (qa 10), .ref (qa 11), .ref (qa 12), .ref (qa 13), .ref (qa 14), .ref (qa 15), .ref (qa 16), .ref (qa 17), .ref (qa 18), .ref (qa 19), .ref (qa 20), .int 0, .int 0, .int 0, .int 0, .long 0, .long 0, .long 0, .long 0, .long 0, .ref (qa 21), .int 0, .int 0, .int 0, .int 0]))] := hD
  refine lv_iconst (v := 0) hx hb d_Mo_refuse_5 (by decide) ?_
  exact xr_i hx hb hr hlocks hP hD hK hS (()) [0] rfl rfl (by decide) [] rfl rfl d_Mo_refuse_6

set_option maxHeartbeats 4000000 in
set_option maxRecDepth 100000 in
theorem c_Mo_refuse_2 (l : Launch) (D : va_G) (h0 : Nat) (qa : Nat → Nat) (sz : Nat) : Met l y_Mo_refuse (Cond.code y_Mo_refuse b_Mo_refuse 2 (some .int) :: bw) (xR 1 0 0) (va_Pc [.ref h0, .int 2] (xP D [] sz [(h0, .inr (7, [.int 0, .int 0, .int 0, .int 0, .int 0, .int 0, .int (-1), .int (-1), .int 0, .int 0, .int 0, .int 0, .int 0, .int 0, .int 0, .int 0, .ref (qa 0), .ref (qa 1), .ref (qa 2), .ref (qa 3), .int 0, .ref (qa 4), .ref (qa 5), .ref (qa 6), .ref (qa 7), .ref (qa 8), .ref (qa 9), .ref (qa 10), .ref (qa 11), .ref (qa 12), .ref (qa 13), .ref (qa 14), .ref (qa 15), .ref (qa 16), .ref (qa 17), .ref (qa 18), .ref (qa 19), .ref (qa 20), .int 0, .int 0, .int 0, .int 0, .long 0, .long 0, .long 0, .long 0, .long 0, .ref (qa 21), .int 0, .int 0, .int 0, .int 0]))])) (xQ (S := Unit) (fun _ => some (.int 0)) (fun _ => [(h0, .inr (7, [.int 2, .int 0, .int 0, .int 0, .int 0, .int 0, .int (-1), .int (-1), .int 0, .int 0, .int 0, .int 0, .int 0, .int 0, .int 0, .int 0, .ref (qa 0), .ref (qa 1), .ref (qa 2), .ref (qa 3), .int 0, .ref (qa 4), .ref (qa 5), .ref (qa 6), .ref (qa 7), .ref (qa 8), .ref (qa 9), .ref (qa 10), .ref (qa 11), .ref (qa 12), .ref (qa 13), .ref (qa 14), .ref (qa 15), .ref (qa 16), .ref (qa 17), .ref (qa 18), .ref (qa 19), .ref (qa 20), .int 0, .int 0, .int 0, .int 0, .long 0, .long 0, .long 0, .long 0, .long 0, .ref (qa 21), .int 0, .int 0, .int 0, .int 0]))]) (fun _ => []) D (va_A [(h0, .inr (7, [.int 0, .int 0, .int 0, .int 0, .int 0, .int 0, .int (-1), .int (-1), .int 0, .int 0, .int 0, .int 0, .int 0, .int 0, .int 0, .int 0, .ref (qa 0), .ref (qa 1), .ref (qa 2), .ref (qa 3), .int 0, .ref (qa 4), .ref (qa 5), .ref (qa 6), .ref (qa 7), .ref (qa 8), .ref (qa 9), .ref (qa 10), .ref (qa 11), .ref (qa 12), .ref (qa 13), .ref (qa 14), .ref (qa 15), .ref (qa 16), .ref (qa 17), .ref (qa 18), .ref (qa 19), .ref (qa 20), .int 0, .int 0, .int 0, .int 0, .long 0, .long 0, .long 0, .long 0, .long 0, .ref (qa 21), .int 0, .int 0, .int 0, .int 0]))] sz)) 0 0 (va_A [(h0, .inr (7, [.int 0, .int 0, .int 0, .int 0, .int 0, .int 0, .int (-1), .int (-1), .int 0, .int 0, .int 0, .int 0, .int 0, .int 0, .int 0, .int 0, .ref (qa 0), .ref (qa 1), .ref (qa 2), .ref (qa 3), .int 0, .ref (qa 4), .ref (qa 5), .ref (qa 6), .ref (qa 7), .ref (qa 8), .ref (qa 9), .ref (qa 10), .ref (qa 11), .ref (qa 12), .ref (qa 13), .ref (qa 14), .ref (qa 15), .ref (qa 16), .ref (qa 17), .ref (qa 18), .ref (qa 19), .ref (qa 20), .int 0, .int 0, .int 0, .int 0, .long 0, .long 0, .long 0, .long 0, .long 0, .ref (qa 21), .int 0, .int 0, .int 0, .int 0]))] sz) := by
  refine Met.ofW (cc := b_Mo_refuse) (maxL := 2) (ret := (some .int)) (by decide) rfl ?_
  intro p e s m args below meth c s₁ B hml hv
  obtain ⟨rfl, hsz, hP, hK, hD0, hN, hZ⟩ := hv
  have hx := B.exec
  have hb := B.bytes
  have hr := B.returns
  have hlocks := B.notSynchronized
  have hts : ∀ w ∈ bw, w.before _ s = true := fun w h => atoms_spec (ws := Cond.code y_Mo_refuse b_Mo_refuse 2 (some .int) :: bw) B.pre w (List.mem_cons_of_mem _ h)
  have hown : s.vm.findClass "ObjectForgeModel" = some m.cls := findClass_of_methodNamed B.named
  subst hsz
  have hP0 := hP
  have hD := hD0.self (sz := s.heap.size)
  generalize hAe : va_A [(h0, .inr (7, [.int 0, .int 0, .int 0, .int 0, .int 0, .int 0, .int (-1), .int (-1), .int 0, .int 0, .int 0, .int 0, .int 0, .int 0, .int 0, .int 0, .ref (qa 0), .ref (qa 1), .ref (qa 2), .ref (qa 3), .int 0, .ref (qa 4), .ref (qa 5), .ref (qa 6), .ref (qa 7), .ref (qa 8), .ref (qa 9), .ref (qa 10), .ref (qa 11), .ref (qa 12), .ref (qa 13), .ref (qa 14), .ref (qa 15), .ref (qa 16), .ref (qa 17), .ref (qa 18), .ref (qa 19), .ref (qa 20), .int 0, .int 0, .int 0, .int 0, .long 0, .long 0, .long 0, .long 0, .long 0, .ref (qa 21), .int 0, .int 0, .int 0, .int 0]))] s.heap.size = A at hD hZ ⊢
  have hA : ∀ q : Nat, s.heap.size ≤ q → A q := fun q h => by rw [← hAe]; exact Or.inr h
  have hS : va_S A s.heap s.heap [] := va_S.rf
  have hl := lv_entry ([.ref h0, .int 2]) (n := 2) (Nat.le_of_ble_eq_true rfl)
  rw [lg_entry_eq]
  generalize (lg_sl ([.ref h0, .int 2]) ++ List.replicate (2 - (lg_sl ([.ref h0, .int 2])).length) Slot.unset).toArray = ls at hl ⊢
  have hl : lv_has ls 2 [(0, .ref h0), (1, .int 2)] := hl
  refine lv_aload_n hx hb d_Mo_refuse_0 rfl (lv_at hl 0 rfl) ?_
  refine lv_iload_n hx hb d_Mo_refuse_1 rfl (lv_at hl 1 rfl) ?_
  refine va_put (D := D) (ci := 7) (v := .int 2) (ty := .int) (C := R_Mo) (T := F_Mo) (N := 52) hx hb hts i_Mo t_Mo t_Mo_ok n_Mo hown hK hP hD hS 0 rfl rfl 0 (by decide) (hts _ w_397) (fun _ h9 => h9) rfl (by decide +kernel) rfl rfl (Nat.le_of_ble_eq_true rfl) d_Mo_refuse_2 (fun H locs hP hD hS => ?_)
  have hP : va_P D cls [(h0, .inr (7, [.int 2, .int 0, .int 0, .int 0, .int 0, .int 0, .int (-1), .int (-1), .int 0, .int 0, .int 0, .int 0, .int 0, .int 0, .int 0, .int 0, .ref (qa 0), .ref (qa 1), .ref (qa 2), .ref (qa 3), .int 0, .ref (qa 4), .ref (qa 5), .ref (qa 6), .ref (qa 7), .ref (qa 8), .ref (qa 9), .ref (qa 10), .ref (qa 11), .ref (qa 12), .ref (qa 13), .ref (qa 14), .ref (qa 15), .ref (qa 16), .ref (qa 17), .ref (qa 18), .ref (qa 19), .ref (qa 20), .int 0, .int 0, .int 0, .int 0, .long 0, .long 0, .long 0, .long 0, .long 0, .ref (qa 21), .int 0, .int 0, .int 0, .int 0]))] H := hP
  have hD : va_D A [(h0, .inr (7, [.int 2, .int 0, .int 0, .int 0, .int 0, .int 0, .int (-1), .int (-1), .int 0, .int 0, .int 0, .int 0, .int 0, .int 0, .int 0, .int 0, .ref (qa 0), .ref (qa 1), .ref (qa 2), .ref (qa 3), .int 0, .ref (qa 4), .ref (qa 5), .ref (qa 6), .ref (qa 7), .ref (qa 8), .ref (qa 9), .ref (qa 10), .ref (qa 11), .ref (qa 12), .ref (qa 13), .ref (qa 14), .ref (qa 15), .ref (qa 16), .ref (qa 17), .ref (qa 18), .ref (qa 19), .ref (qa 20), .int 0, .int 0, .int 0, .int 0, .long 0, .long 0, .long 0, .long 0, .long 0, .ref (qa 21), .int 0, .int 0, .int 0, .int 0]))] := hD
  refine lv_iconst (v := 0) hx hb d_Mo_refuse_5 (by decide) ?_
  exact xr_i hx hb hr hlocks hP hD hK hS (()) [0] rfl rfl (by decide) [] rfl rfl d_Mo_refuse_6

theorem d_Mo_within_0 : decode b_Mo_within 0 = .ok (.iload_n 0, 1) := by decide +kernel
theorem d_Mo_within_1 : decode b_Mo_within 1 = .ok (.ifCond .lt 12, 3) := by decide +kernel
theorem d_Mo_within_13 : decode b_Mo_within 13 = .ok (.iconst 0, 1) := by decide +kernel
theorem d_Mo_within_14 : decode b_Mo_within 14 = .ok (.ireturn, 1) := by decide +kernel
set_option maxHeartbeats 4000000 in
set_option maxRecDepth 100000 in
theorem c_Mo_within_n (l : Launch) (D : va_G) (k n : Int32) (hk : k < 0) (sz : Nat) : Met l y_Mo_within (Cond.code y_Mo_within b_Mo_within 2 (some .boolean) :: bw) (xR 1 0 0) (va_Pc [.int k, .int n] (xP D [] sz [])) (xQ (S := Unit) (fun _ => some (.int 0)) (fun _ => []) (fun _ => []) D (va_A [] sz)) 0 0 (va_A [] sz) := by
  refine Met.ofW (cc := b_Mo_within) (maxL := 2) (ret := (some .boolean)) (by decide) rfl ?_
  intro p e s m args below meth c s₁ B hml hv
  obtain ⟨rfl, hsz, hP, hK, hD0, hN, hZ⟩ := hv
  have hx := B.exec
  have hb := B.bytes
  have hr := B.returns
  have hlocks := B.notSynchronized
  have hts : ∀ w ∈ bw, w.before _ s = true := fun w h => atoms_spec (ws := Cond.code y_Mo_within b_Mo_within 2 (some .boolean) :: bw) B.pre w (List.mem_cons_of_mem _ h)
  have hown : s.vm.findClass "ObjectForgeModel" = some m.cls := findClass_of_methodNamed B.named
  subst hsz
  have hP0 := hP
  have hD := hD0.self (sz := s.heap.size)
  generalize hAe : va_A [] s.heap.size = A at hD hZ ⊢
  have hA : ∀ q : Nat, s.heap.size ≤ q → A q := fun q h => by rw [← hAe]; exact Or.inr h
  have hS : va_S A s.heap s.heap [] := va_S.rf
  have hl := lv_entry ([.int k, .int n]) (n := 2) (Nat.le_of_ble_eq_true rfl)
  rw [lg_entry_eq]
  generalize (lg_sl ([.int k, .int n]) ++ List.replicate (2 - (lg_sl ([.int k, .int n])).length) Slot.unset).toArray = ls at hl ⊢
  have hl : lv_has ls 2 [(0, .int k), (1, .int n)] := hl
  refine lv_iload_n hx hb d_Mo_within_0 rfl (lv_at hl 0 rfl) ?_
  refine lv_if_lt (tgt := 13) hx hb d_Mo_within_1 (by decide) (fun _ => ?_) (fun q9 => absurd hk q9)
  refine lv_iconst (v := 0) hx hb d_Mo_within_13 (by decide) ?_
  exact xr_z hx hb hr rfl hlocks hP hD hK hS (()) [] rfl rfl (by decide) [] rfl rfl d_Mo_within_14

theorem d_Mo_within_4 : decode b_Mo_within 4 = .ok (.iload_n 0, 1) := by decide +kernel
theorem d_Mo_within_5 : decode b_Mo_within 5 = .ok (.iload_n 1, 1) := by decide +kernel
theorem d_Mo_within_6 : decode b_Mo_within 6 = .ok (.if_icmp .ge 7, 3) := by decide +kernel
set_option maxHeartbeats 4000000 in
set_option maxRecDepth 100000 in
theorem c_Mo_within_g (l : Launch) (D : va_G) (k n : Int32) (hk : ¬ k < 0) (hg : n ≤ k) (sz : Nat) : Met l y_Mo_within (Cond.code y_Mo_within b_Mo_within 2 (some .boolean) :: bw) (xR 1 0 0) (va_Pc [.int k, .int n] (xP D [] sz [])) (xQ (S := Unit) (fun _ => some (.int 0)) (fun _ => []) (fun _ => []) D (va_A [] sz)) 0 0 (va_A [] sz) := by
  refine Met.ofW (cc := b_Mo_within) (maxL := 2) (ret := (some .boolean)) (by decide) rfl ?_
  intro p e s m args below meth c s₁ B hml hv
  obtain ⟨rfl, hsz, hP, hK, hD0, hN, hZ⟩ := hv
  have hx := B.exec
  have hb := B.bytes
  have hr := B.returns
  have hlocks := B.notSynchronized
  have hts : ∀ w ∈ bw, w.before _ s = true := fun w h => atoms_spec (ws := Cond.code y_Mo_within b_Mo_within 2 (some .boolean) :: bw) B.pre w (List.mem_cons_of_mem _ h)
  have hown : s.vm.findClass "ObjectForgeModel" = some m.cls := findClass_of_methodNamed B.named
  subst hsz
  have hP0 := hP
  have hD := hD0.self (sz := s.heap.size)
  generalize hAe : va_A [] s.heap.size = A at hD hZ ⊢
  have hA : ∀ q : Nat, s.heap.size ≤ q → A q := fun q h => by rw [← hAe]; exact Or.inr h
  have hS : va_S A s.heap s.heap [] := va_S.rf
  have hl := lv_entry ([.int k, .int n]) (n := 2) (Nat.le_of_ble_eq_true rfl)
  rw [lg_entry_eq]
  generalize (lg_sl ([.int k, .int n]) ++ List.replicate (2 - (lg_sl ([.int k, .int n])).length) Slot.unset).toArray = ls at hl ⊢
  have hl : lv_has ls 2 [(0, .int k), (1, .int n)] := hl
  refine lv_iload_n hx hb d_Mo_within_0 rfl (lv_at hl 0 rfl) ?_
  refine lv_if_lt (tgt := 13) hx hb d_Mo_within_1 (by decide) (fun q9 => absurd q9 hk) (fun _ => ?_)
  refine lv_iload_n hx hb d_Mo_within_4 rfl (lv_at hl 0 rfl) ?_
  refine lv_iload_n hx hb d_Mo_within_5 rfl (lv_at hl 1 rfl) ?_
  refine lv_icmp_ge (tgt := 13) hx hb d_Mo_within_6 (by decide) (fun _ => ?_) (fun q9 => absurd hg q9)
  refine lv_iconst (v := 0) hx hb d_Mo_within_13 (by decide) ?_
  exact xr_z hx hb hr rfl hlocks hP hD hK hS (()) [] rfl rfl (by decide) [] rfl rfl d_Mo_within_14

theorem d_Mo_within_9 : decode b_Mo_within 9 = .ok (.iconst 1, 1) := by decide +kernel
theorem d_Mo_within_10 : decode b_Mo_within 10 = .ok (.goto 4, 3) := by decide +kernel
set_option maxHeartbeats 4000000 in
set_option maxRecDepth 100000 in
theorem c_Mo_within_0 (l : Launch) (D : va_G) (sz : Nat) : Met l y_Mo_within (Cond.code y_Mo_within b_Mo_within 2 (some .boolean) :: bw) (xR 1 0 0) (va_Pc [.int 0, .int 4] (xP D [] sz [])) (xQ (S := Unit) (fun _ => some (.int 1)) (fun _ => []) (fun _ => []) D (va_A [] sz)) 0 0 (va_A [] sz) := by
  refine Met.ofW (cc := b_Mo_within) (maxL := 2) (ret := (some .boolean)) (by decide) rfl ?_
  intro p e s m args below meth c s₁ B hml hv
  obtain ⟨rfl, hsz, hP, hK, hD0, hN, hZ⟩ := hv
  have hx := B.exec
  have hb := B.bytes
  have hr := B.returns
  have hlocks := B.notSynchronized
  have hts : ∀ w ∈ bw, w.before _ s = true := fun w h => atoms_spec (ws := Cond.code y_Mo_within b_Mo_within 2 (some .boolean) :: bw) B.pre w (List.mem_cons_of_mem _ h)
  have hown : s.vm.findClass "ObjectForgeModel" = some m.cls := findClass_of_methodNamed B.named
  subst hsz
  have hP0 := hP
  have hD := hD0.self (sz := s.heap.size)
  generalize hAe : va_A [] s.heap.size = A at hD hZ ⊢
  have hA : ∀ q : Nat, s.heap.size ≤ q → A q := fun q h => by rw [← hAe]; exact Or.inr h
  have hS : va_S A s.heap s.heap [] := va_S.rf
  have hl := lv_entry ([.int 0, .int 4]) (n := 2) (Nat.le_of_ble_eq_true rfl)
  rw [lg_entry_eq]
  generalize (lg_sl ([.int 0, .int 4]) ++ List.replicate (2 - (lg_sl ([.int 0, .int 4])).length) Slot.unset).toArray = ls at hl ⊢
  have hl : lv_has ls 2 [(0, .int 0), (1, .int 4)] := hl
  refine lv_iload_n hx hb d_Mo_within_0 rfl (lv_at hl 0 rfl) ?_
  refine lv_if_lt (tgt := 13) hx hb d_Mo_within_1 (by decide) (fun q9 => absurd q9 (by decide : ¬ ((0 : Int32) < 0))) (fun _ => ?_)
  refine lv_iload_n hx hb d_Mo_within_4 rfl (lv_at hl 0 rfl) ?_
  refine lv_iload_n hx hb d_Mo_within_5 rfl (lv_at hl 1 rfl) ?_
  refine lv_icmp_ge (tgt := 13) hx hb d_Mo_within_6 (by decide) (fun q9 => absurd q9 (by decide : ¬ ((4 : Int32) ≤ 0))) (fun _ => ?_)
  refine lv_iconst (v := 1) hx hb d_Mo_within_9 (by decide) ?_
  refine lv_goto (tgt := 14) hx hb d_Mo_within_10 (by decide) ?_
  exact xr_z hx hb hr rfl hlocks hP hD hK hS (()) [] rfl rfl (by decide) [] rfl rfl d_Mo_within_14

set_option maxHeartbeats 4000000 in
set_option maxRecDepth 100000 in
theorem c_Mo_within_1 (l : Launch) (D : va_G) (sz : Nat) : Met l y_Mo_within (Cond.code y_Mo_within b_Mo_within 2 (some .boolean) :: bw) (xR 1 0 0) (va_Pc [.int 1, .int 4] (xP D [] sz [])) (xQ (S := Unit) (fun _ => some (.int 1)) (fun _ => []) (fun _ => []) D (va_A [] sz)) 0 0 (va_A [] sz) := by
  refine Met.ofW (cc := b_Mo_within) (maxL := 2) (ret := (some .boolean)) (by decide) rfl ?_
  intro p e s m args below meth c s₁ B hml hv
  obtain ⟨rfl, hsz, hP, hK, hD0, hN, hZ⟩ := hv
  have hx := B.exec
  have hb := B.bytes
  have hr := B.returns
  have hlocks := B.notSynchronized
  have hts : ∀ w ∈ bw, w.before _ s = true := fun w h => atoms_spec (ws := Cond.code y_Mo_within b_Mo_within 2 (some .boolean) :: bw) B.pre w (List.mem_cons_of_mem _ h)
  have hown : s.vm.findClass "ObjectForgeModel" = some m.cls := findClass_of_methodNamed B.named
  subst hsz
  have hP0 := hP
  have hD := hD0.self (sz := s.heap.size)
  generalize hAe : va_A [] s.heap.size = A at hD hZ ⊢
  have hA : ∀ q : Nat, s.heap.size ≤ q → A q := fun q h => by rw [← hAe]; exact Or.inr h
  have hS : va_S A s.heap s.heap [] := va_S.rf
  have hl := lv_entry ([.int 1, .int 4]) (n := 2) (Nat.le_of_ble_eq_true rfl)
  rw [lg_entry_eq]
  generalize (lg_sl ([.int 1, .int 4]) ++ List.replicate (2 - (lg_sl ([.int 1, .int 4])).length) Slot.unset).toArray = ls at hl ⊢
  have hl : lv_has ls 2 [(0, .int 1), (1, .int 4)] := hl
  refine lv_iload_n hx hb d_Mo_within_0 rfl (lv_at hl 0 rfl) ?_
  refine lv_if_lt (tgt := 13) hx hb d_Mo_within_1 (by decide) (fun q9 => absurd q9 (by decide : ¬ ((1 : Int32) < 0))) (fun _ => ?_)
  refine lv_iload_n hx hb d_Mo_within_4 rfl (lv_at hl 0 rfl) ?_
  refine lv_iload_n hx hb d_Mo_within_5 rfl (lv_at hl 1 rfl) ?_
  refine lv_icmp_ge (tgt := 13) hx hb d_Mo_within_6 (by decide) (fun q9 => absurd q9 (by decide : ¬ ((4 : Int32) ≤ 1))) (fun _ => ?_)
  refine lv_iconst (v := 1) hx hb d_Mo_within_9 (by decide) ?_
  refine lv_goto (tgt := 14) hx hb d_Mo_within_10 (by decide) ?_
  exact xr_z hx hb hr rfl hlocks hP hD hK hS (()) [] rfl rfl (by decide) [] rfl rfl d_Mo_within_14

set_option maxHeartbeats 4000000 in
set_option maxRecDepth 100000 in
theorem c_Mo_within_2 (l : Launch) (D : va_G) (sz : Nat) : Met l y_Mo_within (Cond.code y_Mo_within b_Mo_within 2 (some .boolean) :: bw) (xR 1 0 0) (va_Pc [.int 2, .int 4] (xP D [] sz [])) (xQ (S := Unit) (fun _ => some (.int 1)) (fun _ => []) (fun _ => []) D (va_A [] sz)) 0 0 (va_A [] sz) := by
  refine Met.ofW (cc := b_Mo_within) (maxL := 2) (ret := (some .boolean)) (by decide) rfl ?_
  intro p e s m args below meth c s₁ B hml hv
  obtain ⟨rfl, hsz, hP, hK, hD0, hN, hZ⟩ := hv
  have hx := B.exec
  have hb := B.bytes
  have hr := B.returns
  have hlocks := B.notSynchronized
  have hts : ∀ w ∈ bw, w.before _ s = true := fun w h => atoms_spec (ws := Cond.code y_Mo_within b_Mo_within 2 (some .boolean) :: bw) B.pre w (List.mem_cons_of_mem _ h)
  have hown : s.vm.findClass "ObjectForgeModel" = some m.cls := findClass_of_methodNamed B.named
  subst hsz
  have hP0 := hP
  have hD := hD0.self (sz := s.heap.size)
  generalize hAe : va_A [] s.heap.size = A at hD hZ ⊢
  have hA : ∀ q : Nat, s.heap.size ≤ q → A q := fun q h => by rw [← hAe]; exact Or.inr h
  have hS : va_S A s.heap s.heap [] := va_S.rf
  have hl := lv_entry ([.int 2, .int 4]) (n := 2) (Nat.le_of_ble_eq_true rfl)
  rw [lg_entry_eq]
  generalize (lg_sl ([.int 2, .int 4]) ++ List.replicate (2 - (lg_sl ([.int 2, .int 4])).length) Slot.unset).toArray = ls at hl ⊢
  have hl : lv_has ls 2 [(0, .int 2), (1, .int 4)] := hl
  refine lv_iload_n hx hb d_Mo_within_0 rfl (lv_at hl 0 rfl) ?_
  refine lv_if_lt (tgt := 13) hx hb d_Mo_within_1 (by decide) (fun q9 => absurd q9 (by decide : ¬ ((2 : Int32) < 0))) (fun _ => ?_)
  refine lv_iload_n hx hb d_Mo_within_4 rfl (lv_at hl 0 rfl) ?_
  refine lv_iload_n hx hb d_Mo_within_5 rfl (lv_at hl 1 rfl) ?_
  refine lv_icmp_ge (tgt := 13) hx hb d_Mo_within_6 (by decide) (fun q9 => absurd q9 (by decide : ¬ ((4 : Int32) ≤ 2))) (fun _ => ?_)
  refine lv_iconst (v := 1) hx hb d_Mo_within_9 (by decide) ?_
  refine lv_goto (tgt := 14) hx hb d_Mo_within_10 (by decide) ?_
  exact xr_z hx hb hr rfl hlocks hP hD hK hS (()) [] rfl rfl (by decide) [] rfl rfl d_Mo_within_14

set_option maxHeartbeats 4000000 in
set_option maxRecDepth 100000 in
theorem c_Mo_within_3 (l : Launch) (D : va_G) (sz : Nat) : Met l y_Mo_within (Cond.code y_Mo_within b_Mo_within 2 (some .boolean) :: bw) (xR 1 0 0) (va_Pc [.int 3, .int 4] (xP D [] sz [])) (xQ (S := Unit) (fun _ => some (.int 1)) (fun _ => []) (fun _ => []) D (va_A [] sz)) 0 0 (va_A [] sz) := by
  refine Met.ofW (cc := b_Mo_within) (maxL := 2) (ret := (some .boolean)) (by decide) rfl ?_
  intro p e s m args below meth c s₁ B hml hv
  obtain ⟨rfl, hsz, hP, hK, hD0, hN, hZ⟩ := hv
  have hx := B.exec
  have hb := B.bytes
  have hr := B.returns
  have hlocks := B.notSynchronized
  have hts : ∀ w ∈ bw, w.before _ s = true := fun w h => atoms_spec (ws := Cond.code y_Mo_within b_Mo_within 2 (some .boolean) :: bw) B.pre w (List.mem_cons_of_mem _ h)
  have hown : s.vm.findClass "ObjectForgeModel" = some m.cls := findClass_of_methodNamed B.named
  subst hsz
  have hP0 := hP
  have hD := hD0.self (sz := s.heap.size)
  generalize hAe : va_A [] s.heap.size = A at hD hZ ⊢
  have hA : ∀ q : Nat, s.heap.size ≤ q → A q := fun q h => by rw [← hAe]; exact Or.inr h
  have hS : va_S A s.heap s.heap [] := va_S.rf
  have hl := lv_entry ([.int 3, .int 4]) (n := 2) (Nat.le_of_ble_eq_true rfl)
  rw [lg_entry_eq]
  generalize (lg_sl ([.int 3, .int 4]) ++ List.replicate (2 - (lg_sl ([.int 3, .int 4])).length) Slot.unset).toArray = ls at hl ⊢
  have hl : lv_has ls 2 [(0, .int 3), (1, .int 4)] := hl
  refine lv_iload_n hx hb d_Mo_within_0 rfl (lv_at hl 0 rfl) ?_
  refine lv_if_lt (tgt := 13) hx hb d_Mo_within_1 (by decide) (fun q9 => absurd q9 (by decide : ¬ ((3 : Int32) < 0))) (fun _ => ?_)
  refine lv_iload_n hx hb d_Mo_within_4 rfl (lv_at hl 0 rfl) ?_
  refine lv_iload_n hx hb d_Mo_within_5 rfl (lv_at hl 1 rfl) ?_
  refine lv_icmp_ge (tgt := 13) hx hb d_Mo_within_6 (by decide) (fun q9 => absurd q9 (by decide : ¬ ((4 : Int32) ≤ 3))) (fun _ => ?_)
  refine lv_iconst (v := 1) hx hb d_Mo_within_9 (by decide) ?_
  refine lv_goto (tgt := 14) hx hb d_Mo_within_10 (by decide) ?_
  exact xr_z hx hb hr rfl hlocks hP hD hK hS (()) [] rfl rfl (by decide) [] rfl rfl d_Mo_within_14

theorem d_Mo_size_0 : decode b_Mo_size 0 = .ok (.aload_n 0, 1) := by decide +kernel
theorem d_Mo_size_1 : decode b_Mo_size 1 = .ok (.iconst 0, 1) := by decide +kernel
theorem d_Mo_size_2 : decode b_Mo_size 2 = .ok (.putfield 88, 3) := by decide +kernel
theorem d_Mo_size_5 : decode b_Mo_size 5 = .ok (.iload_n 1, 1) := by decide +kernel
theorem d_Mo_size_6 : decode b_Mo_size 6 = .ok (.aload_n 0, 1) := by decide +kernel
theorem d_Mo_size_7 : decode b_Mo_size 7 = .ok (.getfield 1010, 3) := by decide +kernel
theorem d_Mo_size_10 : decode b_Mo_size 10 = .ok (.invokestatic 1181, 3) := by decide +kernel
theorem d_Mo_size_13 : decode b_Mo_size 13 = .ok (.ifCond .eq 24, 3) := by decide +kernel
theorem d_Mo_size_37 : decode b_Mo_size 37 = .ok (.aload_n 0, 1) := by decide +kernel
theorem d_Mo_size_38 : decode b_Mo_size 38 = .ok (.iconst 1, 1) := by decide +kernel
theorem d_Mo_size_39 : decode b_Mo_size 39 = .ok (.invokevirtual 94, 3) := by decide +kernel
theorem d_Mo_size_42 : decode b_Mo_size 42 = .ok (.ireturn, 1) := by decide +kernel
set_option maxHeartbeats 4000000 in
set_option maxRecDepth 100000 in
theorem c_Mo_size_n (l : Launch) (D : va_G) (h0 : Nat) (qa : Nat → Nat) (p0 p1 : Int32) (hk : p0 < 0) (sz : Nat) : Met l y_Mo_size (Cond.code y_Mo_size b_Mo_size 3 (some .int) :: bw) (xR 2 0 0) (va_Pc [.ref h0, .int p0, .int p1] (xP D [] sz [(h0, .inr (7, [.int 0, .int 0, .int 0, .int 0, .int 0, .int 0, .int (-1), .int (-1), .int 0, .int 0, .int 0, .int 0, .int 0, .int 0, .int 0, .int 0, .ref (qa 0), .ref (qa 1), .ref (qa 2), .ref (qa 3), .int 0, .ref (qa 4), .ref (qa 5), .ref (qa 6), .ref (qa 7), .ref (qa 8), .ref (qa 9), .ref (qa 10), .ref (qa 11), .ref (qa 12), .ref (qa 13), .ref (qa 14), .ref (qa 15), .ref (qa 16), .ref (qa 17), .ref (qa 18), .ref (qa 19), .ref (qa 20), .int 0, .int 0, .int 0, .int 0, .long 0, .long 0, .long 0, .long 0, .long 0, .ref (qa 21), .int 0, .int 0, .int 0, .int 0]))])) (xQ (S := Unit) (fun _ => some (.int 0)) (fun _ => [(h0, .inr (7, [.int 1, .int 0, .int 0, .int 0, .int 0, .int 0, .int (-1), .int (-1), .int 0, .int 0, .int 0, .int 0, .int 0, .int 0, .int 0, .int 0, .ref (qa 0), .ref (qa 1), .ref (qa 2), .ref (qa 3), .int 0, .ref (qa 4), .ref (qa 5), .ref (qa 6), .ref (qa 7), .ref (qa 8), .ref (qa 9), .ref (qa 10), .ref (qa 11), .ref (qa 12), .ref (qa 13), .ref (qa 14), .ref (qa 15), .ref (qa 16), .ref (qa 17), .ref (qa 18), .ref (qa 19), .ref (qa 20), .int 0, .int 0, .int 0, .int 0, .long 0, .long 0, .long 0, .long 0, .long 0, .ref (qa 21), .int 0, .int 0, .int 0, .int 0]))]) (fun _ => []) D (va_A [(h0, .inr (7, [.int 0, .int 0, .int 0, .int 0, .int 0, .int 0, .int (-1), .int (-1), .int 0, .int 0, .int 0, .int 0, .int 0, .int 0, .int 0, .int 0, .ref (qa 0), .ref (qa 1), .ref (qa 2), .ref (qa 3), .int 0, .ref (qa 4), .ref (qa 5), .ref (qa 6), .ref (qa 7), .ref (qa 8), .ref (qa 9), .ref (qa 10), .ref (qa 11), .ref (qa 12), .ref (qa 13), .ref (qa 14), .ref (qa 15), .ref (qa 16), .ref (qa 17), .ref (qa 18), .ref (qa 19), .ref (qa 20), .int 0, .int 0, .int 0, .int 0, .long 0, .long 0, .long 0, .long 0, .long 0, .ref (qa 21), .int 0, .int 0, .int 0, .int 0]))] sz)) 0 0 (va_A [(h0, .inr (7, [.int 0, .int 0, .int 0, .int 0, .int 0, .int 0, .int (-1), .int (-1), .int 0, .int 0, .int 0, .int 0, .int 0, .int 0, .int 0, .int 0, .ref (qa 0), .ref (qa 1), .ref (qa 2), .ref (qa 3), .int 0, .ref (qa 4), .ref (qa 5), .ref (qa 6), .ref (qa 7), .ref (qa 8), .ref (qa 9), .ref (qa 10), .ref (qa 11), .ref (qa 12), .ref (qa 13), .ref (qa 14), .ref (qa 15), .ref (qa 16), .ref (qa 17), .ref (qa 18), .ref (qa 19), .ref (qa 20), .int 0, .int 0, .int 0, .int 0, .long 0, .long 0, .long 0, .long 0, .long 0, .ref (qa 21), .int 0, .int 0, .int 0, .int 0]))] sz) := by
  refine Met.ofW (cc := b_Mo_size) (maxL := 3) (ret := (some .int)) (by decide) rfl ?_
  intro p e s m args below meth c s₁ B hml hv
  obtain ⟨rfl, hsz, hP, hK, hD0, hN, hZ⟩ := hv
  have hx := B.exec
  have hb := B.bytes
  have hr := B.returns
  have hlocks := B.notSynchronized
  have hts : ∀ w ∈ bw, w.before _ s = true := fun w h => atoms_spec (ws := Cond.code y_Mo_size b_Mo_size 3 (some .int) :: bw) B.pre w (List.mem_cons_of_mem _ h)
  have hown : s.vm.findClass "ObjectForgeModel" = some m.cls := findClass_of_methodNamed B.named
  subst hsz
  have hP0 := hP
  have hD := hD0.self (sz := s.heap.size)
  generalize hAe : va_A [(h0, .inr (7, [.int 0, .int 0, .int 0, .int 0, .int 0, .int 0, .int (-1), .int (-1), .int 0, .int 0, .int 0, .int 0, .int 0, .int 0, .int 0, .int 0, .ref (qa 0), .ref (qa 1), .ref (qa 2), .ref (qa 3), .int 0, .ref (qa 4), .ref (qa 5), .ref (qa 6), .ref (qa 7), .ref (qa 8), .ref (qa 9), .ref (qa 10), .ref (qa 11), .ref (qa 12), .ref (qa 13), .ref (qa 14), .ref (qa 15), .ref (qa 16), .ref (qa 17), .ref (qa 18), .ref (qa 19), .ref (qa 20), .int 0, .int 0, .int 0, .int 0, .long 0, .long 0, .long 0, .long 0, .long 0, .ref (qa 21), .int 0, .int 0, .int 0, .int 0]))] s.heap.size = A at hD hZ ⊢
  have hA : ∀ q : Nat, s.heap.size ≤ q → A q := fun q h => by rw [← hAe]; exact Or.inr h
  have hS : va_S A s.heap s.heap [] := va_S.rf
  have hl := lv_entry ([.ref h0, .int p0, .int p1]) (n := 3) (Nat.le_of_ble_eq_true rfl)
  rw [lg_entry_eq]
  generalize (lg_sl ([.ref h0, .int p0, .int p1]) ++ List.replicate (3 - (lg_sl ([.ref h0, .int p0, .int p1])).length) Slot.unset).toArray = ls at hl ⊢
  have hl : lv_has ls 3 [(0, .ref h0), (1, .int p0), (2, .int p1)] := hl
  refine lv_aload_n hx hb d_Mo_size_0 rfl (lv_at hl 0 rfl) ?_
  refine lv_iconst (v := 0) hx hb d_Mo_size_1 (by decide) ?_
  refine va_put (D := D) (ci := 7) (v := .int 0) (ty := .int) (C := R_Mo) (T := F_Mo) (N := 52) hx hb hts i_Mo t_Mo t_Mo_ok n_Mo hown hK hP hD hS 0 rfl rfl 0 (by decide) (hts _ w_397) (fun _ h9 => h9) rfl (by decide +kernel) rfl rfl (Nat.le_of_ble_eq_true rfl) d_Mo_size_2 (fun H locs hP hD hS => ?_)
  have hP : va_P D cls [(h0, .inr (7, [.int 0, .int 0, .int 0, .int 0, .int 0, .int 0, .int (-1), .int (-1), .int 0, .int 0, .int 0, .int 0, .int 0, .int 0, .int 0, .int 0, .ref (qa 0), .ref (qa 1), .ref (qa 2), .ref (qa 3), .int 0, .ref (qa 4), .ref (qa 5), .ref (qa 6), .ref (qa 7), .ref (qa 8), .ref (qa 9), .ref (qa 10), .ref (qa 11), .ref (qa 12), .ref (qa 13), .ref (qa 14), .ref (qa 15), .ref (qa 16), .ref (qa 17), .ref (qa 18), .ref (qa 19), .ref (qa 20), .int 0, .int 0, .int 0, .int 0, .long 0, .long 0, .long 0, .long 0, .long 0, .ref (qa 21), .int 0, .int 0, .int 0, .int 0]))] H := hP
  have hD : va_D A [(h0, .inr (7, [.int 0, .int 0, .int 0, .int 0, .int 0, .int 0, .int (-1), .int (-1), .int 0, .int 0, .int 0, .int 0, .int 0, .int 0, .int 0, .int 0, .ref (qa 0), .ref (qa 1), .ref (qa 2), .ref (qa 3), .int 0, .ref (qa 4), .ref (qa 5), .ref (qa 6), .ref (qa 7), .ref (qa 8), .ref (qa 9), .ref (qa 10), .ref (qa 11), .ref (qa 12), .ref (qa 13), .ref (qa 14), .ref (qa 15), .ref (qa 16), .ref (qa 17), .ref (qa 18), .ref (qa 19), .ref (qa 20), .int 0, .int 0, .int 0, .int 0, .long 0, .long 0, .long 0, .long 0, .long 0, .ref (qa 21), .int 0, .int 0, .int 0, .int 0]))] := hD
  refine lv_iload_n hx hb d_Mo_size_5 rfl (lv_at hl 1 rfl) ?_
  refine lv_aload_n hx hb d_Mo_size_6 rfl (lv_at hl 0 rfl) ?_
  refine va_get (D := D) (ci := 7) (v := .int 0) (C := R_Mo) (T := F_Mo) (N := 52) hx hb hts i_Mo hown hK hP 0 rfl rfl 2 (by decide) (hts _ w_400) (fun _ h9 => h9) rfl d_Mo_size_7 ?_
  refine xc_S (As := [.int p0, .int 0]) (rest := []) (n := 2) (wc := []) (wr := [(h0, .inr (7, [.int 0, .int 0, .int 0, .int 0, .int 0, .int 0, .int (-1), .int (-1), .int 0, .int 0, .int 0, .int 0, .int 0, .int 0, .int 0, .int 0, .ref (qa 0), .ref (qa 1), .ref (qa 2), .ref (qa 3), .int 0, .ref (qa 4), .ref (qa 5), .ref (qa 6), .ref (qa 7), .ref (qa 8), .ref (qa 9), .ref (qa 10), .ref (qa 11), .ref (qa 12), .ref (qa 13), .ref (qa 14), .ref (qa 15), .ref (qa 16), .ref (qa 17), .ref (qa 18), .ref (qa 19), .ref (qa 20), .int 0, .int 0, .int 0, .int 0, .long 0, .long 0, .long 0, .long 0, .long 0, .ref (qa 21), .int 0, .int 0, .int 0, .int 0]))]) (tc := []) (tr := []) ⟨hx, hb, hml, hown, hts⟩ (c_Mo_within_n l D p0 0 hk H.size) rfl rfl w_510 w_508 w_509 w_8 (by decide +kernel) ⟨Nat.le_of_ble_eq_true rfl, Nat.le_of_ble_eq_true rfl⟩ hP hD hK hS hA hN hZ [] [0] rfl rfl (by decide) (by decide) (by decide) [] [] rfl rfl rfl hl.1 rfl (Nat.le_of_ble_eq_true rfl) d_Mo_size_10 ⟨Nat.le_of_ble_eq_true rfl, Nat.le_of_ble_eq_true rfl⟩ (fun u1 H locs hP hD hK hS => ?_)
  have hP : va_P D cls [(h0, .inr (7, [.int 0, .int 0, .int 0, .int 0, .int 0, .int 0, .int (-1), .int (-1), .int 0, .int 0, .int 0, .int 0, .int 0, .int 0, .int 0, .int 0, .ref (qa 0), .ref (qa 1), .ref (qa 2), .ref (qa 3), .int 0, .ref (qa 4), .ref (qa 5), .ref (qa 6), .ref (qa 7), .ref (qa 8), .ref (qa 9), .ref (qa 10), .ref (qa 11), .ref (qa 12), .ref (qa 13), .ref (qa 14), .ref (qa 15), .ref (qa 16), .ref (qa 17), .ref (qa 18), .ref (qa 19), .ref (qa 20), .int 0, .int 0, .int 0, .int 0, .long 0, .long 0, .long 0, .long 0, .long 0, .ref (qa 21), .int 0, .int 0, .int 0, .int 0]))] H := hP
  have hD : va_D A [(h0, .inr (7, [.int 0, .int 0, .int 0, .int 0, .int 0, .int 0, .int (-1), .int (-1), .int 0, .int 0, .int 0, .int 0, .int 0, .int 0, .int 0, .int 0, .ref (qa 0), .ref (qa 1), .ref (qa 2), .ref (qa 3), .int 0, .ref (qa 4), .ref (qa 5), .ref (qa 6), .ref (qa 7), .ref (qa 8), .ref (qa 9), .ref (qa 10), .ref (qa 11), .ref (qa 12), .ref (qa 13), .ref (qa 14), .ref (qa 15), .ref (qa 16), .ref (qa 17), .ref (qa 18), .ref (qa 19), .ref (qa 20), .int 0, .int 0, .int 0, .int 0, .long 0, .long 0, .long 0, .long 0, .long 0, .ref (qa 21), .int 0, .int 0, .int 0, .int 0]))] := hD
  have hK : va_K D cls [] s := hK
  refine W.eq (g2 := F0 m 13 ls [.int 0]) rfl ?_
  refine lv_if_eq (tgt := 37) hx hb d_Mo_size_13 (by decide) (fun _ => ?_) (fun q9 => absurd (by decide : ((0 : Int32) = 0)) q9)
  refine lv_aload_n hx hb d_Mo_size_37 rfl (lv_at hl 0 rfl) ?_
  refine lv_iconst (v := 1) hx hb d_Mo_size_38 (by decide) ?_
  refine xc_V (As := [.int 1]) (rest := []) (n := 1) (wc := [(h0, .inr (7, [.int 0, .int 0, .int 0, .int 0, .int 0, .int 0, .int (-1), .int (-1), .int 0, .int 0, .int 0, .int 0, .int 0, .int 0, .int 0, .int 0, .ref (qa 0), .ref (qa 1), .ref (qa 2), .ref (qa 3), .int 0, .ref (qa 4), .ref (qa 5), .ref (qa 6), .ref (qa 7), .ref (qa 8), .ref (qa 9), .ref (qa 10), .ref (qa 11), .ref (qa 12), .ref (qa 13), .ref (qa 14), .ref (qa 15), .ref (qa 16), .ref (qa 17), .ref (qa 18), .ref (qa 19), .ref (qa 20), .int 0, .int 0, .int 0, .int 0, .long 0, .long 0, .long 0, .long 0, .long 0, .ref (qa 21), .int 0, .int 0, .int 0, .int 0]))]) (wr := []) (tc := []) (tr := []) ⟨hx, hb, hml, hown, hts⟩ (c_Mo_refuse_1 l D h0 qa H.size) rfl rfl w_452 w_450 w_451 w_557 w_8 (by decide +kernel) ⟨Nat.le_of_ble_eq_true rfl, Nat.le_of_ble_eq_true rfl⟩ hP hD hK hS hA hN hZ [0] [] rfl rfl (by decide) (by decide) (by decide) [] [] rfl rfl (ci := 7) (q0 := 0) (q := (R_Mo, F_Mo, 52)) rfl rfl rfl rfl hl.1 rfl (Nat.le_of_ble_eq_true rfl) d_Mo_size_39 ⟨Nat.le_of_ble_eq_true rfl, Nat.le_of_ble_eq_true rfl⟩ (fun u2 H locs hP hD hK hS => ?_)
  have hP : va_P D cls [(h0, .inr (7, [.int 1, .int 0, .int 0, .int 0, .int 0, .int 0, .int (-1), .int (-1), .int 0, .int 0, .int 0, .int 0, .int 0, .int 0, .int 0, .int 0, .ref (qa 0), .ref (qa 1), .ref (qa 2), .ref (qa 3), .int 0, .ref (qa 4), .ref (qa 5), .ref (qa 6), .ref (qa 7), .ref (qa 8), .ref (qa 9), .ref (qa 10), .ref (qa 11), .ref (qa 12), .ref (qa 13), .ref (qa 14), .ref (qa 15), .ref (qa 16), .ref (qa 17), .ref (qa 18), .ref (qa 19), .ref (qa 20), .int 0, .int 0, .int 0, .int 0, .long 0, .long 0, .long 0, .long 0, .long 0, .ref (qa 21), .int 0, .int 0, .int 0, .int 0]))] H := hP
  have hD : va_D A [(h0, .inr (7, [.int 1, .int 0, .int 0, .int 0, .int 0, .int 0, .int (-1), .int (-1), .int 0, .int 0, .int 0, .int 0, .int 0, .int 0, .int 0, .int 0, .ref (qa 0), .ref (qa 1), .ref (qa 2), .ref (qa 3), .int 0, .ref (qa 4), .ref (qa 5), .ref (qa 6), .ref (qa 7), .ref (qa 8), .ref (qa 9), .ref (qa 10), .ref (qa 11), .ref (qa 12), .ref (qa 13), .ref (qa 14), .ref (qa 15), .ref (qa 16), .ref (qa 17), .ref (qa 18), .ref (qa 19), .ref (qa 20), .int 0, .int 0, .int 0, .int 0, .long 0, .long 0, .long 0, .long 0, .long 0, .ref (qa 21), .int 0, .int 0, .int 0, .int 0]))] := hD
  have hK : va_K D cls [] s := hK
  refine W.eq (g2 := F0 m 42 ls [.int 0]) rfl ?_
  exact xr_i hx hb hr hlocks hP hD hK hS (()) [0] rfl rfl (by decide) [] rfl rfl d_Mo_size_42

set_option maxHeartbeats 4000000 in
set_option maxRecDepth 100000 in
theorem c_Mo_size_g (l : Launch) (D : va_G) (h0 : Nat) (qa : Nat → Nat) (p0 p1 : Int32) (hk : ¬ p0 < 0) (hg : 0 ≤ p0) (sz : Nat) : Met l y_Mo_size (Cond.code y_Mo_size b_Mo_size 3 (some .int) :: bw) (xR 2 0 0) (va_Pc [.ref h0, .int p0, .int p1] (xP D [] sz [(h0, .inr (7, [.int 0, .int 0, .int 0, .int 0, .int 0, .int 0, .int (-1), .int (-1), .int 0, .int 0, .int 0, .int 0, .int 0, .int 0, .int 0, .int 0, .ref (qa 0), .ref (qa 1), .ref (qa 2), .ref (qa 3), .int 0, .ref (qa 4), .ref (qa 5), .ref (qa 6), .ref (qa 7), .ref (qa 8), .ref (qa 9), .ref (qa 10), .ref (qa 11), .ref (qa 12), .ref (qa 13), .ref (qa 14), .ref (qa 15), .ref (qa 16), .ref (qa 17), .ref (qa 18), .ref (qa 19), .ref (qa 20), .int 0, .int 0, .int 0, .int 0, .long 0, .long 0, .long 0, .long 0, .long 0, .ref (qa 21), .int 0, .int 0, .int 0, .int 0]))])) (xQ (S := Unit) (fun _ => some (.int 0)) (fun _ => [(h0, .inr (7, [.int 1, .int 0, .int 0, .int 0, .int 0, .int 0, .int (-1), .int (-1), .int 0, .int 0, .int 0, .int 0, .int 0, .int 0, .int 0, .int 0, .ref (qa 0), .ref (qa 1), .ref (qa 2), .ref (qa 3), .int 0, .ref (qa 4), .ref (qa 5), .ref (qa 6), .ref (qa 7), .ref (qa 8), .ref (qa 9), .ref (qa 10), .ref (qa 11), .ref (qa 12), .ref (qa 13), .ref (qa 14), .ref (qa 15), .ref (qa 16), .ref (qa 17), .ref (qa 18), .ref (qa 19), .ref (qa 20), .int 0, .int 0, .int 0, .int 0, .long 0, .long 0, .long 0, .long 0, .long 0, .ref (qa 21), .int 0, .int 0, .int 0, .int 0]))]) (fun _ => []) D (va_A [(h0, .inr (7, [.int 0, .int 0, .int 0, .int 0, .int 0, .int 0, .int (-1), .int (-1), .int 0, .int 0, .int 0, .int 0, .int 0, .int 0, .int 0, .int 0, .ref (qa 0), .ref (qa 1), .ref (qa 2), .ref (qa 3), .int 0, .ref (qa 4), .ref (qa 5), .ref (qa 6), .ref (qa 7), .ref (qa 8), .ref (qa 9), .ref (qa 10), .ref (qa 11), .ref (qa 12), .ref (qa 13), .ref (qa 14), .ref (qa 15), .ref (qa 16), .ref (qa 17), .ref (qa 18), .ref (qa 19), .ref (qa 20), .int 0, .int 0, .int 0, .int 0, .long 0, .long 0, .long 0, .long 0, .long 0, .ref (qa 21), .int 0, .int 0, .int 0, .int 0]))] sz)) 0 0 (va_A [(h0, .inr (7, [.int 0, .int 0, .int 0, .int 0, .int 0, .int 0, .int (-1), .int (-1), .int 0, .int 0, .int 0, .int 0, .int 0, .int 0, .int 0, .int 0, .ref (qa 0), .ref (qa 1), .ref (qa 2), .ref (qa 3), .int 0, .ref (qa 4), .ref (qa 5), .ref (qa 6), .ref (qa 7), .ref (qa 8), .ref (qa 9), .ref (qa 10), .ref (qa 11), .ref (qa 12), .ref (qa 13), .ref (qa 14), .ref (qa 15), .ref (qa 16), .ref (qa 17), .ref (qa 18), .ref (qa 19), .ref (qa 20), .int 0, .int 0, .int 0, .int 0, .long 0, .long 0, .long 0, .long 0, .long 0, .ref (qa 21), .int 0, .int 0, .int 0, .int 0]))] sz) := by
  refine Met.ofW (cc := b_Mo_size) (maxL := 3) (ret := (some .int)) (by decide) rfl ?_
  intro p e s m args below meth c s₁ B hml hv
  obtain ⟨rfl, hsz, hP, hK, hD0, hN, hZ⟩ := hv
  have hx := B.exec
  have hb := B.bytes
  have hr := B.returns
  have hlocks := B.notSynchronized
  have hts : ∀ w ∈ bw, w.before _ s = true := fun w h => atoms_spec (ws := Cond.code y_Mo_size b_Mo_size 3 (some .int) :: bw) B.pre w (List.mem_cons_of_mem _ h)
  have hown : s.vm.findClass "ObjectForgeModel" = some m.cls := findClass_of_methodNamed B.named
  subst hsz
  have hP0 := hP
  have hD := hD0.self (sz := s.heap.size)
  generalize hAe : va_A [(h0, .inr (7, [.int 0, .int 0, .int 0, .int 0, .int 0, .int 0, .int (-1), .int (-1), .int 0, .int 0, .int 0, .int 0, .int 0, .int 0, .int 0, .int 0, .ref (qa 0), .ref (qa 1), .ref (qa 2), .ref (qa 3), .int 0, .ref (qa 4), .ref (qa 5), .ref (qa 6), .ref (qa 7), .ref (qa 8), .ref (qa 9), .ref (qa 10), .ref (qa 11), .ref (qa 12), .ref (qa 13), .ref (qa 14), .ref (qa 15), .ref (qa 16), .ref (qa 17), .ref (qa 18), .ref (qa 19), .ref (qa 20), .int 0, .int 0, .int 0, .int 0, .long 0, .long 0, .long 0, .long 0, .long 0, .ref (qa 21), .int 0, .int 0, .int 0, .int 0]))] s.heap.size = A at hD hZ ⊢
  have hA : ∀ q : Nat, s.heap.size ≤ q → A q := fun q h => by rw [← hAe]; exact Or.inr h
  have hS : va_S A s.heap s.heap [] := va_S.rf
  have hl := lv_entry ([.ref h0, .int p0, .int p1]) (n := 3) (Nat.le_of_ble_eq_true rfl)
  rw [lg_entry_eq]
  generalize (lg_sl ([.ref h0, .int p0, .int p1]) ++ List.replicate (3 - (lg_sl ([.ref h0, .int p0, .int p1])).length) Slot.unset).toArray = ls at hl ⊢
  have hl : lv_has ls 3 [(0, .ref h0), (1, .int p0), (2, .int p1)] := hl
  refine lv_aload_n hx hb d_Mo_size_0 rfl (lv_at hl 0 rfl) ?_
  refine lv_iconst (v := 0) hx hb d_Mo_size_1 (by decide) ?_
  refine va_put (D := D) (ci := 7) (v := .int 0) (ty := .int) (C := R_Mo) (T := F_Mo) (N := 52) hx hb hts i_Mo t_Mo t_Mo_ok n_Mo hown hK hP hD hS 0 rfl rfl 0 (by decide) (hts _ w_397) (fun _ h9 => h9) rfl (by decide +kernel) rfl rfl (Nat.le_of_ble_eq_true rfl) d_Mo_size_2 (fun H locs hP hD hS => ?_)
  have hP : va_P D cls [(h0, .inr (7, [.int 0, .int 0, .int 0, .int 0, .int 0, .int 0, .int (-1), .int (-1), .int 0, .int 0, .int 0, .int 0, .int 0, .int 0, .int 0, .int 0, .ref (qa 0), .ref (qa 1), .ref (qa 2), .ref (qa 3), .int 0, .ref (qa 4), .ref (qa 5), .ref (qa 6), .ref (qa 7), .ref (qa 8), .ref (qa 9), .ref (qa 10), .ref (qa 11), .ref (qa 12), .ref (qa 13), .ref (qa 14), .ref (qa 15), .ref (qa 16), .ref (qa 17), .ref (qa 18), .ref (qa 19), .ref (qa 20), .int 0, .int 0, .int 0, .int 0, .long 0, .long 0, .long 0, .long 0, .long 0, .ref (qa 21), .int 0, .int 0, .int 0, .int 0]))] H := hP
  have hD : va_D A [(h0, .inr (7, [.int 0, .int 0, .int 0, .int 0, .int 0, .int 0, .int (-1), .int (-1), .int 0, .int 0, .int 0, .int 0, .int 0, .int 0, .int 0, .int 0, .ref (qa 0), .ref (qa 1), .ref (qa 2), .ref (qa 3), .int 0, .ref (qa 4), .ref (qa 5), .ref (qa 6), .ref (qa 7), .ref (qa 8), .ref (qa 9), .ref (qa 10), .ref (qa 11), .ref (qa 12), .ref (qa 13), .ref (qa 14), .ref (qa 15), .ref (qa 16), .ref (qa 17), .ref (qa 18), .ref (qa 19), .ref (qa 20), .int 0, .int 0, .int 0, .int 0, .long 0, .long 0, .long 0, .long 0, .long 0, .ref (qa 21), .int 0, .int 0, .int 0, .int 0]))] := hD
  refine lv_iload_n hx hb d_Mo_size_5 rfl (lv_at hl 1 rfl) ?_
  refine lv_aload_n hx hb d_Mo_size_6 rfl (lv_at hl 0 rfl) ?_
  refine va_get (D := D) (ci := 7) (v := .int 0) (C := R_Mo) (T := F_Mo) (N := 52) hx hb hts i_Mo hown hK hP 0 rfl rfl 2 (by decide) (hts _ w_400) (fun _ h9 => h9) rfl d_Mo_size_7 ?_
  refine xc_S (As := [.int p0, .int 0]) (rest := []) (n := 2) (wc := []) (wr := [(h0, .inr (7, [.int 0, .int 0, .int 0, .int 0, .int 0, .int 0, .int (-1), .int (-1), .int 0, .int 0, .int 0, .int 0, .int 0, .int 0, .int 0, .int 0, .ref (qa 0), .ref (qa 1), .ref (qa 2), .ref (qa 3), .int 0, .ref (qa 4), .ref (qa 5), .ref (qa 6), .ref (qa 7), .ref (qa 8), .ref (qa 9), .ref (qa 10), .ref (qa 11), .ref (qa 12), .ref (qa 13), .ref (qa 14), .ref (qa 15), .ref (qa 16), .ref (qa 17), .ref (qa 18), .ref (qa 19), .ref (qa 20), .int 0, .int 0, .int 0, .int 0, .long 0, .long 0, .long 0, .long 0, .long 0, .ref (qa 21), .int 0, .int 0, .int 0, .int 0]))]) (tc := []) (tr := []) ⟨hx, hb, hml, hown, hts⟩ (c_Mo_within_g l D p0 0 hk hg H.size) rfl rfl w_510 w_508 w_509 w_8 (by decide +kernel) ⟨Nat.le_of_ble_eq_true rfl, Nat.le_of_ble_eq_true rfl⟩ hP hD hK hS hA hN hZ [] [0] rfl rfl (by decide) (by decide) (by decide) [] [] rfl rfl rfl hl.1 rfl (Nat.le_of_ble_eq_true rfl) d_Mo_size_10 ⟨Nat.le_of_ble_eq_true rfl, Nat.le_of_ble_eq_true rfl⟩ (fun u1 H locs hP hD hK hS => ?_)
  have hP : va_P D cls [(h0, .inr (7, [.int 0, .int 0, .int 0, .int 0, .int 0, .int 0, .int (-1), .int (-1), .int 0, .int 0, .int 0, .int 0, .int 0, .int 0, .int 0, .int 0, .ref (qa 0), .ref (qa 1), .ref (qa 2), .ref (qa 3), .int 0, .ref (qa 4), .ref (qa 5), .ref (qa 6), .ref (qa 7), .ref (qa 8), .ref (qa 9), .ref (qa 10), .ref (qa 11), .ref (qa 12), .ref (qa 13), .ref (qa 14), .ref (qa 15), .ref (qa 16), .ref (qa 17), .ref (qa 18), .ref (qa 19), .ref (qa 20), .int 0, .int 0, .int 0, .int 0, .long 0, .long 0, .long 0, .long 0, .long 0, .ref (qa 21), .int 0, .int 0, .int 0, .int 0]))] H := hP
  have hD : va_D A [(h0, .inr (7, [.int 0, .int 0, .int 0, .int 0, .int 0, .int 0, .int (-1), .int (-1), .int 0, .int 0, .int 0, .int 0, .int 0, .int 0, .int 0, .int 0, .ref (qa 0), .ref (qa 1), .ref (qa 2), .ref (qa 3), .int 0, .ref (qa 4), .ref (qa 5), .ref (qa 6), .ref (qa 7), .ref (qa 8), .ref (qa 9), .ref (qa 10), .ref (qa 11), .ref (qa 12), .ref (qa 13), .ref (qa 14), .ref (qa 15), .ref (qa 16), .ref (qa 17), .ref (qa 18), .ref (qa 19), .ref (qa 20), .int 0, .int 0, .int 0, .int 0, .long 0, .long 0, .long 0, .long 0, .long 0, .ref (qa 21), .int 0, .int 0, .int 0, .int 0]))] := hD
  have hK : va_K D cls [] s := hK
  refine W.eq (g2 := F0 m 13 ls [.int 0]) rfl ?_
  refine lv_if_eq (tgt := 37) hx hb d_Mo_size_13 (by decide) (fun _ => ?_) (fun q9 => absurd (by decide : ((0 : Int32) = 0)) q9)
  refine lv_aload_n hx hb d_Mo_size_37 rfl (lv_at hl 0 rfl) ?_
  refine lv_iconst (v := 1) hx hb d_Mo_size_38 (by decide) ?_
  refine xc_V (As := [.int 1]) (rest := []) (n := 1) (wc := [(h0, .inr (7, [.int 0, .int 0, .int 0, .int 0, .int 0, .int 0, .int (-1), .int (-1), .int 0, .int 0, .int 0, .int 0, .int 0, .int 0, .int 0, .int 0, .ref (qa 0), .ref (qa 1), .ref (qa 2), .ref (qa 3), .int 0, .ref (qa 4), .ref (qa 5), .ref (qa 6), .ref (qa 7), .ref (qa 8), .ref (qa 9), .ref (qa 10), .ref (qa 11), .ref (qa 12), .ref (qa 13), .ref (qa 14), .ref (qa 15), .ref (qa 16), .ref (qa 17), .ref (qa 18), .ref (qa 19), .ref (qa 20), .int 0, .int 0, .int 0, .int 0, .long 0, .long 0, .long 0, .long 0, .long 0, .ref (qa 21), .int 0, .int 0, .int 0, .int 0]))]) (wr := []) (tc := []) (tr := []) ⟨hx, hb, hml, hown, hts⟩ (c_Mo_refuse_1 l D h0 qa H.size) rfl rfl w_452 w_450 w_451 w_557 w_8 (by decide +kernel) ⟨Nat.le_of_ble_eq_true rfl, Nat.le_of_ble_eq_true rfl⟩ hP hD hK hS hA hN hZ [0] [] rfl rfl (by decide) (by decide) (by decide) [] [] rfl rfl (ci := 7) (q0 := 0) (q := (R_Mo, F_Mo, 52)) rfl rfl rfl rfl hl.1 rfl (Nat.le_of_ble_eq_true rfl) d_Mo_size_39 ⟨Nat.le_of_ble_eq_true rfl, Nat.le_of_ble_eq_true rfl⟩ (fun u2 H locs hP hD hK hS => ?_)
  have hP : va_P D cls [(h0, .inr (7, [.int 1, .int 0, .int 0, .int 0, .int 0, .int 0, .int (-1), .int (-1), .int 0, .int 0, .int 0, .int 0, .int 0, .int 0, .int 0, .int 0, .ref (qa 0), .ref (qa 1), .ref (qa 2), .ref (qa 3), .int 0, .ref (qa 4), .ref (qa 5), .ref (qa 6), .ref (qa 7), .ref (qa 8), .ref (qa 9), .ref (qa 10), .ref (qa 11), .ref (qa 12), .ref (qa 13), .ref (qa 14), .ref (qa 15), .ref (qa 16), .ref (qa 17), .ref (qa 18), .ref (qa 19), .ref (qa 20), .int 0, .int 0, .int 0, .int 0, .long 0, .long 0, .long 0, .long 0, .long 0, .ref (qa 21), .int 0, .int 0, .int 0, .int 0]))] H := hP
  have hD : va_D A [(h0, .inr (7, [.int 1, .int 0, .int 0, .int 0, .int 0, .int 0, .int (-1), .int (-1), .int 0, .int 0, .int 0, .int 0, .int 0, .int 0, .int 0, .int 0, .ref (qa 0), .ref (qa 1), .ref (qa 2), .ref (qa 3), .int 0, .ref (qa 4), .ref (qa 5), .ref (qa 6), .ref (qa 7), .ref (qa 8), .ref (qa 9), .ref (qa 10), .ref (qa 11), .ref (qa 12), .ref (qa 13), .ref (qa 14), .ref (qa 15), .ref (qa 16), .ref (qa 17), .ref (qa 18), .ref (qa 19), .ref (qa 20), .int 0, .int 0, .int 0, .int 0, .long 0, .long 0, .long 0, .long 0, .long 0, .ref (qa 21), .int 0, .int 0, .int 0, .int 0]))] := hD
  have hK : va_K D cls [] s := hK
  refine W.eq (g2 := F0 m 42 ls [.int 0]) rfl ?_
  exact xr_i hx hb hr hlocks hP hD hK hS (()) [0] rfl rfl (by decide) [] rfl rfl d_Mo_size_42

theorem d_Mo_byteAt_0 : decode b_Mo_byteAt 0 = .ok (.aload_n 0, 1) := by decide +kernel
theorem d_Mo_byteAt_1 : decode b_Mo_byteAt 1 = .ok (.iconst 0, 1) := by decide +kernel
theorem d_Mo_byteAt_2 : decode b_Mo_byteAt 2 = .ok (.putfield 88, 3) := by decide +kernel
theorem d_Mo_byteAt_5 : decode b_Mo_byteAt 5 = .ok (.iload_n 1, 1) := by decide +kernel
theorem d_Mo_byteAt_6 : decode b_Mo_byteAt 6 = .ok (.aload_n 0, 1) := by decide +kernel
theorem d_Mo_byteAt_7 : decode b_Mo_byteAt 7 = .ok (.getfield 1010, 3) := by decide +kernel
theorem d_Mo_byteAt_10 : decode b_Mo_byteAt 10 = .ok (.invokestatic 1181, 3) := by decide +kernel
theorem d_Mo_byteAt_13 : decode b_Mo_byteAt 13 = .ok (.ifCond .eq 51, 3) := by decide +kernel
theorem d_Mo_byteAt_64 : decode b_Mo_byteAt 64 = .ok (.aload_n 0, 1) := by decide +kernel
theorem d_Mo_byteAt_65 : decode b_Mo_byteAt 65 = .ok (.iconst 1, 1) := by decide +kernel
theorem d_Mo_byteAt_66 : decode b_Mo_byteAt 66 = .ok (.invokevirtual 94, 3) := by decide +kernel
theorem d_Mo_byteAt_69 : decode b_Mo_byteAt 69 = .ok (.ireturn, 1) := by decide +kernel
set_option maxHeartbeats 4000000 in
set_option maxRecDepth 100000 in
theorem c_Mo_byteAt_n (l : Launch) (D : va_G) (h0 : Nat) (qa : Nat → Nat) (p0 p1 p2 : Int32) (hk : p0 < 0) (sz : Nat) : Met l y_Mo_byteAt (Cond.code y_Mo_byteAt b_Mo_byteAt 4 (some .int) :: bw) (xR 2 0 0) (va_Pc [.ref h0, .int p0, .int p1, .int p2] (xP D [] sz [(h0, .inr (7, [.int 0, .int 0, .int 0, .int 0, .int 0, .int 0, .int (-1), .int (-1), .int 0, .int 0, .int 0, .int 0, .int 0, .int 0, .int 0, .int 0, .ref (qa 0), .ref (qa 1), .ref (qa 2), .ref (qa 3), .int 0, .ref (qa 4), .ref (qa 5), .ref (qa 6), .ref (qa 7), .ref (qa 8), .ref (qa 9), .ref (qa 10), .ref (qa 11), .ref (qa 12), .ref (qa 13), .ref (qa 14), .ref (qa 15), .ref (qa 16), .ref (qa 17), .ref (qa 18), .ref (qa 19), .ref (qa 20), .int 0, .int 0, .int 0, .int 0, .long 0, .long 0, .long 0, .long 0, .long 0, .ref (qa 21), .int 0, .int 0, .int 0, .int 0]))])) (xQ (S := Unit) (fun _ => some (.int 0)) (fun _ => [(h0, .inr (7, [.int 1, .int 0, .int 0, .int 0, .int 0, .int 0, .int (-1), .int (-1), .int 0, .int 0, .int 0, .int 0, .int 0, .int 0, .int 0, .int 0, .ref (qa 0), .ref (qa 1), .ref (qa 2), .ref (qa 3), .int 0, .ref (qa 4), .ref (qa 5), .ref (qa 6), .ref (qa 7), .ref (qa 8), .ref (qa 9), .ref (qa 10), .ref (qa 11), .ref (qa 12), .ref (qa 13), .ref (qa 14), .ref (qa 15), .ref (qa 16), .ref (qa 17), .ref (qa 18), .ref (qa 19), .ref (qa 20), .int 0, .int 0, .int 0, .int 0, .long 0, .long 0, .long 0, .long 0, .long 0, .ref (qa 21), .int 0, .int 0, .int 0, .int 0]))]) (fun _ => []) D (va_A [(h0, .inr (7, [.int 0, .int 0, .int 0, .int 0, .int 0, .int 0, .int (-1), .int (-1), .int 0, .int 0, .int 0, .int 0, .int 0, .int 0, .int 0, .int 0, .ref (qa 0), .ref (qa 1), .ref (qa 2), .ref (qa 3), .int 0, .ref (qa 4), .ref (qa 5), .ref (qa 6), .ref (qa 7), .ref (qa 8), .ref (qa 9), .ref (qa 10), .ref (qa 11), .ref (qa 12), .ref (qa 13), .ref (qa 14), .ref (qa 15), .ref (qa 16), .ref (qa 17), .ref (qa 18), .ref (qa 19), .ref (qa 20), .int 0, .int 0, .int 0, .int 0, .long 0, .long 0, .long 0, .long 0, .long 0, .ref (qa 21), .int 0, .int 0, .int 0, .int 0]))] sz)) 0 0 (va_A [(h0, .inr (7, [.int 0, .int 0, .int 0, .int 0, .int 0, .int 0, .int (-1), .int (-1), .int 0, .int 0, .int 0, .int 0, .int 0, .int 0, .int 0, .int 0, .ref (qa 0), .ref (qa 1), .ref (qa 2), .ref (qa 3), .int 0, .ref (qa 4), .ref (qa 5), .ref (qa 6), .ref (qa 7), .ref (qa 8), .ref (qa 9), .ref (qa 10), .ref (qa 11), .ref (qa 12), .ref (qa 13), .ref (qa 14), .ref (qa 15), .ref (qa 16), .ref (qa 17), .ref (qa 18), .ref (qa 19), .ref (qa 20), .int 0, .int 0, .int 0, .int 0, .long 0, .long 0, .long 0, .long 0, .long 0, .ref (qa 21), .int 0, .int 0, .int 0, .int 0]))] sz) := by
  refine Met.ofW (cc := b_Mo_byteAt) (maxL := 4) (ret := (some .int)) (by decide) rfl ?_
  intro p e s m args below meth c s₁ B hml hv
  obtain ⟨rfl, hsz, hP, hK, hD0, hN, hZ⟩ := hv
  have hx := B.exec
  have hb := B.bytes
  have hr := B.returns
  have hlocks := B.notSynchronized
  have hts : ∀ w ∈ bw, w.before _ s = true := fun w h => atoms_spec (ws := Cond.code y_Mo_byteAt b_Mo_byteAt 4 (some .int) :: bw) B.pre w (List.mem_cons_of_mem _ h)
  have hown : s.vm.findClass "ObjectForgeModel" = some m.cls := findClass_of_methodNamed B.named
  subst hsz
  have hP0 := hP
  have hD := hD0.self (sz := s.heap.size)
  generalize hAe : va_A [(h0, .inr (7, [.int 0, .int 0, .int 0, .int 0, .int 0, .int 0, .int (-1), .int (-1), .int 0, .int 0, .int 0, .int 0, .int 0, .int 0, .int 0, .int 0, .ref (qa 0), .ref (qa 1), .ref (qa 2), .ref (qa 3), .int 0, .ref (qa 4), .ref (qa 5), .ref (qa 6), .ref (qa 7), .ref (qa 8), .ref (qa 9), .ref (qa 10), .ref (qa 11), .ref (qa 12), .ref (qa 13), .ref (qa 14), .ref (qa 15), .ref (qa 16), .ref (qa 17), .ref (qa 18), .ref (qa 19), .ref (qa 20), .int 0, .int 0, .int 0, .int 0, .long 0, .long 0, .long 0, .long 0, .long 0, .ref (qa 21), .int 0, .int 0, .int 0, .int 0]))] s.heap.size = A at hD hZ ⊢
  have hA : ∀ q : Nat, s.heap.size ≤ q → A q := fun q h => by rw [← hAe]; exact Or.inr h
  have hS : va_S A s.heap s.heap [] := va_S.rf
  have hl := lv_entry ([.ref h0, .int p0, .int p1, .int p2]) (n := 4) (Nat.le_of_ble_eq_true rfl)
  rw [lg_entry_eq]
  generalize (lg_sl ([.ref h0, .int p0, .int p1, .int p2]) ++ List.replicate (4 - (lg_sl ([.ref h0, .int p0, .int p1, .int p2])).length) Slot.unset).toArray = ls at hl ⊢
  have hl : lv_has ls 4 [(0, .ref h0), (1, .int p0), (2, .int p1), (3, .int p2)] := hl
  refine lv_aload_n hx hb d_Mo_byteAt_0 rfl (lv_at hl 0 rfl) ?_
  refine lv_iconst (v := 0) hx hb d_Mo_byteAt_1 (by decide) ?_
  refine va_put (D := D) (ci := 7) (v := .int 0) (ty := .int) (C := R_Mo) (T := F_Mo) (N := 52) hx hb hts i_Mo t_Mo t_Mo_ok n_Mo hown hK hP hD hS 0 rfl rfl 0 (by decide) (hts _ w_397) (fun _ h9 => h9) rfl (by decide +kernel) rfl rfl (Nat.le_of_ble_eq_true rfl) d_Mo_byteAt_2 (fun H locs hP hD hS => ?_)
  have hP : va_P D cls [(h0, .inr (7, [.int 0, .int 0, .int 0, .int 0, .int 0, .int 0, .int (-1), .int (-1), .int 0, .int 0, .int 0, .int 0, .int 0, .int 0, .int 0, .int 0, .ref (qa 0), .ref (qa 1), .ref (qa 2), .ref (qa 3), .int 0, .ref (qa 4), .ref (qa 5), .ref (qa 6), .ref (qa 7), .ref (qa 8), .ref (qa 9), .ref (qa 10), .ref (qa 11), .ref (qa 12), .ref (qa 13), .ref (qa 14), .ref (qa 15), .ref (qa 16), .ref (qa 17), .ref (qa 18), .ref (qa 19), .ref (qa 20), .int 0, .int 0, .int 0, .int 0, .long 0, .long 0, .long 0, .long 0, .long 0, .ref (qa 21), .int 0, .int 0, .int 0, .int 0]))] H := hP
  have hD : va_D A [(h0, .inr (7, [.int 0, .int 0, .int 0, .int 0, .int 0, .int 0, .int (-1), .int (-1), .int 0, .int 0, .int 0, .int 0, .int 0, .int 0, .int 0, .int 0, .ref (qa 0), .ref (qa 1), .ref (qa 2), .ref (qa 3), .int 0, .ref (qa 4), .ref (qa 5), .ref (qa 6), .ref (qa 7), .ref (qa 8), .ref (qa 9), .ref (qa 10), .ref (qa 11), .ref (qa 12), .ref (qa 13), .ref (qa 14), .ref (qa 15), .ref (qa 16), .ref (qa 17), .ref (qa 18), .ref (qa 19), .ref (qa 20), .int 0, .int 0, .int 0, .int 0, .long 0, .long 0, .long 0, .long 0, .long 0, .ref (qa 21), .int 0, .int 0, .int 0, .int 0]))] := hD
  refine lv_iload_n hx hb d_Mo_byteAt_5 rfl (lv_at hl 1 rfl) ?_
  refine lv_aload_n hx hb d_Mo_byteAt_6 rfl (lv_at hl 0 rfl) ?_
  refine va_get (D := D) (ci := 7) (v := .int 0) (C := R_Mo) (T := F_Mo) (N := 52) hx hb hts i_Mo hown hK hP 0 rfl rfl 2 (by decide) (hts _ w_400) (fun _ h9 => h9) rfl d_Mo_byteAt_7 ?_
  refine xc_S (As := [.int p0, .int 0]) (rest := []) (n := 2) (wc := []) (wr := [(h0, .inr (7, [.int 0, .int 0, .int 0, .int 0, .int 0, .int 0, .int (-1), .int (-1), .int 0, .int 0, .int 0, .int 0, .int 0, .int 0, .int 0, .int 0, .ref (qa 0), .ref (qa 1), .ref (qa 2), .ref (qa 3), .int 0, .ref (qa 4), .ref (qa 5), .ref (qa 6), .ref (qa 7), .ref (qa 8), .ref (qa 9), .ref (qa 10), .ref (qa 11), .ref (qa 12), .ref (qa 13), .ref (qa 14), .ref (qa 15), .ref (qa 16), .ref (qa 17), .ref (qa 18), .ref (qa 19), .ref (qa 20), .int 0, .int 0, .int 0, .int 0, .long 0, .long 0, .long 0, .long 0, .long 0, .ref (qa 21), .int 0, .int 0, .int 0, .int 0]))]) (tc := []) (tr := []) ⟨hx, hb, hml, hown, hts⟩ (c_Mo_within_n l D p0 0 hk H.size) rfl rfl w_510 w_508 w_509 w_8 (by decide +kernel) ⟨Nat.le_of_ble_eq_true rfl, Nat.le_of_ble_eq_true rfl⟩ hP hD hK hS hA hN hZ [] [0] rfl rfl (by decide) (by decide) (by decide) [] [] rfl rfl rfl hl.1 rfl (Nat.le_of_ble_eq_true rfl) d_Mo_byteAt_10 ⟨Nat.le_of_ble_eq_true rfl, Nat.le_of_ble_eq_true rfl⟩ (fun u1 H locs hP hD hK hS => ?_)
  have hP : va_P D cls [(h0, .inr (7, [.int 0, .int 0, .int 0, .int 0, .int 0, .int 0, .int (-1), .int (-1), .int 0, .int 0, .int 0, .int 0, .int 0, .int 0, .int 0, .int 0, .ref (qa 0), .ref (qa 1), .ref (qa 2), .ref (qa 3), .int 0, .ref (qa 4), .ref (qa 5), .ref (qa 6), .ref (qa 7), .ref (qa 8), .ref (qa 9), .ref (qa 10), .ref (qa 11), .ref (qa 12), .ref (qa 13), .ref (qa 14), .ref (qa 15), .ref (qa 16), .ref (qa 17), .ref (qa 18), .ref (qa 19), .ref (qa 20), .int 0, .int 0, .int 0, .int 0, .long 0, .long 0, .long 0, .long 0, .long 0, .ref (qa 21), .int 0, .int 0, .int 0, .int 0]))] H := hP
  have hD : va_D A [(h0, .inr (7, [.int 0, .int 0, .int 0, .int 0, .int 0, .int 0, .int (-1), .int (-1), .int 0, .int 0, .int 0, .int 0, .int 0, .int 0, .int 0, .int 0, .ref (qa 0), .ref (qa 1), .ref (qa 2), .ref (qa 3), .int 0, .ref (qa 4), .ref (qa 5), .ref (qa 6), .ref (qa 7), .ref (qa 8), .ref (qa 9), .ref (qa 10), .ref (qa 11), .ref (qa 12), .ref (qa 13), .ref (qa 14), .ref (qa 15), .ref (qa 16), .ref (qa 17), .ref (qa 18), .ref (qa 19), .ref (qa 20), .int 0, .int 0, .int 0, .int 0, .long 0, .long 0, .long 0, .long 0, .long 0, .ref (qa 21), .int 0, .int 0, .int 0, .int 0]))] := hD
  have hK : va_K D cls [] s := hK
  refine W.eq (g2 := F0 m 13 ls [.int 0]) rfl ?_
  refine lv_if_eq (tgt := 64) hx hb d_Mo_byteAt_13 (by decide) (fun _ => ?_) (fun q9 => absurd (by decide : ((0 : Int32) = 0)) q9)
  refine lv_aload_n hx hb d_Mo_byteAt_64 rfl (lv_at hl 0 rfl) ?_
  refine lv_iconst (v := 1) hx hb d_Mo_byteAt_65 (by decide) ?_
  refine xc_V (As := [.int 1]) (rest := []) (n := 1) (wc := [(h0, .inr (7, [.int 0, .int 0, .int 0, .int 0, .int 0, .int 0, .int (-1), .int (-1), .int 0, .int 0, .int 0, .int 0, .int 0, .int 0, .int 0, .int 0, .ref (qa 0), .ref (qa 1), .ref (qa 2), .ref (qa 3), .int 0, .ref (qa 4), .ref (qa 5), .ref (qa 6), .ref (qa 7), .ref (qa 8), .ref (qa 9), .ref (qa 10), .ref (qa 11), .ref (qa 12), .ref (qa 13), .ref (qa 14), .ref (qa 15), .ref (qa 16), .ref (qa 17), .ref (qa 18), .ref (qa 19), .ref (qa 20), .int 0, .int 0, .int 0, .int 0, .long 0, .long 0, .long 0, .long 0, .long 0, .ref (qa 21), .int 0, .int 0, .int 0, .int 0]))]) (wr := []) (tc := []) (tr := []) ⟨hx, hb, hml, hown, hts⟩ (c_Mo_refuse_1 l D h0 qa H.size) rfl rfl w_452 w_450 w_451 w_557 w_8 (by decide +kernel) ⟨Nat.le_of_ble_eq_true rfl, Nat.le_of_ble_eq_true rfl⟩ hP hD hK hS hA hN hZ [0] [] rfl rfl (by decide) (by decide) (by decide) [] [] rfl rfl (ci := 7) (q0 := 0) (q := (R_Mo, F_Mo, 52)) rfl rfl rfl rfl hl.1 rfl (Nat.le_of_ble_eq_true rfl) d_Mo_byteAt_66 ⟨Nat.le_of_ble_eq_true rfl, Nat.le_of_ble_eq_true rfl⟩ (fun u2 H locs hP hD hK hS => ?_)
  have hP : va_P D cls [(h0, .inr (7, [.int 1, .int 0, .int 0, .int 0, .int 0, .int 0, .int (-1), .int (-1), .int 0, .int 0, .int 0, .int 0, .int 0, .int 0, .int 0, .int 0, .ref (qa 0), .ref (qa 1), .ref (qa 2), .ref (qa 3), .int 0, .ref (qa 4), .ref (qa 5), .ref (qa 6), .ref (qa 7), .ref (qa 8), .ref (qa 9), .ref (qa 10), .ref (qa 11), .ref (qa 12), .ref (qa 13), .ref (qa 14), .ref (qa 15), .ref (qa 16), .ref (qa 17), .ref (qa 18), .ref (qa 19), .ref (qa 20), .int 0, .int 0, .int 0, .int 0, .long 0, .long 0, .long 0, .long 0, .long 0, .ref (qa 21), .int 0, .int 0, .int 0, .int 0]))] H := hP
  have hD : va_D A [(h0, .inr (7, [.int 1, .int 0, .int 0, .int 0, .int 0, .int 0, .int (-1), .int (-1), .int 0, .int 0, .int 0, .int 0, .int 0, .int 0, .int 0, .int 0, .ref (qa 0), .ref (qa 1), .ref (qa 2), .ref (qa 3), .int 0, .ref (qa 4), .ref (qa 5), .ref (qa 6), .ref (qa 7), .ref (qa 8), .ref (qa 9), .ref (qa 10), .ref (qa 11), .ref (qa 12), .ref (qa 13), .ref (qa 14), .ref (qa 15), .ref (qa 16), .ref (qa 17), .ref (qa 18), .ref (qa 19), .ref (qa 20), .int 0, .int 0, .int 0, .int 0, .long 0, .long 0, .long 0, .long 0, .long 0, .ref (qa 21), .int 0, .int 0, .int 0, .int 0]))] := hD
  have hK : va_K D cls [] s := hK
  refine W.eq (g2 := F0 m 69 ls [.int 0]) rfl ?_
  exact xr_i hx hb hr hlocks hP hD hK hS (()) [0] rfl rfl (by decide) [] rfl rfl d_Mo_byteAt_69

set_option maxHeartbeats 4000000 in
set_option maxRecDepth 100000 in
theorem c_Mo_byteAt_g (l : Launch) (D : va_G) (h0 : Nat) (qa : Nat → Nat) (p0 p1 p2 : Int32) (hk : ¬ p0 < 0) (hg : 0 ≤ p0) (sz : Nat) : Met l y_Mo_byteAt (Cond.code y_Mo_byteAt b_Mo_byteAt 4 (some .int) :: bw) (xR 2 0 0) (va_Pc [.ref h0, .int p0, .int p1, .int p2] (xP D [] sz [(h0, .inr (7, [.int 0, .int 0, .int 0, .int 0, .int 0, .int 0, .int (-1), .int (-1), .int 0, .int 0, .int 0, .int 0, .int 0, .int 0, .int 0, .int 0, .ref (qa 0), .ref (qa 1), .ref (qa 2), .ref (qa 3), .int 0, .ref (qa 4), .ref (qa 5), .ref (qa 6), .ref (qa 7), .ref (qa 8), .ref (qa 9), .ref (qa 10), .ref (qa 11), .ref (qa 12), .ref (qa 13), .ref (qa 14), .ref (qa 15), .ref (qa 16), .ref (qa 17), .ref (qa 18), .ref (qa 19), .ref (qa 20), .int 0, .int 0, .int 0, .int 0, .long 0, .long 0, .long 0, .long 0, .long 0, .ref (qa 21), .int 0, .int 0, .int 0, .int 0]))])) (xQ (S := Unit) (fun _ => some (.int 0)) (fun _ => [(h0, .inr (7, [.int 1, .int 0, .int 0, .int 0, .int 0, .int 0, .int (-1), .int (-1), .int 0, .int 0, .int 0, .int 0, .int 0, .int 0, .int 0, .int 0, .ref (qa 0), .ref (qa 1), .ref (qa 2), .ref (qa 3), .int 0, .ref (qa 4), .ref (qa 5), .ref (qa 6), .ref (qa 7), .ref (qa 8), .ref (qa 9), .ref (qa 10), .ref (qa 11), .ref (qa 12), .ref (qa 13), .ref (qa 14), .ref (qa 15), .ref (qa 16), .ref (qa 17), .ref (qa 18), .ref (qa 19), .ref (qa 20), .int 0, .int 0, .int 0, .int 0, .long 0, .long 0, .long 0, .long 0, .long 0, .ref (qa 21), .int 0, .int 0, .int 0, .int 0]))]) (fun _ => []) D (va_A [(h0, .inr (7, [.int 0, .int 0, .int 0, .int 0, .int 0, .int 0, .int (-1), .int (-1), .int 0, .int 0, .int 0, .int 0, .int 0, .int 0, .int 0, .int 0, .ref (qa 0), .ref (qa 1), .ref (qa 2), .ref (qa 3), .int 0, .ref (qa 4), .ref (qa 5), .ref (qa 6), .ref (qa 7), .ref (qa 8), .ref (qa 9), .ref (qa 10), .ref (qa 11), .ref (qa 12), .ref (qa 13), .ref (qa 14), .ref (qa 15), .ref (qa 16), .ref (qa 17), .ref (qa 18), .ref (qa 19), .ref (qa 20), .int 0, .int 0, .int 0, .int 0, .long 0, .long 0, .long 0, .long 0, .long 0, .ref (qa 21), .int 0, .int 0, .int 0, .int 0]))] sz)) 0 0 (va_A [(h0, .inr (7, [.int 0, .int 0, .int 0, .int 0, .int 0, .int 0, .int (-1), .int (-1), .int 0, .int 0, .int 0, .int 0, .int 0, .int 0, .int 0, .int 0, .ref (qa 0), .ref (qa 1), .ref (qa 2), .ref (qa 3), .int 0, .ref (qa 4), .ref (qa 5), .ref (qa 6), .ref (qa 7), .ref (qa 8), .ref (qa 9), .ref (qa 10), .ref (qa 11), .ref (qa 12), .ref (qa 13), .ref (qa 14), .ref (qa 15), .ref (qa 16), .ref (qa 17), .ref (qa 18), .ref (qa 19), .ref (qa 20), .int 0, .int 0, .int 0, .int 0, .long 0, .long 0, .long 0, .long 0, .long 0, .ref (qa 21), .int 0, .int 0, .int 0, .int 0]))] sz) := by
  refine Met.ofW (cc := b_Mo_byteAt) (maxL := 4) (ret := (some .int)) (by decide) rfl ?_
  intro p e s m args below meth c s₁ B hml hv
  obtain ⟨rfl, hsz, hP, hK, hD0, hN, hZ⟩ := hv
  have hx := B.exec
  have hb := B.bytes
  have hr := B.returns
  have hlocks := B.notSynchronized
  have hts : ∀ w ∈ bw, w.before _ s = true := fun w h => atoms_spec (ws := Cond.code y_Mo_byteAt b_Mo_byteAt 4 (some .int) :: bw) B.pre w (List.mem_cons_of_mem _ h)
  have hown : s.vm.findClass "ObjectForgeModel" = some m.cls := findClass_of_methodNamed B.named
  subst hsz
  have hP0 := hP
  have hD := hD0.self (sz := s.heap.size)
  generalize hAe : va_A [(h0, .inr (7, [.int 0, .int 0, .int 0, .int 0, .int 0, .int 0, .int (-1), .int (-1), .int 0, .int 0, .int 0, .int 0, .int 0, .int 0, .int 0, .int 0, .ref (qa 0), .ref (qa 1), .ref (qa 2), .ref (qa 3), .int 0, .ref (qa 4), .ref (qa 5), .ref (qa 6), .ref (qa 7), .ref (qa 8), .ref (qa 9), .ref (qa 10), .ref (qa 11), .ref (qa 12), .ref (qa 13), .ref (qa 14), .ref (qa 15), .ref (qa 16), .ref (qa 17), .ref (qa 18), .ref (qa 19), .ref (qa 20), .int 0, .int 0, .int 0, .int 0, .long 0, .long 0, .long 0, .long 0, .long 0, .ref (qa 21), .int 0, .int 0, .int 0, .int 0]))] s.heap.size = A at hD hZ ⊢
  have hA : ∀ q : Nat, s.heap.size ≤ q → A q := fun q h => by rw [← hAe]; exact Or.inr h
  have hS : va_S A s.heap s.heap [] := va_S.rf
  have hl := lv_entry ([.ref h0, .int p0, .int p1, .int p2]) (n := 4) (Nat.le_of_ble_eq_true rfl)
  rw [lg_entry_eq]
  generalize (lg_sl ([.ref h0, .int p0, .int p1, .int p2]) ++ List.replicate (4 - (lg_sl ([.ref h0, .int p0, .int p1, .int p2])).length) Slot.unset).toArray = ls at hl ⊢
  have hl : lv_has ls 4 [(0, .ref h0), (1, .int p0), (2, .int p1), (3, .int p2)] := hl
  refine lv_aload_n hx hb d_Mo_byteAt_0 rfl (lv_at hl 0 rfl) ?_
  refine lv_iconst (v := 0) hx hb d_Mo_byteAt_1 (by decide) ?_
  refine va_put (D := D) (ci := 7) (v := .int 0) (ty := .int) (C := R_Mo) (T := F_Mo) (N := 52) hx hb hts i_Mo t_Mo t_Mo_ok n_Mo hown hK hP hD hS 0 rfl rfl 0 (by decide) (hts _ w_397) (fun _ h9 => h9) rfl (by decide +kernel) rfl rfl (Nat.le_of_ble_eq_true rfl) d_Mo_byteAt_2 (fun H locs hP hD hS => ?_)
  have hP : va_P D cls [(h0, .inr (7, [.int 0, .int 0, .int 0, .int 0, .int 0, .int 0, .int (-1), .int (-1), .int 0, .int 0, .int 0, .int 0, .int 0, .int 0, .int 0, .int 0, .ref (qa 0), .ref (qa 1), .ref (qa 2), .ref (qa 3), .int 0, .ref (qa 4), .ref (qa 5), .ref (qa 6), .ref (qa 7), .ref (qa 8), .ref (qa 9), .ref (qa 10), .ref (qa 11), .ref (qa 12), .ref (qa 13), .ref (qa 14), .ref (qa 15), .ref (qa 16), .ref (qa 17), .ref (qa 18), .ref (qa 19), .ref (qa 20), .int 0, .int 0, .int 0, .int 0, .long 0, .long 0, .long 0, .long 0, .long 0, .ref (qa 21), .int 0, .int 0, .int 0, .int 0]))] H := hP
  have hD : va_D A [(h0, .inr (7, [.int 0, .int 0, .int 0, .int 0, .int 0, .int 0, .int (-1), .int (-1), .int 0, .int 0, .int 0, .int 0, .int 0, .int 0, .int 0, .int 0, .ref (qa 0), .ref (qa 1), .ref (qa 2), .ref (qa 3), .int 0, .ref (qa 4), .ref (qa 5), .ref (qa 6), .ref (qa 7), .ref (qa 8), .ref (qa 9), .ref (qa 10), .ref (qa 11), .ref (qa 12), .ref (qa 13), .ref (qa 14), .ref (qa 15), .ref (qa 16), .ref (qa 17), .ref (qa 18), .ref (qa 19), .ref (qa 20), .int 0, .int 0, .int 0, .int 0, .long 0, .long 0, .long 0, .long 0, .long 0, .ref (qa 21), .int 0, .int 0, .int 0, .int 0]))] := hD
  refine lv_iload_n hx hb d_Mo_byteAt_5 rfl (lv_at hl 1 rfl) ?_
  refine lv_aload_n hx hb d_Mo_byteAt_6 rfl (lv_at hl 0 rfl) ?_
  refine va_get (D := D) (ci := 7) (v := .int 0) (C := R_Mo) (T := F_Mo) (N := 52) hx hb hts i_Mo hown hK hP 0 rfl rfl 2 (by decide) (hts _ w_400) (fun _ h9 => h9) rfl d_Mo_byteAt_7 ?_
  refine xc_S (As := [.int p0, .int 0]) (rest := []) (n := 2) (wc := []) (wr := [(h0, .inr (7, [.int 0, .int 0, .int 0, .int 0, .int 0, .int 0, .int (-1), .int (-1), .int 0, .int 0, .int 0, .int 0, .int 0, .int 0, .int 0, .int 0, .ref (qa 0), .ref (qa 1), .ref (qa 2), .ref (qa 3), .int 0, .ref (qa 4), .ref (qa 5), .ref (qa 6), .ref (qa 7), .ref (qa 8), .ref (qa 9), .ref (qa 10), .ref (qa 11), .ref (qa 12), .ref (qa 13), .ref (qa 14), .ref (qa 15), .ref (qa 16), .ref (qa 17), .ref (qa 18), .ref (qa 19), .ref (qa 20), .int 0, .int 0, .int 0, .int 0, .long 0, .long 0, .long 0, .long 0, .long 0, .ref (qa 21), .int 0, .int 0, .int 0, .int 0]))]) (tc := []) (tr := []) ⟨hx, hb, hml, hown, hts⟩ (c_Mo_within_g l D p0 0 hk hg H.size) rfl rfl w_510 w_508 w_509 w_8 (by decide +kernel) ⟨Nat.le_of_ble_eq_true rfl, Nat.le_of_ble_eq_true rfl⟩ hP hD hK hS hA hN hZ [] [0] rfl rfl (by decide) (by decide) (by decide) [] [] rfl rfl rfl hl.1 rfl (Nat.le_of_ble_eq_true rfl) d_Mo_byteAt_10 ⟨Nat.le_of_ble_eq_true rfl, Nat.le_of_ble_eq_true rfl⟩ (fun u1 H locs hP hD hK hS => ?_)
  have hP : va_P D cls [(h0, .inr (7, [.int 0, .int 0, .int 0, .int 0, .int 0, .int 0, .int (-1), .int (-1), .int 0, .int 0, .int 0, .int 0, .int 0, .int 0, .int 0, .int 0, .ref (qa 0), .ref (qa 1), .ref (qa 2), .ref (qa 3), .int 0, .ref (qa 4), .ref (qa 5), .ref (qa 6), .ref (qa 7), .ref (qa 8), .ref (qa 9), .ref (qa 10), .ref (qa 11), .ref (qa 12), .ref (qa 13), .ref (qa 14), .ref (qa 15), .ref (qa 16), .ref (qa 17), .ref (qa 18), .ref (qa 19), .ref (qa 20), .int 0, .int 0, .int 0, .int 0, .long 0, .long 0, .long 0, .long 0, .long 0, .ref (qa 21), .int 0, .int 0, .int 0, .int 0]))] H := hP
  have hD : va_D A [(h0, .inr (7, [.int 0, .int 0, .int 0, .int 0, .int 0, .int 0, .int (-1), .int (-1), .int 0, .int 0, .int 0, .int 0, .int 0, .int 0, .int 0, .int 0, .ref (qa 0), .ref (qa 1), .ref (qa 2), .ref (qa 3), .int 0, .ref (qa 4), .ref (qa 5), .ref (qa 6), .ref (qa 7), .ref (qa 8), .ref (qa 9), .ref (qa 10), .ref (qa 11), .ref (qa 12), .ref (qa 13), .ref (qa 14), .ref (qa 15), .ref (qa 16), .ref (qa 17), .ref (qa 18), .ref (qa 19), .ref (qa 20), .int 0, .int 0, .int 0, .int 0, .long 0, .long 0, .long 0, .long 0, .long 0, .ref (qa 21), .int 0, .int 0, .int 0, .int 0]))] := hD
  have hK : va_K D cls [] s := hK
  refine W.eq (g2 := F0 m 13 ls [.int 0]) rfl ?_
  refine lv_if_eq (tgt := 64) hx hb d_Mo_byteAt_13 (by decide) (fun _ => ?_) (fun q9 => absurd (by decide : ((0 : Int32) = 0)) q9)
  refine lv_aload_n hx hb d_Mo_byteAt_64 rfl (lv_at hl 0 rfl) ?_
  refine lv_iconst (v := 1) hx hb d_Mo_byteAt_65 (by decide) ?_
  refine xc_V (As := [.int 1]) (rest := []) (n := 1) (wc := [(h0, .inr (7, [.int 0, .int 0, .int 0, .int 0, .int 0, .int 0, .int (-1), .int (-1), .int 0, .int 0, .int 0, .int 0, .int 0, .int 0, .int 0, .int 0, .ref (qa 0), .ref (qa 1), .ref (qa 2), .ref (qa 3), .int 0, .ref (qa 4), .ref (qa 5), .ref (qa 6), .ref (qa 7), .ref (qa 8), .ref (qa 9), .ref (qa 10), .ref (qa 11), .ref (qa 12), .ref (qa 13), .ref (qa 14), .ref (qa 15), .ref (qa 16), .ref (qa 17), .ref (qa 18), .ref (qa 19), .ref (qa 20), .int 0, .int 0, .int 0, .int 0, .long 0, .long 0, .long 0, .long 0, .long 0, .ref (qa 21), .int 0, .int 0, .int 0, .int 0]))]) (wr := []) (tc := []) (tr := []) ⟨hx, hb, hml, hown, hts⟩ (c_Mo_refuse_1 l D h0 qa H.size) rfl rfl w_452 w_450 w_451 w_557 w_8 (by decide +kernel) ⟨Nat.le_of_ble_eq_true rfl, Nat.le_of_ble_eq_true rfl⟩ hP hD hK hS hA hN hZ [0] [] rfl rfl (by decide) (by decide) (by decide) [] [] rfl rfl (ci := 7) (q0 := 0) (q := (R_Mo, F_Mo, 52)) rfl rfl rfl rfl hl.1 rfl (Nat.le_of_ble_eq_true rfl) d_Mo_byteAt_66 ⟨Nat.le_of_ble_eq_true rfl, Nat.le_of_ble_eq_true rfl⟩ (fun u2 H locs hP hD hK hS => ?_)
  have hP : va_P D cls [(h0, .inr (7, [.int 1, .int 0, .int 0, .int 0, .int 0, .int 0, .int (-1), .int (-1), .int 0, .int 0, .int 0, .int 0, .int 0, .int 0, .int 0, .int 0, .ref (qa 0), .ref (qa 1), .ref (qa 2), .ref (qa 3), .int 0, .ref (qa 4), .ref (qa 5), .ref (qa 6), .ref (qa 7), .ref (qa 8), .ref (qa 9), .ref (qa 10), .ref (qa 11), .ref (qa 12), .ref (qa 13), .ref (qa 14), .ref (qa 15), .ref (qa 16), .ref (qa 17), .ref (qa 18), .ref (qa 19), .ref (qa 20), .int 0, .int 0, .int 0, .int 0, .long 0, .long 0, .long 0, .long 0, .long 0, .ref (qa 21), .int 0, .int 0, .int 0, .int 0]))] H := hP
  have hD : va_D A [(h0, .inr (7, [.int 1, .int 0, .int 0, .int 0, .int 0, .int 0, .int (-1), .int (-1), .int 0, .int 0, .int 0, .int 0, .int 0, .int 0, .int 0, .int 0, .ref (qa 0), .ref (qa 1), .ref (qa 2), .ref (qa 3), .int 0, .ref (qa 4), .ref (qa 5), .ref (qa 6), .ref (qa 7), .ref (qa 8), .ref (qa 9), .ref (qa 10), .ref (qa 11), .ref (qa 12), .ref (qa 13), .ref (qa 14), .ref (qa 15), .ref (qa 16), .ref (qa 17), .ref (qa 18), .ref (qa 19), .ref (qa 20), .int 0, .int 0, .int 0, .int 0, .long 0, .long 0, .long 0, .long 0, .long 0, .ref (qa 21), .int 0, .int 0, .int 0, .int 0]))] := hD
  have hK : va_K D cls [] s := hK
  refine W.eq (g2 := F0 m 69 ls [.int 0]) rfl ?_
  exact xr_i hx hb hr hlocks hP hD hK hS (()) [0] rfl rfl (by decide) [] rfl rfl d_Mo_byteAt_69

theorem d_Mo_symbol_0 : decode b_Mo_symbol 0 = .ok (.aload_n 0, 1) := by decide +kernel
theorem d_Mo_symbol_1 : decode b_Mo_symbol 1 = .ok (.iconst 0, 1) := by decide +kernel
theorem d_Mo_symbol_2 : decode b_Mo_symbol 2 = .ok (.putfield 88, 3) := by decide +kernel
theorem d_Mo_symbol_5 : decode b_Mo_symbol 5 = .ok (.iload_n 1, 1) := by decide +kernel
theorem d_Mo_symbol_6 : decode b_Mo_symbol 6 = .ok (.aload_n 0, 1) := by decide +kernel
theorem d_Mo_symbol_7 : decode b_Mo_symbol 7 = .ok (.getfield 1010, 3) := by decide +kernel
theorem d_Mo_symbol_10 : decode b_Mo_symbol 10 = .ok (.invokestatic 1181, 3) := by decide +kernel
theorem d_Mo_symbol_13 : decode b_Mo_symbol 13 = .ok (.ifCond .eq 24, 3) := by decide +kernel
theorem d_Mo_symbol_37 : decode b_Mo_symbol 37 = .ok (.aload_n 0, 1) := by decide +kernel
theorem d_Mo_symbol_38 : decode b_Mo_symbol 38 = .ok (.iconst 1, 1) := by decide +kernel
theorem d_Mo_symbol_39 : decode b_Mo_symbol 39 = .ok (.invokevirtual 94, 3) := by decide +kernel
theorem d_Mo_symbol_42 : decode b_Mo_symbol 42 = .ok (.ireturn, 1) := by decide +kernel
set_option maxHeartbeats 4000000 in
set_option maxRecDepth 100000 in
theorem c_Mo_symbol_n (l : Launch) (D : va_G) (h0 : Nat) (qa : Nat → Nat) (p0 p1 p2 : Int32) (hk : p0 < 0) (sz : Nat) : Met l y_Mo_symbol (Cond.code y_Mo_symbol b_Mo_symbol 5 (some .int) :: bw) (xR 2 0 0) (va_Pc [.ref h0, .int p0, .int p1, .int p2] (xP D [] sz [(h0, .inr (7, [.int 0, .int 0, .int 0, .int 0, .int 0, .int 0, .int (-1), .int (-1), .int 0, .int 0, .int 0, .int 0, .int 0, .int 0, .int 0, .int 0, .ref (qa 0), .ref (qa 1), .ref (qa 2), .ref (qa 3), .int 0, .ref (qa 4), .ref (qa 5), .ref (qa 6), .ref (qa 7), .ref (qa 8), .ref (qa 9), .ref (qa 10), .ref (qa 11), .ref (qa 12), .ref (qa 13), .ref (qa 14), .ref (qa 15), .ref (qa 16), .ref (qa 17), .ref (qa 18), .ref (qa 19), .ref (qa 20), .int 0, .int 0, .int 0, .int 0, .long 0, .long 0, .long 0, .long 0, .long 0, .ref (qa 21), .int 0, .int 0, .int 0, .int 0]))])) (xQ (S := Unit) (fun _ => some (.int 0)) (fun _ => [(h0, .inr (7, [.int 1, .int 0, .int 0, .int 0, .int 0, .int 0, .int (-1), .int (-1), .int 0, .int 0, .int 0, .int 0, .int 0, .int 0, .int 0, .int 0, .ref (qa 0), .ref (qa 1), .ref (qa 2), .ref (qa 3), .int 0, .ref (qa 4), .ref (qa 5), .ref (qa 6), .ref (qa 7), .ref (qa 8), .ref (qa 9), .ref (qa 10), .ref (qa 11), .ref (qa 12), .ref (qa 13), .ref (qa 14), .ref (qa 15), .ref (qa 16), .ref (qa 17), .ref (qa 18), .ref (qa 19), .ref (qa 20), .int 0, .int 0, .int 0, .int 0, .long 0, .long 0, .long 0, .long 0, .long 0, .ref (qa 21), .int 0, .int 0, .int 0, .int 0]))]) (fun _ => []) D (va_A [(h0, .inr (7, [.int 0, .int 0, .int 0, .int 0, .int 0, .int 0, .int (-1), .int (-1), .int 0, .int 0, .int 0, .int 0, .int 0, .int 0, .int 0, .int 0, .ref (qa 0), .ref (qa 1), .ref (qa 2), .ref (qa 3), .int 0, .ref (qa 4), .ref (qa 5), .ref (qa 6), .ref (qa 7), .ref (qa 8), .ref (qa 9), .ref (qa 10), .ref (qa 11), .ref (qa 12), .ref (qa 13), .ref (qa 14), .ref (qa 15), .ref (qa 16), .ref (qa 17), .ref (qa 18), .ref (qa 19), .ref (qa 20), .int 0, .int 0, .int 0, .int 0, .long 0, .long 0, .long 0, .long 0, .long 0, .ref (qa 21), .int 0, .int 0, .int 0, .int 0]))] sz)) 0 0 (va_A [(h0, .inr (7, [.int 0, .int 0, .int 0, .int 0, .int 0, .int 0, .int (-1), .int (-1), .int 0, .int 0, .int 0, .int 0, .int 0, .int 0, .int 0, .int 0, .ref (qa 0), .ref (qa 1), .ref (qa 2), .ref (qa 3), .int 0, .ref (qa 4), .ref (qa 5), .ref (qa 6), .ref (qa 7), .ref (qa 8), .ref (qa 9), .ref (qa 10), .ref (qa 11), .ref (qa 12), .ref (qa 13), .ref (qa 14), .ref (qa 15), .ref (qa 16), .ref (qa 17), .ref (qa 18), .ref (qa 19), .ref (qa 20), .int 0, .int 0, .int 0, .int 0, .long 0, .long 0, .long 0, .long 0, .long 0, .ref (qa 21), .int 0, .int 0, .int 0, .int 0]))] sz) := by
  refine Met.ofW (cc := b_Mo_symbol) (maxL := 5) (ret := (some .int)) (by decide) rfl ?_
  intro p e s m args below meth c s₁ B hml hv
  obtain ⟨rfl, hsz, hP, hK, hD0, hN, hZ⟩ := hv
  have hx := B.exec
  have hb := B.bytes
  have hr := B.returns
  have hlocks := B.notSynchronized
  have hts : ∀ w ∈ bw, w.before _ s = true := fun w h => atoms_spec (ws := Cond.code y_Mo_symbol b_Mo_symbol 5 (some .int) :: bw) B.pre w (List.mem_cons_of_mem _ h)
  have hown : s.vm.findClass "ObjectForgeModel" = some m.cls := findClass_of_methodNamed B.named
  subst hsz
  have hP0 := hP
  have hD := hD0.self (sz := s.heap.size)
  generalize hAe : va_A [(h0, .inr (7, [.int 0, .int 0, .int 0, .int 0, .int 0, .int 0, .int (-1), .int (-1), .int 0, .int 0, .int 0, .int 0, .int 0, .int 0, .int 0, .int 0, .ref (qa 0), .ref (qa 1), .ref (qa 2), .ref (qa 3), .int 0, .ref (qa 4), .ref (qa 5), .ref (qa 6), .ref (qa 7), .ref (qa 8), .ref (qa 9), .ref (qa 10), .ref (qa 11), .ref (qa 12), .ref (qa 13), .ref (qa 14), .ref (qa 15), .ref (qa 16), .ref (qa 17), .ref (qa 18), .ref (qa 19), .ref (qa 20), .int 0, .int 0, .int 0, .int 0, .long 0, .long 0, .long 0, .long 0, .long 0, .ref (qa 21), .int 0, .int 0, .int 0, .int 0]))] s.heap.size = A at hD hZ ⊢
  have hA : ∀ q : Nat, s.heap.size ≤ q → A q := fun q h => by rw [← hAe]; exact Or.inr h
  have hS : va_S A s.heap s.heap [] := va_S.rf
  have hl := lv_entry ([.ref h0, .int p0, .int p1, .int p2]) (n := 5) (Nat.le_of_ble_eq_true rfl)
  rw [lg_entry_eq]
  generalize (lg_sl ([.ref h0, .int p0, .int p1, .int p2]) ++ List.replicate (5 - (lg_sl ([.ref h0, .int p0, .int p1, .int p2])).length) Slot.unset).toArray = ls at hl ⊢
  have hl : lv_has ls 5 [(0, .ref h0), (1, .int p0), (2, .int p1), (3, .int p2)] := hl
  refine lv_aload_n hx hb d_Mo_symbol_0 rfl (lv_at hl 0 rfl) ?_
  refine lv_iconst (v := 0) hx hb d_Mo_symbol_1 (by decide) ?_
  refine va_put (D := D) (ci := 7) (v := .int 0) (ty := .int) (C := R_Mo) (T := F_Mo) (N := 52) hx hb hts i_Mo t_Mo t_Mo_ok n_Mo hown hK hP hD hS 0 rfl rfl 0 (by decide) (hts _ w_397) (fun _ h9 => h9) rfl (by decide +kernel) rfl rfl (Nat.le_of_ble_eq_true rfl) d_Mo_symbol_2 (fun H locs hP hD hS => ?_)
  have hP : va_P D cls [(h0, .inr (7, [.int 0, .int 0, .int 0, .int 0, .int 0, .int 0, .int (-1), .int (-1), .int 0, .int 0, .int 0, .int 0, .int 0, .int 0, .int 0, .int 0, .ref (qa 0), .ref (qa 1), .ref (qa 2), .ref (qa 3), .int 0, .ref (qa 4), .ref (qa 5), .ref (qa 6), .ref (qa 7), .ref (qa 8), .ref (qa 9), .ref (qa 10), .ref (qa 11), .ref (qa 12), .ref (qa 13), .ref (qa 14), .ref (qa 15), .ref (qa 16), .ref (qa 17), .ref (qa 18), .ref (qa 19), .ref (qa 20), .int 0, .int 0, .int 0, .int 0, .long 0, .long 0, .long 0, .long 0, .long 0, .ref (qa 21), .int 0, .int 0, .int 0, .int 0]))] H := hP
  have hD : va_D A [(h0, .inr (7, [.int 0, .int 0, .int 0, .int 0, .int 0, .int 0, .int (-1), .int (-1), .int 0, .int 0, .int 0, .int 0, .int 0, .int 0, .int 0, .int 0, .ref (qa 0), .ref (qa 1), .ref (qa 2), .ref (qa 3), .int 0, .ref (qa 4), .ref (qa 5), .ref (qa 6), .ref (qa 7), .ref (qa 8), .ref (qa 9), .ref (qa 10), .ref (qa 11), .ref (qa 12), .ref (qa 13), .ref (qa 14), .ref (qa 15), .ref (qa 16), .ref (qa 17), .ref (qa 18), .ref (qa 19), .ref (qa 20), .int 0, .int 0, .int 0, .int 0, .long 0, .long 0, .long 0, .long 0, .long 0, .ref (qa 21), .int 0, .int 0, .int 0, .int 0]))] := hD
  refine lv_iload_n hx hb d_Mo_symbol_5 rfl (lv_at hl 1 rfl) ?_
  refine lv_aload_n hx hb d_Mo_symbol_6 rfl (lv_at hl 0 rfl) ?_
  refine va_get (D := D) (ci := 7) (v := .int 0) (C := R_Mo) (T := F_Mo) (N := 52) hx hb hts i_Mo hown hK hP 0 rfl rfl 2 (by decide) (hts _ w_400) (fun _ h9 => h9) rfl d_Mo_symbol_7 ?_
  refine xc_S (As := [.int p0, .int 0]) (rest := []) (n := 2) (wc := []) (wr := [(h0, .inr (7, [.int 0, .int 0, .int 0, .int 0, .int 0, .int 0, .int (-1), .int (-1), .int 0, .int 0, .int 0, .int 0, .int 0, .int 0, .int 0, .int 0, .ref (qa 0), .ref (qa 1), .ref (qa 2), .ref (qa 3), .int 0, .ref (qa 4), .ref (qa 5), .ref (qa 6), .ref (qa 7), .ref (qa 8), .ref (qa 9), .ref (qa 10), .ref (qa 11), .ref (qa 12), .ref (qa 13), .ref (qa 14), .ref (qa 15), .ref (qa 16), .ref (qa 17), .ref (qa 18), .ref (qa 19), .ref (qa 20), .int 0, .int 0, .int 0, .int 0, .long 0, .long 0, .long 0, .long 0, .long 0, .ref (qa 21), .int 0, .int 0, .int 0, .int 0]))]) (tc := []) (tr := []) ⟨hx, hb, hml, hown, hts⟩ (c_Mo_within_n l D p0 0 hk H.size) rfl rfl w_510 w_508 w_509 w_8 (by decide +kernel) ⟨Nat.le_of_ble_eq_true rfl, Nat.le_of_ble_eq_true rfl⟩ hP hD hK hS hA hN hZ [] [0] rfl rfl (by decide) (by decide) (by decide) [] [] rfl rfl rfl hl.1 rfl (Nat.le_of_ble_eq_true rfl) d_Mo_symbol_10 ⟨Nat.le_of_ble_eq_true rfl, Nat.le_of_ble_eq_true rfl⟩ (fun u1 H locs hP hD hK hS => ?_)
  have hP : va_P D cls [(h0, .inr (7, [.int 0, .int 0, .int 0, .int 0, .int 0, .int 0, .int (-1), .int (-1), .int 0, .int 0, .int 0, .int 0, .int 0, .int 0, .int 0, .int 0, .ref (qa 0), .ref (qa 1), .ref (qa 2), .ref (qa 3), .int 0, .ref (qa 4), .ref (qa 5), .ref (qa 6), .ref (qa 7), .ref (qa 8), .ref (qa 9), .ref (qa 10), .ref (qa 11), .ref (qa 12), .ref (qa 13), .ref (qa 14), .ref (qa 15), .ref (qa 16), .ref (qa 17), .ref (qa 18), .ref (qa 19), .ref (qa 20), .int 0, .int 0, .int 0, .int 0, .long 0, .long 0, .long 0, .long 0, .long 0, .ref (qa 21), .int 0, .int 0, .int 0, .int 0]))] H := hP
  have hD : va_D A [(h0, .inr (7, [.int 0, .int 0, .int 0, .int 0, .int 0, .int 0, .int (-1), .int (-1), .int 0, .int 0, .int 0, .int 0, .int 0, .int 0, .int 0, .int 0, .ref (qa 0), .ref (qa 1), .ref (qa 2), .ref (qa 3), .int 0, .ref (qa 4), .ref (qa 5), .ref (qa 6), .ref (qa 7), .ref (qa 8), .ref (qa 9), .ref (qa 10), .ref (qa 11), .ref (qa 12), .ref (qa 13), .ref (qa 14), .ref (qa 15), .ref (qa 16), .ref (qa 17), .ref (qa 18), .ref (qa 19), .ref (qa 20), .int 0, .int 0, .int 0, .int 0, .long 0, .long 0, .long 0, .long 0, .long 0, .ref (qa 21), .int 0, .int 0, .int 0, .int 0]))] := hD
  have hK : va_K D cls [] s := hK
  refine W.eq (g2 := F0 m 13 ls [.int 0]) rfl ?_
  refine lv_if_eq (tgt := 37) hx hb d_Mo_symbol_13 (by decide) (fun _ => ?_) (fun q9 => absurd (by decide : ((0 : Int32) = 0)) q9)
  refine lv_aload_n hx hb d_Mo_symbol_37 rfl (lv_at hl 0 rfl) ?_
  refine lv_iconst (v := 1) hx hb d_Mo_symbol_38 (by decide) ?_
  refine xc_V (As := [.int 1]) (rest := []) (n := 1) (wc := [(h0, .inr (7, [.int 0, .int 0, .int 0, .int 0, .int 0, .int 0, .int (-1), .int (-1), .int 0, .int 0, .int 0, .int 0, .int 0, .int 0, .int 0, .int 0, .ref (qa 0), .ref (qa 1), .ref (qa 2), .ref (qa 3), .int 0, .ref (qa 4), .ref (qa 5), .ref (qa 6), .ref (qa 7), .ref (qa 8), .ref (qa 9), .ref (qa 10), .ref (qa 11), .ref (qa 12), .ref (qa 13), .ref (qa 14), .ref (qa 15), .ref (qa 16), .ref (qa 17), .ref (qa 18), .ref (qa 19), .ref (qa 20), .int 0, .int 0, .int 0, .int 0, .long 0, .long 0, .long 0, .long 0, .long 0, .ref (qa 21), .int 0, .int 0, .int 0, .int 0]))]) (wr := []) (tc := []) (tr := []) ⟨hx, hb, hml, hown, hts⟩ (c_Mo_refuse_1 l D h0 qa H.size) rfl rfl w_452 w_450 w_451 w_557 w_8 (by decide +kernel) ⟨Nat.le_of_ble_eq_true rfl, Nat.le_of_ble_eq_true rfl⟩ hP hD hK hS hA hN hZ [0] [] rfl rfl (by decide) (by decide) (by decide) [] [] rfl rfl (ci := 7) (q0 := 0) (q := (R_Mo, F_Mo, 52)) rfl rfl rfl rfl hl.1 rfl (Nat.le_of_ble_eq_true rfl) d_Mo_symbol_39 ⟨Nat.le_of_ble_eq_true rfl, Nat.le_of_ble_eq_true rfl⟩ (fun u2 H locs hP hD hK hS => ?_)
  have hP : va_P D cls [(h0, .inr (7, [.int 1, .int 0, .int 0, .int 0, .int 0, .int 0, .int (-1), .int (-1), .int 0, .int 0, .int 0, .int 0, .int 0, .int 0, .int 0, .int 0, .ref (qa 0), .ref (qa 1), .ref (qa 2), .ref (qa 3), .int 0, .ref (qa 4), .ref (qa 5), .ref (qa 6), .ref (qa 7), .ref (qa 8), .ref (qa 9), .ref (qa 10), .ref (qa 11), .ref (qa 12), .ref (qa 13), .ref (qa 14), .ref (qa 15), .ref (qa 16), .ref (qa 17), .ref (qa 18), .ref (qa 19), .ref (qa 20), .int 0, .int 0, .int 0, .int 0, .long 0, .long 0, .long 0, .long 0, .long 0, .ref (qa 21), .int 0, .int 0, .int 0, .int 0]))] H := hP
  have hD : va_D A [(h0, .inr (7, [.int 1, .int 0, .int 0, .int 0, .int 0, .int 0, .int (-1), .int (-1), .int 0, .int 0, .int 0, .int 0, .int 0, .int 0, .int 0, .int 0, .ref (qa 0), .ref (qa 1), .ref (qa 2), .ref (qa 3), .int 0, .ref (qa 4), .ref (qa 5), .ref (qa 6), .ref (qa 7), .ref (qa 8), .ref (qa 9), .ref (qa 10), .ref (qa 11), .ref (qa 12), .ref (qa 13), .ref (qa 14), .ref (qa 15), .ref (qa 16), .ref (qa 17), .ref (qa 18), .ref (qa 19), .ref (qa 20), .int 0, .int 0, .int 0, .int 0, .long 0, .long 0, .long 0, .long 0, .long 0, .ref (qa 21), .int 0, .int 0, .int 0, .int 0]))] := hD
  have hK : va_K D cls [] s := hK
  refine W.eq (g2 := F0 m 42 ls [.int 0]) rfl ?_
  exact xr_i hx hb hr hlocks hP hD hK hS (()) [0] rfl rfl (by decide) [] rfl rfl d_Mo_symbol_42

set_option maxHeartbeats 4000000 in
set_option maxRecDepth 100000 in
theorem c_Mo_symbol_g (l : Launch) (D : va_G) (h0 : Nat) (qa : Nat → Nat) (p0 p1 p2 : Int32) (hk : ¬ p0 < 0) (hg : 0 ≤ p0) (sz : Nat) : Met l y_Mo_symbol (Cond.code y_Mo_symbol b_Mo_symbol 5 (some .int) :: bw) (xR 2 0 0) (va_Pc [.ref h0, .int p0, .int p1, .int p2] (xP D [] sz [(h0, .inr (7, [.int 0, .int 0, .int 0, .int 0, .int 0, .int 0, .int (-1), .int (-1), .int 0, .int 0, .int 0, .int 0, .int 0, .int 0, .int 0, .int 0, .ref (qa 0), .ref (qa 1), .ref (qa 2), .ref (qa 3), .int 0, .ref (qa 4), .ref (qa 5), .ref (qa 6), .ref (qa 7), .ref (qa 8), .ref (qa 9), .ref (qa 10), .ref (qa 11), .ref (qa 12), .ref (qa 13), .ref (qa 14), .ref (qa 15), .ref (qa 16), .ref (qa 17), .ref (qa 18), .ref (qa 19), .ref (qa 20), .int 0, .int 0, .int 0, .int 0, .long 0, .long 0, .long 0, .long 0, .long 0, .ref (qa 21), .int 0, .int 0, .int 0, .int 0]))])) (xQ (S := Unit) (fun _ => some (.int 0)) (fun _ => [(h0, .inr (7, [.int 1, .int 0, .int 0, .int 0, .int 0, .int 0, .int (-1), .int (-1), .int 0, .int 0, .int 0, .int 0, .int 0, .int 0, .int 0, .int 0, .ref (qa 0), .ref (qa 1), .ref (qa 2), .ref (qa 3), .int 0, .ref (qa 4), .ref (qa 5), .ref (qa 6), .ref (qa 7), .ref (qa 8), .ref (qa 9), .ref (qa 10), .ref (qa 11), .ref (qa 12), .ref (qa 13), .ref (qa 14), .ref (qa 15), .ref (qa 16), .ref (qa 17), .ref (qa 18), .ref (qa 19), .ref (qa 20), .int 0, .int 0, .int 0, .int 0, .long 0, .long 0, .long 0, .long 0, .long 0, .ref (qa 21), .int 0, .int 0, .int 0, .int 0]))]) (fun _ => []) D (va_A [(h0, .inr (7, [.int 0, .int 0, .int 0, .int 0, .int 0, .int 0, .int (-1), .int (-1), .int 0, .int 0, .int 0, .int 0, .int 0, .int 0, .int 0, .int 0, .ref (qa 0), .ref (qa 1), .ref (qa 2), .ref (qa 3), .int 0, .ref (qa 4), .ref (qa 5), .ref (qa 6), .ref (qa 7), .ref (qa 8), .ref (qa 9), .ref (qa 10), .ref (qa 11), .ref (qa 12), .ref (qa 13), .ref (qa 14), .ref (qa 15), .ref (qa 16), .ref (qa 17), .ref (qa 18), .ref (qa 19), .ref (qa 20), .int 0, .int 0, .int 0, .int 0, .long 0, .long 0, .long 0, .long 0, .long 0, .ref (qa 21), .int 0, .int 0, .int 0, .int 0]))] sz)) 0 0 (va_A [(h0, .inr (7, [.int 0, .int 0, .int 0, .int 0, .int 0, .int 0, .int (-1), .int (-1), .int 0, .int 0, .int 0, .int 0, .int 0, .int 0, .int 0, .int 0, .ref (qa 0), .ref (qa 1), .ref (qa 2), .ref (qa 3), .int 0, .ref (qa 4), .ref (qa 5), .ref (qa 6), .ref (qa 7), .ref (qa 8), .ref (qa 9), .ref (qa 10), .ref (qa 11), .ref (qa 12), .ref (qa 13), .ref (qa 14), .ref (qa 15), .ref (qa 16), .ref (qa 17), .ref (qa 18), .ref (qa 19), .ref (qa 20), .int 0, .int 0, .int 0, .int 0, .long 0, .long 0, .long 0, .long 0, .long 0, .ref (qa 21), .int 0, .int 0, .int 0, .int 0]))] sz) := by
  refine Met.ofW (cc := b_Mo_symbol) (maxL := 5) (ret := (some .int)) (by decide) rfl ?_
  intro p e s m args below meth c s₁ B hml hv
  obtain ⟨rfl, hsz, hP, hK, hD0, hN, hZ⟩ := hv
  have hx := B.exec
  have hb := B.bytes
  have hr := B.returns
  have hlocks := B.notSynchronized
  have hts : ∀ w ∈ bw, w.before _ s = true := fun w h => atoms_spec (ws := Cond.code y_Mo_symbol b_Mo_symbol 5 (some .int) :: bw) B.pre w (List.mem_cons_of_mem _ h)
  have hown : s.vm.findClass "ObjectForgeModel" = some m.cls := findClass_of_methodNamed B.named
  subst hsz
  have hP0 := hP
  have hD := hD0.self (sz := s.heap.size)
  generalize hAe : va_A [(h0, .inr (7, [.int 0, .int 0, .int 0, .int 0, .int 0, .int 0, .int (-1), .int (-1), .int 0, .int 0, .int 0, .int 0, .int 0, .int 0, .int 0, .int 0, .ref (qa 0), .ref (qa 1), .ref (qa 2), .ref (qa 3), .int 0, .ref (qa 4), .ref (qa 5), .ref (qa 6), .ref (qa 7), .ref (qa 8), .ref (qa 9), .ref (qa 10), .ref (qa 11), .ref (qa 12), .ref (qa 13), .ref (qa 14), .ref (qa 15), .ref (qa 16), .ref (qa 17), .ref (qa 18), .ref (qa 19), .ref (qa 20), .int 0, .int 0, .int 0, .int 0, .long 0, .long 0, .long 0, .long 0, .long 0, .ref (qa 21), .int 0, .int 0, .int 0, .int 0]))] s.heap.size = A at hD hZ ⊢
  have hA : ∀ q : Nat, s.heap.size ≤ q → A q := fun q h => by rw [← hAe]; exact Or.inr h
  have hS : va_S A s.heap s.heap [] := va_S.rf
  have hl := lv_entry ([.ref h0, .int p0, .int p1, .int p2]) (n := 5) (Nat.le_of_ble_eq_true rfl)
  rw [lg_entry_eq]
  generalize (lg_sl ([.ref h0, .int p0, .int p1, .int p2]) ++ List.replicate (5 - (lg_sl ([.ref h0, .int p0, .int p1, .int p2])).length) Slot.unset).toArray = ls at hl ⊢
  have hl : lv_has ls 5 [(0, .ref h0), (1, .int p0), (2, .int p1), (3, .int p2)] := hl
  refine lv_aload_n hx hb d_Mo_symbol_0 rfl (lv_at hl 0 rfl) ?_
  refine lv_iconst (v := 0) hx hb d_Mo_symbol_1 (by decide) ?_
  refine va_put (D := D) (ci := 7) (v := .int 0) (ty := .int) (C := R_Mo) (T := F_Mo) (N := 52) hx hb hts i_Mo t_Mo t_Mo_ok n_Mo hown hK hP hD hS 0 rfl rfl 0 (by decide) (hts _ w_397) (fun _ h9 => h9) rfl (by decide +kernel) rfl rfl (Nat.le_of_ble_eq_true rfl) d_Mo_symbol_2 (fun H locs hP hD hS => ?_)
  have hP : va_P D cls [(h0, .inr (7, [.int 0, .int 0, .int 0, .int 0, .int 0, .int 0, .int (-1), .int (-1), .int 0, .int 0, .int 0, .int 0, .int 0, .int 0, .int 0, .int 0, .ref (qa 0), .ref (qa 1), .ref (qa 2), .ref (qa 3), .int 0, .ref (qa 4), .ref (qa 5), .ref (qa 6), .ref (qa 7), .ref (qa 8), .ref (qa 9), .ref (qa 10), .ref (qa 11), .ref (qa 12), .ref (qa 13), .ref (qa 14), .ref (qa 15), .ref (qa 16), .ref (qa 17), .ref (qa 18), .ref (qa 19), .ref (qa 20), .int 0, .int 0, .int 0, .int 0, .long 0, .long 0, .long 0, .long 0, .long 0, .ref (qa 21), .int 0, .int 0, .int 0, .int 0]))] H := hP
  have hD : va_D A [(h0, .inr (7, [.int 0, .int 0, .int 0, .int 0, .int 0, .int 0, .int (-1), .int (-1), .int 0, .int 0, .int 0, .int 0, .int 0, .int 0, .int 0, .int 0, .ref (qa 0), .ref (qa 1), .ref (qa 2), .ref (qa 3), .int 0, .ref (qa 4), .ref (qa 5), .ref (qa 6), .ref (qa 7), .ref (qa 8), .ref (qa 9), .ref (qa 10), .ref (qa 11), .ref (qa 12), .ref (qa 13), .ref (qa 14), .ref (qa 15), .ref (qa 16), .ref (qa 17), .ref (qa 18), .ref (qa 19), .ref (qa 20), .int 0, .int 0, .int 0, .int 0, .long 0, .long 0, .long 0, .long 0, .long 0, .ref (qa 21), .int 0, .int 0, .int 0, .int 0]))] := hD
  refine lv_iload_n hx hb d_Mo_symbol_5 rfl (lv_at hl 1 rfl) ?_
  refine lv_aload_n hx hb d_Mo_symbol_6 rfl (lv_at hl 0 rfl) ?_
  refine va_get (D := D) (ci := 7) (v := .int 0) (C := R_Mo) (T := F_Mo) (N := 52) hx hb hts i_Mo hown hK hP 0 rfl rfl 2 (by decide) (hts _ w_400) (fun _ h9 => h9) rfl d_Mo_symbol_7 ?_
  refine xc_S (As := [.int p0, .int 0]) (rest := []) (n := 2) (wc := []) (wr := [(h0, .inr (7, [.int 0, .int 0, .int 0, .int 0, .int 0, .int 0, .int (-1), .int (-1), .int 0, .int 0, .int 0, .int 0, .int 0, .int 0, .int 0, .int 0, .ref (qa 0), .ref (qa 1), .ref (qa 2), .ref (qa 3), .int 0, .ref (qa 4), .ref (qa 5), .ref (qa 6), .ref (qa 7), .ref (qa 8), .ref (qa 9), .ref (qa 10), .ref (qa 11), .ref (qa 12), .ref (qa 13), .ref (qa 14), .ref (qa 15), .ref (qa 16), .ref (qa 17), .ref (qa 18), .ref (qa 19), .ref (qa 20), .int 0, .int 0, .int 0, .int 0, .long 0, .long 0, .long 0, .long 0, .long 0, .ref (qa 21), .int 0, .int 0, .int 0, .int 0]))]) (tc := []) (tr := []) ⟨hx, hb, hml, hown, hts⟩ (c_Mo_within_g l D p0 0 hk hg H.size) rfl rfl w_510 w_508 w_509 w_8 (by decide +kernel) ⟨Nat.le_of_ble_eq_true rfl, Nat.le_of_ble_eq_true rfl⟩ hP hD hK hS hA hN hZ [] [0] rfl rfl (by decide) (by decide) (by decide) [] [] rfl rfl rfl hl.1 rfl (Nat.le_of_ble_eq_true rfl) d_Mo_symbol_10 ⟨Nat.le_of_ble_eq_true rfl, Nat.le_of_ble_eq_true rfl⟩ (fun u1 H locs hP hD hK hS => ?_)
  have hP : va_P D cls [(h0, .inr (7, [.int 0, .int 0, .int 0, .int 0, .int 0, .int 0, .int (-1), .int (-1), .int 0, .int 0, .int 0, .int 0, .int 0, .int 0, .int 0, .int 0, .ref (qa 0), .ref (qa 1), .ref (qa 2), .ref (qa 3), .int 0, .ref (qa 4), .ref (qa 5), .ref (qa 6), .ref (qa 7), .ref (qa 8), .ref (qa 9), .ref (qa 10), .ref (qa 11), .ref (qa 12), .ref (qa 13), .ref (qa 14), .ref (qa 15), .ref (qa 16), .ref (qa 17), .ref (qa 18), .ref (qa 19), .ref (qa 20), .int 0, .int 0, .int 0, .int 0, .long 0, .long 0, .long 0, .long 0, .long 0, .ref (qa 21), .int 0, .int 0, .int 0, .int 0]))] H := hP
  have hD : va_D A [(h0, .inr (7, [.int 0, .int 0, .int 0, .int 0, .int 0, .int 0, .int (-1), .int (-1), .int 0, .int 0, .int 0, .int 0, .int 0, .int 0, .int 0, .int 0, .ref (qa 0), .ref (qa 1), .ref (qa 2), .ref (qa 3), .int 0, .ref (qa 4), .ref (qa 5), .ref (qa 6), .ref (qa 7), .ref (qa 8), .ref (qa 9), .ref (qa 10), .ref (qa 11), .ref (qa 12), .ref (qa 13), .ref (qa 14), .ref (qa 15), .ref (qa 16), .ref (qa 17), .ref (qa 18), .ref (qa 19), .ref (qa 20), .int 0, .int 0, .int 0, .int 0, .long 0, .long 0, .long 0, .long 0, .long 0, .ref (qa 21), .int 0, .int 0, .int 0, .int 0]))] := hD
  have hK : va_K D cls [] s := hK
  refine W.eq (g2 := F0 m 13 ls [.int 0]) rfl ?_
  refine lv_if_eq (tgt := 37) hx hb d_Mo_symbol_13 (by decide) (fun _ => ?_) (fun q9 => absurd (by decide : ((0 : Int32) = 0)) q9)
  refine lv_aload_n hx hb d_Mo_symbol_37 rfl (lv_at hl 0 rfl) ?_
  refine lv_iconst (v := 1) hx hb d_Mo_symbol_38 (by decide) ?_
  refine xc_V (As := [.int 1]) (rest := []) (n := 1) (wc := [(h0, .inr (7, [.int 0, .int 0, .int 0, .int 0, .int 0, .int 0, .int (-1), .int (-1), .int 0, .int 0, .int 0, .int 0, .int 0, .int 0, .int 0, .int 0, .ref (qa 0), .ref (qa 1), .ref (qa 2), .ref (qa 3), .int 0, .ref (qa 4), .ref (qa 5), .ref (qa 6), .ref (qa 7), .ref (qa 8), .ref (qa 9), .ref (qa 10), .ref (qa 11), .ref (qa 12), .ref (qa 13), .ref (qa 14), .ref (qa 15), .ref (qa 16), .ref (qa 17), .ref (qa 18), .ref (qa 19), .ref (qa 20), .int 0, .int 0, .int 0, .int 0, .long 0, .long 0, .long 0, .long 0, .long 0, .ref (qa 21), .int 0, .int 0, .int 0, .int 0]))]) (wr := []) (tc := []) (tr := []) ⟨hx, hb, hml, hown, hts⟩ (c_Mo_refuse_1 l D h0 qa H.size) rfl rfl w_452 w_450 w_451 w_557 w_8 (by decide +kernel) ⟨Nat.le_of_ble_eq_true rfl, Nat.le_of_ble_eq_true rfl⟩ hP hD hK hS hA hN hZ [0] [] rfl rfl (by decide) (by decide) (by decide) [] [] rfl rfl (ci := 7) (q0 := 0) (q := (R_Mo, F_Mo, 52)) rfl rfl rfl rfl hl.1 rfl (Nat.le_of_ble_eq_true rfl) d_Mo_symbol_39 ⟨Nat.le_of_ble_eq_true rfl, Nat.le_of_ble_eq_true rfl⟩ (fun u2 H locs hP hD hK hS => ?_)
  have hP : va_P D cls [(h0, .inr (7, [.int 1, .int 0, .int 0, .int 0, .int 0, .int 0, .int (-1), .int (-1), .int 0, .int 0, .int 0, .int 0, .int 0, .int 0, .int 0, .int 0, .ref (qa 0), .ref (qa 1), .ref (qa 2), .ref (qa 3), .int 0, .ref (qa 4), .ref (qa 5), .ref (qa 6), .ref (qa 7), .ref (qa 8), .ref (qa 9), .ref (qa 10), .ref (qa 11), .ref (qa 12), .ref (qa 13), .ref (qa 14), .ref (qa 15), .ref (qa 16), .ref (qa 17), .ref (qa 18), .ref (qa 19), .ref (qa 20), .int 0, .int 0, .int 0, .int 0, .long 0, .long 0, .long 0, .long 0, .long 0, .ref (qa 21), .int 0, .int 0, .int 0, .int 0]))] H := hP
  have hD : va_D A [(h0, .inr (7, [.int 1, .int 0, .int 0, .int 0, .int 0, .int 0, .int (-1), .int (-1), .int 0, .int 0, .int 0, .int 0, .int 0, .int 0, .int 0, .int 0, .ref (qa 0), .ref (qa 1), .ref (qa 2), .ref (qa 3), .int 0, .ref (qa 4), .ref (qa 5), .ref (qa 6), .ref (qa 7), .ref (qa 8), .ref (qa 9), .ref (qa 10), .ref (qa 11), .ref (qa 12), .ref (qa 13), .ref (qa 14), .ref (qa 15), .ref (qa 16), .ref (qa 17), .ref (qa 18), .ref (qa 19), .ref (qa 20), .int 0, .int 0, .int 0, .int 0, .long 0, .long 0, .long 0, .long 0, .long 0, .ref (qa 21), .int 0, .int 0, .int 0, .int 0]))] := hD
  have hK : va_K D cls [] s := hK
  refine W.eq (g2 := F0 m 42 ls [.int 0]) rfl ?_
  exact xr_i hx hb hr hlocks hP hD hK hS (()) [0] rfl rfl (by decide) [] rfl rfl d_Mo_symbol_42

theorem d_Mo_letter_0 : decode b_Mo_letter 0 = .ok (.aload_n 0, 1) := by decide +kernel
theorem d_Mo_letter_1 : decode b_Mo_letter 1 = .ok (.iconst 0, 1) := by decide +kernel
theorem d_Mo_letter_2 : decode b_Mo_letter 2 = .ok (.putfield 88, 3) := by decide +kernel
theorem d_Mo_letter_5 : decode b_Mo_letter 5 = .ok (.iload_n 1, 1) := by decide +kernel
theorem d_Mo_letter_6 : decode b_Mo_letter 6 = .ok (.aload_n 0, 1) := by decide +kernel
theorem d_Mo_letter_7 : decode b_Mo_letter 7 = .ok (.getfield 1010, 3) := by decide +kernel
theorem d_Mo_letter_10 : decode b_Mo_letter 10 = .ok (.invokestatic 1181, 3) := by decide +kernel
theorem d_Mo_letter_13 : decode b_Mo_letter 13 = .ok (.ifCond .eq 34, 3) := by decide +kernel
theorem d_Mo_letter_47 : decode b_Mo_letter 47 = .ok (.aload_n 0, 1) := by decide +kernel
theorem d_Mo_letter_48 : decode b_Mo_letter 48 = .ok (.iconst 1, 1) := by decide +kernel
theorem d_Mo_letter_49 : decode b_Mo_letter 49 = .ok (.invokevirtual 94, 3) := by decide +kernel
theorem d_Mo_letter_52 : decode b_Mo_letter 52 = .ok (.ireturn, 1) := by decide +kernel
set_option maxHeartbeats 4000000 in
set_option maxRecDepth 100000 in
theorem c_Mo_letter_n (l : Launch) (D : va_G) (h0 : Nat) (qa : Nat → Nat) (p0 p1 p2 : Int32) (hk : p0 < 0) (sz : Nat) : Met l y_Mo_letter (Cond.code y_Mo_letter b_Mo_letter 9 (some .int) :: bw) (xR 2 0 0) (va_Pc [.ref h0, .int p0, .int p1, .int p2] (xP D [] sz [(h0, .inr (7, [.int 0, .int 0, .int 0, .int 0, .int 0, .int 0, .int (-1), .int (-1), .int 0, .int 0, .int 0, .int 0, .int 0, .int 0, .int 0, .int 0, .ref (qa 0), .ref (qa 1), .ref (qa 2), .ref (qa 3), .int 0, .ref (qa 4), .ref (qa 5), .ref (qa 6), .ref (qa 7), .ref (qa 8), .ref (qa 9), .ref (qa 10), .ref (qa 11), .ref (qa 12), .ref (qa 13), .ref (qa 14), .ref (qa 15), .ref (qa 16), .ref (qa 17), .ref (qa 18), .ref (qa 19), .ref (qa 20), .int 0, .int 0, .int 0, .int 0, .long 0, .long 0, .long 0, .long 0, .long 0, .ref (qa 21), .int 0, .int 0, .int 0, .int 0]))])) (xQ (S := Unit) (fun _ => some (.int 0)) (fun _ => [(h0, .inr (7, [.int 1, .int 0, .int 0, .int 0, .int 0, .int 0, .int (-1), .int (-1), .int 0, .int 0, .int 0, .int 0, .int 0, .int 0, .int 0, .int 0, .ref (qa 0), .ref (qa 1), .ref (qa 2), .ref (qa 3), .int 0, .ref (qa 4), .ref (qa 5), .ref (qa 6), .ref (qa 7), .ref (qa 8), .ref (qa 9), .ref (qa 10), .ref (qa 11), .ref (qa 12), .ref (qa 13), .ref (qa 14), .ref (qa 15), .ref (qa 16), .ref (qa 17), .ref (qa 18), .ref (qa 19), .ref (qa 20), .int 0, .int 0, .int 0, .int 0, .long 0, .long 0, .long 0, .long 0, .long 0, .ref (qa 21), .int 0, .int 0, .int 0, .int 0]))]) (fun _ => []) D (va_A [(h0, .inr (7, [.int 0, .int 0, .int 0, .int 0, .int 0, .int 0, .int (-1), .int (-1), .int 0, .int 0, .int 0, .int 0, .int 0, .int 0, .int 0, .int 0, .ref (qa 0), .ref (qa 1), .ref (qa 2), .ref (qa 3), .int 0, .ref (qa 4), .ref (qa 5), .ref (qa 6), .ref (qa 7), .ref (qa 8), .ref (qa 9), .ref (qa 10), .ref (qa 11), .ref (qa 12), .ref (qa 13), .ref (qa 14), .ref (qa 15), .ref (qa 16), .ref (qa 17), .ref (qa 18), .ref (qa 19), .ref (qa 20), .int 0, .int 0, .int 0, .int 0, .long 0, .long 0, .long 0, .long 0, .long 0, .ref (qa 21), .int 0, .int 0, .int 0, .int 0]))] sz)) 0 0 (va_A [(h0, .inr (7, [.int 0, .int 0, .int 0, .int 0, .int 0, .int 0, .int (-1), .int (-1), .int 0, .int 0, .int 0, .int 0, .int 0, .int 0, .int 0, .int 0, .ref (qa 0), .ref (qa 1), .ref (qa 2), .ref (qa 3), .int 0, .ref (qa 4), .ref (qa 5), .ref (qa 6), .ref (qa 7), .ref (qa 8), .ref (qa 9), .ref (qa 10), .ref (qa 11), .ref (qa 12), .ref (qa 13), .ref (qa 14), .ref (qa 15), .ref (qa 16), .ref (qa 17), .ref (qa 18), .ref (qa 19), .ref (qa 20), .int 0, .int 0, .int 0, .int 0, .long 0, .long 0, .long 0, .long 0, .long 0, .ref (qa 21), .int 0, .int 0, .int 0, .int 0]))] sz) := by
  refine Met.ofW (cc := b_Mo_letter) (maxL := 9) (ret := (some .int)) (by decide) rfl ?_
  intro p e s m args below meth c s₁ B hml hv
  obtain ⟨rfl, hsz, hP, hK, hD0, hN, hZ⟩ := hv
  have hx := B.exec
  have hb := B.bytes
  have hr := B.returns
  have hlocks := B.notSynchronized
  have hts : ∀ w ∈ bw, w.before _ s = true := fun w h => atoms_spec (ws := Cond.code y_Mo_letter b_Mo_letter 9 (some .int) :: bw) B.pre w (List.mem_cons_of_mem _ h)
  have hown : s.vm.findClass "ObjectForgeModel" = some m.cls := findClass_of_methodNamed B.named
  subst hsz
  have hP0 := hP
  have hD := hD0.self (sz := s.heap.size)
  generalize hAe : va_A [(h0, .inr (7, [.int 0, .int 0, .int 0, .int 0, .int 0, .int 0, .int (-1), .int (-1), .int 0, .int 0, .int 0, .int 0, .int 0, .int 0, .int 0, .int 0, .ref (qa 0), .ref (qa 1), .ref (qa 2), .ref (qa 3), .int 0, .ref (qa 4), .ref (qa 5), .ref (qa 6), .ref (qa 7), .ref (qa 8), .ref (qa 9), .ref (qa 10), .ref (qa 11), .ref (qa 12), .ref (qa 13), .ref (qa 14), .ref (qa 15), .ref (qa 16), .ref (qa 17), .ref (qa 18), .ref (qa 19), .ref (qa 20), .int 0, .int 0, .int 0, .int 0, .long 0, .long 0, .long 0, .long 0, .long 0, .ref (qa 21), .int 0, .int 0, .int 0, .int 0]))] s.heap.size = A at hD hZ ⊢
  have hA : ∀ q : Nat, s.heap.size ≤ q → A q := fun q h => by rw [← hAe]; exact Or.inr h
  have hS : va_S A s.heap s.heap [] := va_S.rf
  have hl := lv_entry ([.ref h0, .int p0, .int p1, .int p2]) (n := 9) (Nat.le_of_ble_eq_true rfl)
  rw [lg_entry_eq]
  generalize (lg_sl ([.ref h0, .int p0, .int p1, .int p2]) ++ List.replicate (9 - (lg_sl ([.ref h0, .int p0, .int p1, .int p2])).length) Slot.unset).toArray = ls at hl ⊢
  have hl : lv_has ls 9 [(0, .ref h0), (1, .int p0), (2, .int p1), (3, .int p2)] := hl
  refine lv_aload_n hx hb d_Mo_letter_0 rfl (lv_at hl 0 rfl) ?_
  refine lv_iconst (v := 0) hx hb d_Mo_letter_1 (by decide) ?_
  refine va_put (D := D) (ci := 7) (v := .int 0) (ty := .int) (C := R_Mo) (T := F_Mo) (N := 52) hx hb hts i_Mo t_Mo t_Mo_ok n_Mo hown hK hP hD hS 0 rfl rfl 0 (by decide) (hts _ w_397) (fun _ h9 => h9) rfl (by decide +kernel) rfl rfl (Nat.le_of_ble_eq_true rfl) d_Mo_letter_2 (fun H locs hP hD hS => ?_)
  have hP : va_P D cls [(h0, .inr (7, [.int 0, .int 0, .int 0, .int 0, .int 0, .int 0, .int (-1), .int (-1), .int 0, .int 0, .int 0, .int 0, .int 0, .int 0, .int 0, .int 0, .ref (qa 0), .ref (qa 1), .ref (qa 2), .ref (qa 3), .int 0, .ref (qa 4), .ref (qa 5), .ref (qa 6), .ref (qa 7), .ref (qa 8), .ref (qa 9), .ref (qa 10), .ref (qa 11), .ref (qa 12), .ref (qa 13), .ref (qa 14), .ref (qa 15), .ref (qa 16), .ref (qa 17), .ref (qa 18), .ref (qa 19), .ref (qa 20), .int 0, .int 0, .int 0, .int 0, .long 0, .long 0, .long 0, .long 0, .long 0, .ref (qa 21), .int 0, .int 0, .int 0, .int 0]))] H := hP
  have hD : va_D A [(h0, .inr (7, [.int 0, .int 0, .int 0, .int 0, .int 0, .int 0, .int (-1), .int (-1), .int 0, .int 0, .int 0, .int 0, .int 0, .int 0, .int 0, .int 0, .ref (qa 0), .ref (qa 1), .ref (qa 2), .ref (qa 3), .int 0, .ref (qa 4), .ref (qa 5), .ref (qa 6), .ref (qa 7), .ref (qa 8), .ref (qa 9), .ref (qa 10), .ref (qa 11), .ref (qa 12), .ref (qa 13), .ref (qa 14), .ref (qa 15), .ref (qa 16), .ref (qa 17), .ref (qa 18), .ref (qa 19), .ref (qa 20), .int 0, .int 0, .int 0, .int 0, .long 0, .long 0, .long 0, .long 0, .long 0, .ref (qa 21), .int 0, .int 0, .int 0, .int 0]))] := hD
  refine lv_iload_n hx hb d_Mo_letter_5 rfl (lv_at hl 1 rfl) ?_
  refine lv_aload_n hx hb d_Mo_letter_6 rfl (lv_at hl 0 rfl) ?_
  refine va_get (D := D) (ci := 7) (v := .int 0) (C := R_Mo) (T := F_Mo) (N := 52) hx hb hts i_Mo hown hK hP 0 rfl rfl 2 (by decide) (hts _ w_400) (fun _ h9 => h9) rfl d_Mo_letter_7 ?_
  refine xc_S (As := [.int p0, .int 0]) (rest := []) (n := 2) (wc := []) (wr := [(h0, .inr (7, [.int 0, .int 0, .int 0, .int 0, .int 0, .int 0, .int (-1), .int (-1), .int 0, .int 0, .int 0, .int 0, .int 0, .int 0, .int 0, .int 0, .ref (qa 0), .ref (qa 1), .ref (qa 2), .ref (qa 3), .int 0, .ref (qa 4), .ref (qa 5), .ref (qa 6), .ref (qa 7), .ref (qa 8), .ref (qa 9), .ref (qa 10), .ref (qa 11), .ref (qa 12), .ref (qa 13), .ref (qa 14), .ref (qa 15), .ref (qa 16), .ref (qa 17), .ref (qa 18), .ref (qa 19), .ref (qa 20), .int 0, .int 0, .int 0, .int 0, .long 0, .long 0, .long 0, .long 0, .long 0, .ref (qa 21), .int 0, .int 0, .int 0, .int 0]))]) (tc := []) (tr := []) ⟨hx, hb, hml, hown, hts⟩ (c_Mo_within_n l D p0 0 hk H.size) rfl rfl w_510 w_508 w_509 w_8 (by decide +kernel) ⟨Nat.le_of_ble_eq_true rfl, Nat.le_of_ble_eq_true rfl⟩ hP hD hK hS hA hN hZ [] [0] rfl rfl (by decide) (by decide) (by decide) [] [] rfl rfl rfl hl.1 rfl (Nat.le_of_ble_eq_true rfl) d_Mo_letter_10 ⟨Nat.le_of_ble_eq_true rfl, Nat.le_of_ble_eq_true rfl⟩ (fun u1 H locs hP hD hK hS => ?_)
  have hP : va_P D cls [(h0, .inr (7, [.int 0, .int 0, .int 0, .int 0, .int 0, .int 0, .int (-1), .int (-1), .int 0, .int 0, .int 0, .int 0, .int 0, .int 0, .int 0, .int 0, .ref (qa 0), .ref (qa 1), .ref (qa 2), .ref (qa 3), .int 0, .ref (qa 4), .ref (qa 5), .ref (qa 6), .ref (qa 7), .ref (qa 8), .ref (qa 9), .ref (qa 10), .ref (qa 11), .ref (qa 12), .ref (qa 13), .ref (qa 14), .ref (qa 15), .ref (qa 16), .ref (qa 17), .ref (qa 18), .ref (qa 19), .ref (qa 20), .int 0, .int 0, .int 0, .int 0, .long 0, .long 0, .long 0, .long 0, .long 0, .ref (qa 21), .int 0, .int 0, .int 0, .int 0]))] H := hP
  have hD : va_D A [(h0, .inr (7, [.int 0, .int 0, .int 0, .int 0, .int 0, .int 0, .int (-1), .int (-1), .int 0, .int 0, .int 0, .int 0, .int 0, .int 0, .int 0, .int 0, .ref (qa 0), .ref (qa 1), .ref (qa 2), .ref (qa 3), .int 0, .ref (qa 4), .ref (qa 5), .ref (qa 6), .ref (qa 7), .ref (qa 8), .ref (qa 9), .ref (qa 10), .ref (qa 11), .ref (qa 12), .ref (qa 13), .ref (qa 14), .ref (qa 15), .ref (qa 16), .ref (qa 17), .ref (qa 18), .ref (qa 19), .ref (qa 20), .int 0, .int 0, .int 0, .int 0, .long 0, .long 0, .long 0, .long 0, .long 0, .ref (qa 21), .int 0, .int 0, .int 0, .int 0]))] := hD
  have hK : va_K D cls [] s := hK
  refine W.eq (g2 := F0 m 13 ls [.int 0]) rfl ?_
  refine lv_if_eq (tgt := 47) hx hb d_Mo_letter_13 (by decide) (fun _ => ?_) (fun q9 => absurd (by decide : ((0 : Int32) = 0)) q9)
  refine lv_aload_n hx hb d_Mo_letter_47 rfl (lv_at hl 0 rfl) ?_
  refine lv_iconst (v := 1) hx hb d_Mo_letter_48 (by decide) ?_
  refine xc_V (As := [.int 1]) (rest := []) (n := 1) (wc := [(h0, .inr (7, [.int 0, .int 0, .int 0, .int 0, .int 0, .int 0, .int (-1), .int (-1), .int 0, .int 0, .int 0, .int 0, .int 0, .int 0, .int 0, .int 0, .ref (qa 0), .ref (qa 1), .ref (qa 2), .ref (qa 3), .int 0, .ref (qa 4), .ref (qa 5), .ref (qa 6), .ref (qa 7), .ref (qa 8), .ref (qa 9), .ref (qa 10), .ref (qa 11), .ref (qa 12), .ref (qa 13), .ref (qa 14), .ref (qa 15), .ref (qa 16), .ref (qa 17), .ref (qa 18), .ref (qa 19), .ref (qa 20), .int 0, .int 0, .int 0, .int 0, .long 0, .long 0, .long 0, .long 0, .long 0, .ref (qa 21), .int 0, .int 0, .int 0, .int 0]))]) (wr := []) (tc := []) (tr := []) ⟨hx, hb, hml, hown, hts⟩ (c_Mo_refuse_1 l D h0 qa H.size) rfl rfl w_452 w_450 w_451 w_557 w_8 (by decide +kernel) ⟨Nat.le_of_ble_eq_true rfl, Nat.le_of_ble_eq_true rfl⟩ hP hD hK hS hA hN hZ [0] [] rfl rfl (by decide) (by decide) (by decide) [] [] rfl rfl (ci := 7) (q0 := 0) (q := (R_Mo, F_Mo, 52)) rfl rfl rfl rfl hl.1 rfl (Nat.le_of_ble_eq_true rfl) d_Mo_letter_49 ⟨Nat.le_of_ble_eq_true rfl, Nat.le_of_ble_eq_true rfl⟩ (fun u2 H locs hP hD hK hS => ?_)
  have hP : va_P D cls [(h0, .inr (7, [.int 1, .int 0, .int 0, .int 0, .int 0, .int 0, .int (-1), .int (-1), .int 0, .int 0, .int 0, .int 0, .int 0, .int 0, .int 0, .int 0, .ref (qa 0), .ref (qa 1), .ref (qa 2), .ref (qa 3), .int 0, .ref (qa 4), .ref (qa 5), .ref (qa 6), .ref (qa 7), .ref (qa 8), .ref (qa 9), .ref (qa 10), .ref (qa 11), .ref (qa 12), .ref (qa 13), .ref (qa 14), .ref (qa 15), .ref (qa 16), .ref (qa 17), .ref (qa 18), .ref (qa 19), .ref (qa 20), .int 0, .int 0, .int 0, .int 0, .long 0, .long 0, .long 0, .long 0, .long 0, .ref (qa 21), .int 0, .int 0, .int 0, .int 0]))] H := hP
  have hD : va_D A [(h0, .inr (7, [.int 1, .int 0, .int 0, .int 0, .int 0, .int 0, .int (-1), .int (-1), .int 0, .int 0, .int 0, .int 0, .int 0, .int 0, .int 0, .int 0, .ref (qa 0), .ref (qa 1), .ref (qa 2), .ref (qa 3), .int 0, .ref (qa 4), .ref (qa 5), .ref (qa 6), .ref (qa 7), .ref (qa 8), .ref (qa 9), .ref (qa 10), .ref (qa 11), .ref (qa 12), .ref (qa 13), .ref (qa 14), .ref (qa 15), .ref (qa 16), .ref (qa 17), .ref (qa 18), .ref (qa 19), .ref (qa 20), .int 0, .int 0, .int 0, .int 0, .long 0, .long 0, .long 0, .long 0, .long 0, .ref (qa 21), .int 0, .int 0, .int 0, .int 0]))] := hD
  have hK : va_K D cls [] s := hK
  refine W.eq (g2 := F0 m 52 ls [.int 0]) rfl ?_
  exact xr_i hx hb hr hlocks hP hD hK hS (()) [0] rfl rfl (by decide) [] rfl rfl d_Mo_letter_52

set_option maxHeartbeats 4000000 in
set_option maxRecDepth 100000 in
theorem c_Mo_letter_g (l : Launch) (D : va_G) (h0 : Nat) (qa : Nat → Nat) (p0 p1 p2 : Int32) (hk : ¬ p0 < 0) (hg : 0 ≤ p0) (sz : Nat) : Met l y_Mo_letter (Cond.code y_Mo_letter b_Mo_letter 9 (some .int) :: bw) (xR 2 0 0) (va_Pc [.ref h0, .int p0, .int p1, .int p2] (xP D [] sz [(h0, .inr (7, [.int 0, .int 0, .int 0, .int 0, .int 0, .int 0, .int (-1), .int (-1), .int 0, .int 0, .int 0, .int 0, .int 0, .int 0, .int 0, .int 0, .ref (qa 0), .ref (qa 1), .ref (qa 2), .ref (qa 3), .int 0, .ref (qa 4), .ref (qa 5), .ref (qa 6), .ref (qa 7), .ref (qa 8), .ref (qa 9), .ref (qa 10), .ref (qa 11), .ref (qa 12), .ref (qa 13), .ref (qa 14), .ref (qa 15), .ref (qa 16), .ref (qa 17), .ref (qa 18), .ref (qa 19), .ref (qa 20), .int 0, .int 0, .int 0, .int 0, .long 0, .long 0, .long 0, .long 0, .long 0, .ref (qa 21), .int 0, .int 0, .int 0, .int 0]))])) (xQ (S := Unit) (fun _ => some (.int 0)) (fun _ => [(h0, .inr (7, [.int 1, .int 0, .int 0, .int 0, .int 0, .int 0, .int (-1), .int (-1), .int 0, .int 0, .int 0, .int 0, .int 0, .int 0, .int 0, .int 0, .ref (qa 0), .ref (qa 1), .ref (qa 2), .ref (qa 3), .int 0, .ref (qa 4), .ref (qa 5), .ref (qa 6), .ref (qa 7), .ref (qa 8), .ref (qa 9), .ref (qa 10), .ref (qa 11), .ref (qa 12), .ref (qa 13), .ref (qa 14), .ref (qa 15), .ref (qa 16), .ref (qa 17), .ref (qa 18), .ref (qa 19), .ref (qa 20), .int 0, .int 0, .int 0, .int 0, .long 0, .long 0, .long 0, .long 0, .long 0, .ref (qa 21), .int 0, .int 0, .int 0, .int 0]))]) (fun _ => []) D (va_A [(h0, .inr (7, [.int 0, .int 0, .int 0, .int 0, .int 0, .int 0, .int (-1), .int (-1), .int 0, .int 0, .int 0, .int 0, .int 0, .int 0, .int 0, .int 0, .ref (qa 0), .ref (qa 1), .ref (qa 2), .ref (qa 3), .int 0, .ref (qa 4), .ref (qa 5), .ref (qa 6), .ref (qa 7), .ref (qa 8), .ref (qa 9), .ref (qa 10), .ref (qa 11), .ref (qa 12), .ref (qa 13), .ref (qa 14), .ref (qa 15), .ref (qa 16), .ref (qa 17), .ref (qa 18), .ref (qa 19), .ref (qa 20), .int 0, .int 0, .int 0, .int 0, .long 0, .long 0, .long 0, .long 0, .long 0, .ref (qa 21), .int 0, .int 0, .int 0, .int 0]))] sz)) 0 0 (va_A [(h0, .inr (7, [.int 0, .int 0, .int 0, .int 0, .int 0, .int 0, .int (-1), .int (-1), .int 0, .int 0, .int 0, .int 0, .int 0, .int 0, .int 0, .int 0, .ref (qa 0), .ref (qa 1), .ref (qa 2), .ref (qa 3), .int 0, .ref (qa 4), .ref (qa 5), .ref (qa 6), .ref (qa 7), .ref (qa 8), .ref (qa 9), .ref (qa 10), .ref (qa 11), .ref (qa 12), .ref (qa 13), .ref (qa 14), .ref (qa 15), .ref (qa 16), .ref (qa 17), .ref (qa 18), .ref (qa 19), .ref (qa 20), .int 0, .int 0, .int 0, .int 0, .long 0, .long 0, .long 0, .long 0, .long 0, .ref (qa 21), .int 0, .int 0, .int 0, .int 0]))] sz) := by
  refine Met.ofW (cc := b_Mo_letter) (maxL := 9) (ret := (some .int)) (by decide) rfl ?_
  intro p e s m args below meth c s₁ B hml hv
  obtain ⟨rfl, hsz, hP, hK, hD0, hN, hZ⟩ := hv
  have hx := B.exec
  have hb := B.bytes
  have hr := B.returns
  have hlocks := B.notSynchronized
  have hts : ∀ w ∈ bw, w.before _ s = true := fun w h => atoms_spec (ws := Cond.code y_Mo_letter b_Mo_letter 9 (some .int) :: bw) B.pre w (List.mem_cons_of_mem _ h)
  have hown : s.vm.findClass "ObjectForgeModel" = some m.cls := findClass_of_methodNamed B.named
  subst hsz
  have hP0 := hP
  have hD := hD0.self (sz := s.heap.size)
  generalize hAe : va_A [(h0, .inr (7, [.int 0, .int 0, .int 0, .int 0, .int 0, .int 0, .int (-1), .int (-1), .int 0, .int 0, .int 0, .int 0, .int 0, .int 0, .int 0, .int 0, .ref (qa 0), .ref (qa 1), .ref (qa 2), .ref (qa 3), .int 0, .ref (qa 4), .ref (qa 5), .ref (qa 6), .ref (qa 7), .ref (qa 8), .ref (qa 9), .ref (qa 10), .ref (qa 11), .ref (qa 12), .ref (qa 13), .ref (qa 14), .ref (qa 15), .ref (qa 16), .ref (qa 17), .ref (qa 18), .ref (qa 19), .ref (qa 20), .int 0, .int 0, .int 0, .int 0, .long 0, .long 0, .long 0, .long 0, .long 0, .ref (qa 21), .int 0, .int 0, .int 0, .int 0]))] s.heap.size = A at hD hZ ⊢
  have hA : ∀ q : Nat, s.heap.size ≤ q → A q := fun q h => by rw [← hAe]; exact Or.inr h
  have hS : va_S A s.heap s.heap [] := va_S.rf
  have hl := lv_entry ([.ref h0, .int p0, .int p1, .int p2]) (n := 9) (Nat.le_of_ble_eq_true rfl)
  rw [lg_entry_eq]
  generalize (lg_sl ([.ref h0, .int p0, .int p1, .int p2]) ++ List.replicate (9 - (lg_sl ([.ref h0, .int p0, .int p1, .int p2])).length) Slot.unset).toArray = ls at hl ⊢
  have hl : lv_has ls 9 [(0, .ref h0), (1, .int p0), (2, .int p1), (3, .int p2)] := hl
  refine lv_aload_n hx hb d_Mo_letter_0 rfl (lv_at hl 0 rfl) ?_
  refine lv_iconst (v := 0) hx hb d_Mo_letter_1 (by decide) ?_
  refine va_put (D := D) (ci := 7) (v := .int 0) (ty := .int) (C := R_Mo) (T := F_Mo) (N := 52) hx hb hts i_Mo t_Mo t_Mo_ok n_Mo hown hK hP hD hS 0 rfl rfl 0 (by decide) (hts _ w_397) (fun _ h9 => h9) rfl (by decide +kernel) rfl rfl (Nat.le_of_ble_eq_true rfl) d_Mo_letter_2 (fun H locs hP hD hS => ?_)
  have hP : va_P D cls [(h0, .inr (7, [.int 0, .int 0, .int 0, .int 0, .int 0, .int 0, .int (-1), .int (-1), .int 0, .int 0, .int 0, .int 0, .int 0, .int 0, .int 0, .int 0, .ref (qa 0), .ref (qa 1), .ref (qa 2), .ref (qa 3), .int 0, .ref (qa 4), .ref (qa 5), .ref (qa 6), .ref (qa 7), .ref (qa 8), .ref (qa 9), .ref (qa 10), .ref (qa 11), .ref (qa 12), .ref (qa 13), .ref (qa 14), .ref (qa 15), .ref (qa 16), .ref (qa 17), .ref (qa 18), .ref (qa 19), .ref (qa 20), .int 0, .int 0, .int 0, .int 0, .long 0, .long 0, .long 0, .long 0, .long 0, .ref (qa 21), .int 0, .int 0, .int 0, .int 0]))] H := hP
  have hD : va_D A [(h0, .inr (7, [.int 0, .int 0, .int 0, .int 0, .int 0, .int 0, .int (-1), .int (-1), .int 0, .int 0, .int 0, .int 0, .int 0, .int 0, .int 0, .int 0, .ref (qa 0), .ref (qa 1), .ref (qa 2), .ref (qa 3), .int 0, .ref (qa 4), .ref (qa 5), .ref (qa 6), .ref (qa 7), .ref (qa 8), .ref (qa 9), .ref (qa 10), .ref (qa 11), .ref (qa 12), .ref (qa 13), .ref (qa 14), .ref (qa 15), .ref (qa 16), .ref (qa 17), .ref (qa 18), .ref (qa 19), .ref (qa 20), .int 0, .int 0, .int 0, .int 0, .long 0, .long 0, .long 0, .long 0, .long 0, .ref (qa 21), .int 0, .int 0, .int 0, .int 0]))] := hD
  refine lv_iload_n hx hb d_Mo_letter_5 rfl (lv_at hl 1 rfl) ?_
  refine lv_aload_n hx hb d_Mo_letter_6 rfl (lv_at hl 0 rfl) ?_
  refine va_get (D := D) (ci := 7) (v := .int 0) (C := R_Mo) (T := F_Mo) (N := 52) hx hb hts i_Mo hown hK hP 0 rfl rfl 2 (by decide) (hts _ w_400) (fun _ h9 => h9) rfl d_Mo_letter_7 ?_
  refine xc_S (As := [.int p0, .int 0]) (rest := []) (n := 2) (wc := []) (wr := [(h0, .inr (7, [.int 0, .int 0, .int 0, .int 0, .int 0, .int 0, .int (-1), .int (-1), .int 0, .int 0, .int 0, .int 0, .int 0, .int 0, .int 0, .int 0, .ref (qa 0), .ref (qa 1), .ref (qa 2), .ref (qa 3), .int 0, .ref (qa 4), .ref (qa 5), .ref (qa 6), .ref (qa 7), .ref (qa 8), .ref (qa 9), .ref (qa 10), .ref (qa 11), .ref (qa 12), .ref (qa 13), .ref (qa 14), .ref (qa 15), .ref (qa 16), .ref (qa 17), .ref (qa 18), .ref (qa 19), .ref (qa 20), .int 0, .int 0, .int 0, .int 0, .long 0, .long 0, .long 0, .long 0, .long 0, .ref (qa 21), .int 0, .int 0, .int 0, .int 0]))]) (tc := []) (tr := []) ⟨hx, hb, hml, hown, hts⟩ (c_Mo_within_g l D p0 0 hk hg H.size) rfl rfl w_510 w_508 w_509 w_8 (by decide +kernel) ⟨Nat.le_of_ble_eq_true rfl, Nat.le_of_ble_eq_true rfl⟩ hP hD hK hS hA hN hZ [] [0] rfl rfl (by decide) (by decide) (by decide) [] [] rfl rfl rfl hl.1 rfl (Nat.le_of_ble_eq_true rfl) d_Mo_letter_10 ⟨Nat.le_of_ble_eq_true rfl, Nat.le_of_ble_eq_true rfl⟩ (fun u1 H locs hP hD hK hS => ?_)
  have hP : va_P D cls [(h0, .inr (7, [.int 0, .int 0, .int 0, .int 0, .int 0, .int 0, .int (-1), .int (-1), .int 0, .int 0, .int 0, .int 0, .int 0, .int 0, .int 0, .int 0, .ref (qa 0), .ref (qa 1), .ref (qa 2), .ref (qa 3), .int 0, .ref (qa 4), .ref (qa 5), .ref (qa 6), .ref (qa 7), .ref (qa 8), .ref (qa 9), .ref (qa 10), .ref (qa 11), .ref (qa 12), .ref (qa 13), .ref (qa 14), .ref (qa 15), .ref (qa 16), .ref (qa 17), .ref (qa 18), .ref (qa 19), .ref (qa 20), .int 0, .int 0, .int 0, .int 0, .long 0, .long 0, .long 0, .long 0, .long 0, .ref (qa 21), .int 0, .int 0, .int 0, .int 0]))] H := hP
  have hD : va_D A [(h0, .inr (7, [.int 0, .int 0, .int 0, .int 0, .int 0, .int 0, .int (-1), .int (-1), .int 0, .int 0, .int 0, .int 0, .int 0, .int 0, .int 0, .int 0, .ref (qa 0), .ref (qa 1), .ref (qa 2), .ref (qa 3), .int 0, .ref (qa 4), .ref (qa 5), .ref (qa 6), .ref (qa 7), .ref (qa 8), .ref (qa 9), .ref (qa 10), .ref (qa 11), .ref (qa 12), .ref (qa 13), .ref (qa 14), .ref (qa 15), .ref (qa 16), .ref (qa 17), .ref (qa 18), .ref (qa 19), .ref (qa 20), .int 0, .int 0, .int 0, .int 0, .long 0, .long 0, .long 0, .long 0, .long 0, .ref (qa 21), .int 0, .int 0, .int 0, .int 0]))] := hD
  have hK : va_K D cls [] s := hK
  refine W.eq (g2 := F0 m 13 ls [.int 0]) rfl ?_
  refine lv_if_eq (tgt := 47) hx hb d_Mo_letter_13 (by decide) (fun _ => ?_) (fun q9 => absurd (by decide : ((0 : Int32) = 0)) q9)
  refine lv_aload_n hx hb d_Mo_letter_47 rfl (lv_at hl 0 rfl) ?_
  refine lv_iconst (v := 1) hx hb d_Mo_letter_48 (by decide) ?_
  refine xc_V (As := [.int 1]) (rest := []) (n := 1) (wc := [(h0, .inr (7, [.int 0, .int 0, .int 0, .int 0, .int 0, .int 0, .int (-1), .int (-1), .int 0, .int 0, .int 0, .int 0, .int 0, .int 0, .int 0, .int 0, .ref (qa 0), .ref (qa 1), .ref (qa 2), .ref (qa 3), .int 0, .ref (qa 4), .ref (qa 5), .ref (qa 6), .ref (qa 7), .ref (qa 8), .ref (qa 9), .ref (qa 10), .ref (qa 11), .ref (qa 12), .ref (qa 13), .ref (qa 14), .ref (qa 15), .ref (qa 16), .ref (qa 17), .ref (qa 18), .ref (qa 19), .ref (qa 20), .int 0, .int 0, .int 0, .int 0, .long 0, .long 0, .long 0, .long 0, .long 0, .ref (qa 21), .int 0, .int 0, .int 0, .int 0]))]) (wr := []) (tc := []) (tr := []) ⟨hx, hb, hml, hown, hts⟩ (c_Mo_refuse_1 l D h0 qa H.size) rfl rfl w_452 w_450 w_451 w_557 w_8 (by decide +kernel) ⟨Nat.le_of_ble_eq_true rfl, Nat.le_of_ble_eq_true rfl⟩ hP hD hK hS hA hN hZ [0] [] rfl rfl (by decide) (by decide) (by decide) [] [] rfl rfl (ci := 7) (q0 := 0) (q := (R_Mo, F_Mo, 52)) rfl rfl rfl rfl hl.1 rfl (Nat.le_of_ble_eq_true rfl) d_Mo_letter_49 ⟨Nat.le_of_ble_eq_true rfl, Nat.le_of_ble_eq_true rfl⟩ (fun u2 H locs hP hD hK hS => ?_)
  have hP : va_P D cls [(h0, .inr (7, [.int 1, .int 0, .int 0, .int 0, .int 0, .int 0, .int (-1), .int (-1), .int 0, .int 0, .int 0, .int 0, .int 0, .int 0, .int 0, .int 0, .ref (qa 0), .ref (qa 1), .ref (qa 2), .ref (qa 3), .int 0, .ref (qa 4), .ref (qa 5), .ref (qa 6), .ref (qa 7), .ref (qa 8), .ref (qa 9), .ref (qa 10), .ref (qa 11), .ref (qa 12), .ref (qa 13), .ref (qa 14), .ref (qa 15), .ref (qa 16), .ref (qa 17), .ref (qa 18), .ref (qa 19), .ref (qa 20), .int 0, .int 0, .int 0, .int 0, .long 0, .long 0, .long 0, .long 0, .long 0, .ref (qa 21), .int 0, .int 0, .int 0, .int 0]))] H := hP
  have hD : va_D A [(h0, .inr (7, [.int 1, .int 0, .int 0, .int 0, .int 0, .int 0, .int (-1), .int (-1), .int 0, .int 0, .int 0, .int 0, .int 0, .int 0, .int 0, .int 0, .ref (qa 0), .ref (qa 1), .ref (qa 2), .ref (qa 3), .int 0, .ref (qa 4), .ref (qa 5), .ref (qa 6), .ref (qa 7), .ref (qa 8), .ref (qa 9), .ref (qa 10), .ref (qa 11), .ref (qa 12), .ref (qa 13), .ref (qa 14), .ref (qa 15), .ref (qa 16), .ref (qa 17), .ref (qa 18), .ref (qa 19), .ref (qa 20), .int 0, .int 0, .int 0, .int 0, .long 0, .long 0, .long 0, .long 0, .long 0, .ref (qa 21), .int 0, .int 0, .int 0, .int 0]))] := hD
  have hK : va_K D cls [] s := hK
  refine W.eq (g2 := F0 m 52 ls [.int 0]) rfl ?_
  exact xr_i hx hb hr hlocks hP hD hK hS (()) [0] rfl rfl (by decide) [] rfl rfl d_Mo_letter_52

theorem d_Mo_relocation_0 : decode b_Mo_relocation 0 = .ok (.aload_n 0, 1) := by decide +kernel
theorem d_Mo_relocation_1 : decode b_Mo_relocation 1 = .ok (.iconst 0, 1) := by decide +kernel
theorem d_Mo_relocation_2 : decode b_Mo_relocation 2 = .ok (.putfield 88, 3) := by decide +kernel
theorem d_Mo_relocation_5 : decode b_Mo_relocation 5 = .ok (.iload_n 1, 1) := by decide +kernel
theorem d_Mo_relocation_6 : decode b_Mo_relocation 6 = .ok (.aload_n 0, 1) := by decide +kernel
theorem d_Mo_relocation_7 : decode b_Mo_relocation 7 = .ok (.getfield 1010, 3) := by decide +kernel
theorem d_Mo_relocation_10 : decode b_Mo_relocation 10 = .ok (.invokestatic 1181, 3) := by decide +kernel
theorem d_Mo_relocation_13 : decode b_Mo_relocation 13 = .ok (.ifCond .eq 24, 3) := by decide +kernel
theorem d_Mo_relocation_37 : decode b_Mo_relocation 37 = .ok (.aload_n 0, 1) := by decide +kernel
theorem d_Mo_relocation_38 : decode b_Mo_relocation 38 = .ok (.iconst 1, 1) := by decide +kernel
theorem d_Mo_relocation_39 : decode b_Mo_relocation 39 = .ok (.invokevirtual 94, 3) := by decide +kernel
theorem d_Mo_relocation_42 : decode b_Mo_relocation 42 = .ok (.ireturn, 1) := by decide +kernel
set_option maxHeartbeats 4000000 in
set_option maxRecDepth 100000 in
theorem c_Mo_relocation_n (l : Launch) (D : va_G) (h0 : Nat) (qa : Nat → Nat) (p0 p1 p2 : Int32) (hk : p0 < 0) (sz : Nat) : Met l y_Mo_relocation (Cond.code y_Mo_relocation b_Mo_relocation 5 (some .int) :: bw) (xR 2 0 0) (va_Pc [.ref h0, .int p0, .int p1, .int p2] (xP D [] sz [(h0, .inr (7, [.int 0, .int 0, .int 0, .int 0, .int 0, .int 0, .int (-1), .int (-1), .int 0, .int 0, .int 0, .int 0, .int 0, .int 0, .int 0, .int 0, .ref (qa 0), .ref (qa 1), .ref (qa 2), .ref (qa 3), .int 0, .ref (qa 4), .ref (qa 5), .ref (qa 6), .ref (qa 7), .ref (qa 8), .ref (qa 9), .ref (qa 10), .ref (qa 11), .ref (qa 12), .ref (qa 13), .ref (qa 14), .ref (qa 15), .ref (qa 16), .ref (qa 17), .ref (qa 18), .ref (qa 19), .ref (qa 20), .int 0, .int 0, .int 0, .int 0, .long 0, .long 0, .long 0, .long 0, .long 0, .ref (qa 21), .int 0, .int 0, .int 0, .int 0]))])) (xQ (S := Unit) (fun _ => some (.int 0)) (fun _ => [(h0, .inr (7, [.int 1, .int 0, .int 0, .int 0, .int 0, .int 0, .int (-1), .int (-1), .int 0, .int 0, .int 0, .int 0, .int 0, .int 0, .int 0, .int 0, .ref (qa 0), .ref (qa 1), .ref (qa 2), .ref (qa 3), .int 0, .ref (qa 4), .ref (qa 5), .ref (qa 6), .ref (qa 7), .ref (qa 8), .ref (qa 9), .ref (qa 10), .ref (qa 11), .ref (qa 12), .ref (qa 13), .ref (qa 14), .ref (qa 15), .ref (qa 16), .ref (qa 17), .ref (qa 18), .ref (qa 19), .ref (qa 20), .int 0, .int 0, .int 0, .int 0, .long 0, .long 0, .long 0, .long 0, .long 0, .ref (qa 21), .int 0, .int 0, .int 0, .int 0]))]) (fun _ => []) D (va_A [(h0, .inr (7, [.int 0, .int 0, .int 0, .int 0, .int 0, .int 0, .int (-1), .int (-1), .int 0, .int 0, .int 0, .int 0, .int 0, .int 0, .int 0, .int 0, .ref (qa 0), .ref (qa 1), .ref (qa 2), .ref (qa 3), .int 0, .ref (qa 4), .ref (qa 5), .ref (qa 6), .ref (qa 7), .ref (qa 8), .ref (qa 9), .ref (qa 10), .ref (qa 11), .ref (qa 12), .ref (qa 13), .ref (qa 14), .ref (qa 15), .ref (qa 16), .ref (qa 17), .ref (qa 18), .ref (qa 19), .ref (qa 20), .int 0, .int 0, .int 0, .int 0, .long 0, .long 0, .long 0, .long 0, .long 0, .ref (qa 21), .int 0, .int 0, .int 0, .int 0]))] sz)) 0 0 (va_A [(h0, .inr (7, [.int 0, .int 0, .int 0, .int 0, .int 0, .int 0, .int (-1), .int (-1), .int 0, .int 0, .int 0, .int 0, .int 0, .int 0, .int 0, .int 0, .ref (qa 0), .ref (qa 1), .ref (qa 2), .ref (qa 3), .int 0, .ref (qa 4), .ref (qa 5), .ref (qa 6), .ref (qa 7), .ref (qa 8), .ref (qa 9), .ref (qa 10), .ref (qa 11), .ref (qa 12), .ref (qa 13), .ref (qa 14), .ref (qa 15), .ref (qa 16), .ref (qa 17), .ref (qa 18), .ref (qa 19), .ref (qa 20), .int 0, .int 0, .int 0, .int 0, .long 0, .long 0, .long 0, .long 0, .long 0, .ref (qa 21), .int 0, .int 0, .int 0, .int 0]))] sz) := by
  refine Met.ofW (cc := b_Mo_relocation) (maxL := 5) (ret := (some .int)) (by decide) rfl ?_
  intro p e s m args below meth c s₁ B hml hv
  obtain ⟨rfl, hsz, hP, hK, hD0, hN, hZ⟩ := hv
  have hx := B.exec
  have hb := B.bytes
  have hr := B.returns
  have hlocks := B.notSynchronized
  have hts : ∀ w ∈ bw, w.before _ s = true := fun w h => atoms_spec (ws := Cond.code y_Mo_relocation b_Mo_relocation 5 (some .int) :: bw) B.pre w (List.mem_cons_of_mem _ h)
  have hown : s.vm.findClass "ObjectForgeModel" = some m.cls := findClass_of_methodNamed B.named
  subst hsz
  have hP0 := hP
  have hD := hD0.self (sz := s.heap.size)
  generalize hAe : va_A [(h0, .inr (7, [.int 0, .int 0, .int 0, .int 0, .int 0, .int 0, .int (-1), .int (-1), .int 0, .int 0, .int 0, .int 0, .int 0, .int 0, .int 0, .int 0, .ref (qa 0), .ref (qa 1), .ref (qa 2), .ref (qa 3), .int 0, .ref (qa 4), .ref (qa 5), .ref (qa 6), .ref (qa 7), .ref (qa 8), .ref (qa 9), .ref (qa 10), .ref (qa 11), .ref (qa 12), .ref (qa 13), .ref (qa 14), .ref (qa 15), .ref (qa 16), .ref (qa 17), .ref (qa 18), .ref (qa 19), .ref (qa 20), .int 0, .int 0, .int 0, .int 0, .long 0, .long 0, .long 0, .long 0, .long 0, .ref (qa 21), .int 0, .int 0, .int 0, .int 0]))] s.heap.size = A at hD hZ ⊢
  have hA : ∀ q : Nat, s.heap.size ≤ q → A q := fun q h => by rw [← hAe]; exact Or.inr h
  have hS : va_S A s.heap s.heap [] := va_S.rf
  have hl := lv_entry ([.ref h0, .int p0, .int p1, .int p2]) (n := 5) (Nat.le_of_ble_eq_true rfl)
  rw [lg_entry_eq]
  generalize (lg_sl ([.ref h0, .int p0, .int p1, .int p2]) ++ List.replicate (5 - (lg_sl ([.ref h0, .int p0, .int p1, .int p2])).length) Slot.unset).toArray = ls at hl ⊢
  have hl : lv_has ls 5 [(0, .ref h0), (1, .int p0), (2, .int p1), (3, .int p2)] := hl
  refine lv_aload_n hx hb d_Mo_relocation_0 rfl (lv_at hl 0 rfl) ?_
  refine lv_iconst (v := 0) hx hb d_Mo_relocation_1 (by decide) ?_
  refine va_put (D := D) (ci := 7) (v := .int 0) (ty := .int) (C := R_Mo) (T := F_Mo) (N := 52) hx hb hts i_Mo t_Mo t_Mo_ok n_Mo hown hK hP hD hS 0 rfl rfl 0 (by decide) (hts _ w_397) (fun _ h9 => h9) rfl (by decide +kernel) rfl rfl (Nat.le_of_ble_eq_true rfl) d_Mo_relocation_2 (fun H locs hP hD hS => ?_)
  have hP : va_P D cls [(h0, .inr (7, [.int 0, .int 0, .int 0, .int 0, .int 0, .int 0, .int (-1), .int (-1), .int 0, .int 0, .int 0, .int 0, .int 0, .int 0, .int 0, .int 0, .ref (qa 0), .ref (qa 1), .ref (qa 2), .ref (qa 3), .int 0, .ref (qa 4), .ref (qa 5), .ref (qa 6), .ref (qa 7), .ref (qa 8), .ref (qa 9), .ref (qa 10), .ref (qa 11), .ref (qa 12), .ref (qa 13), .ref (qa 14), .ref (qa 15), .ref (qa 16), .ref (qa 17), .ref (qa 18), .ref (qa 19), .ref (qa 20), .int 0, .int 0, .int 0, .int 0, .long 0, .long 0, .long 0, .long 0, .long 0, .ref (qa 21), .int 0, .int 0, .int 0, .int 0]))] H := hP
  have hD : va_D A [(h0, .inr (7, [.int 0, .int 0, .int 0, .int 0, .int 0, .int 0, .int (-1), .int (-1), .int 0, .int 0, .int 0, .int 0, .int 0, .int 0, .int 0, .int 0, .ref (qa 0), .ref (qa 1), .ref (qa 2), .ref (qa 3), .int 0, .ref (qa 4), .ref (qa 5), .ref (qa 6), .ref (qa 7), .ref (qa 8), .ref (qa 9), .ref (qa 10), .ref (qa 11), .ref (qa 12), .ref (qa 13), .ref (qa 14), .ref (qa 15), .ref (qa 16), .ref (qa 17), .ref (qa 18), .ref (qa 19), .ref (qa 20), .int 0, .int 0, .int 0, .int 0, .long 0, .long 0, .long 0, .long 0, .long 0, .ref (qa 21), .int 0, .int 0, .int 0, .int 0]))] := hD
  refine lv_iload_n hx hb d_Mo_relocation_5 rfl (lv_at hl 1 rfl) ?_
  refine lv_aload_n hx hb d_Mo_relocation_6 rfl (lv_at hl 0 rfl) ?_
  refine va_get (D := D) (ci := 7) (v := .int 0) (C := R_Mo) (T := F_Mo) (N := 52) hx hb hts i_Mo hown hK hP 0 rfl rfl 2 (by decide) (hts _ w_400) (fun _ h9 => h9) rfl d_Mo_relocation_7 ?_
  refine xc_S (As := [.int p0, .int 0]) (rest := []) (n := 2) (wc := []) (wr := [(h0, .inr (7, [.int 0, .int 0, .int 0, .int 0, .int 0, .int 0, .int (-1), .int (-1), .int 0, .int 0, .int 0, .int 0, .int 0, .int 0, .int 0, .int 0, .ref (qa 0), .ref (qa 1), .ref (qa 2), .ref (qa 3), .int 0, .ref (qa 4), .ref (qa 5), .ref (qa 6), .ref (qa 7), .ref (qa 8), .ref (qa 9), .ref (qa 10), .ref (qa 11), .ref (qa 12), .ref (qa 13), .ref (qa 14), .ref (qa 15), .ref (qa 16), .ref (qa 17), .ref (qa 18), .ref (qa 19), .ref (qa 20), .int 0, .int 0, .int 0, .int 0, .long 0, .long 0, .long 0, .long 0, .long 0, .ref (qa 21), .int 0, .int 0, .int 0, .int 0]))]) (tc := []) (tr := []) ⟨hx, hb, hml, hown, hts⟩ (c_Mo_within_n l D p0 0 hk H.size) rfl rfl w_510 w_508 w_509 w_8 (by decide +kernel) ⟨Nat.le_of_ble_eq_true rfl, Nat.le_of_ble_eq_true rfl⟩ hP hD hK hS hA hN hZ [] [0] rfl rfl (by decide) (by decide) (by decide) [] [] rfl rfl rfl hl.1 rfl (Nat.le_of_ble_eq_true rfl) d_Mo_relocation_10 ⟨Nat.le_of_ble_eq_true rfl, Nat.le_of_ble_eq_true rfl⟩ (fun u1 H locs hP hD hK hS => ?_)
  have hP : va_P D cls [(h0, .inr (7, [.int 0, .int 0, .int 0, .int 0, .int 0, .int 0, .int (-1), .int (-1), .int 0, .int 0, .int 0, .int 0, .int 0, .int 0, .int 0, .int 0, .ref (qa 0), .ref (qa 1), .ref (qa 2), .ref (qa 3), .int 0, .ref (qa 4), .ref (qa 5), .ref (qa 6), .ref (qa 7), .ref (qa 8), .ref (qa 9), .ref (qa 10), .ref (qa 11), .ref (qa 12), .ref (qa 13), .ref (qa 14), .ref (qa 15), .ref (qa 16), .ref (qa 17), .ref (qa 18), .ref (qa 19), .ref (qa 20), .int 0, .int 0, .int 0, .int 0, .long 0, .long 0, .long 0, .long 0, .long 0, .ref (qa 21), .int 0, .int 0, .int 0, .int 0]))] H := hP
  have hD : va_D A [(h0, .inr (7, [.int 0, .int 0, .int 0, .int 0, .int 0, .int 0, .int (-1), .int (-1), .int 0, .int 0, .int 0, .int 0, .int 0, .int 0, .int 0, .int 0, .ref (qa 0), .ref (qa 1), .ref (qa 2), .ref (qa 3), .int 0, .ref (qa 4), .ref (qa 5), .ref (qa 6), .ref (qa 7), .ref (qa 8), .ref (qa 9), .ref (qa 10), .ref (qa 11), .ref (qa 12), .ref (qa 13), .ref (qa 14), .ref (qa 15), .ref (qa 16), .ref (qa 17), .ref (qa 18), .ref (qa 19), .ref (qa 20), .int 0, .int 0, .int 0, .int 0, .long 0, .long 0, .long 0, .long 0, .long 0, .ref (qa 21), .int 0, .int 0, .int 0, .int 0]))] := hD
  have hK : va_K D cls [] s := hK
  refine W.eq (g2 := F0 m 13 ls [.int 0]) rfl ?_
  refine lv_if_eq (tgt := 37) hx hb d_Mo_relocation_13 (by decide) (fun _ => ?_) (fun q9 => absurd (by decide : ((0 : Int32) = 0)) q9)
  refine lv_aload_n hx hb d_Mo_relocation_37 rfl (lv_at hl 0 rfl) ?_
  refine lv_iconst (v := 1) hx hb d_Mo_relocation_38 (by decide) ?_
  refine xc_V (As := [.int 1]) (rest := []) (n := 1) (wc := [(h0, .inr (7, [.int 0, .int 0, .int 0, .int 0, .int 0, .int 0, .int (-1), .int (-1), .int 0, .int 0, .int 0, .int 0, .int 0, .int 0, .int 0, .int 0, .ref (qa 0), .ref (qa 1), .ref (qa 2), .ref (qa 3), .int 0, .ref (qa 4), .ref (qa 5), .ref (qa 6), .ref (qa 7), .ref (qa 8), .ref (qa 9), .ref (qa 10), .ref (qa 11), .ref (qa 12), .ref (qa 13), .ref (qa 14), .ref (qa 15), .ref (qa 16), .ref (qa 17), .ref (qa 18), .ref (qa 19), .ref (qa 20), .int 0, .int 0, .int 0, .int 0, .long 0, .long 0, .long 0, .long 0, .long 0, .ref (qa 21), .int 0, .int 0, .int 0, .int 0]))]) (wr := []) (tc := []) (tr := []) ⟨hx, hb, hml, hown, hts⟩ (c_Mo_refuse_1 l D h0 qa H.size) rfl rfl w_452 w_450 w_451 w_557 w_8 (by decide +kernel) ⟨Nat.le_of_ble_eq_true rfl, Nat.le_of_ble_eq_true rfl⟩ hP hD hK hS hA hN hZ [0] [] rfl rfl (by decide) (by decide) (by decide) [] [] rfl rfl (ci := 7) (q0 := 0) (q := (R_Mo, F_Mo, 52)) rfl rfl rfl rfl hl.1 rfl (Nat.le_of_ble_eq_true rfl) d_Mo_relocation_39 ⟨Nat.le_of_ble_eq_true rfl, Nat.le_of_ble_eq_true rfl⟩ (fun u2 H locs hP hD hK hS => ?_)
  have hP : va_P D cls [(h0, .inr (7, [.int 1, .int 0, .int 0, .int 0, .int 0, .int 0, .int (-1), .int (-1), .int 0, .int 0, .int 0, .int 0, .int 0, .int 0, .int 0, .int 0, .ref (qa 0), .ref (qa 1), .ref (qa 2), .ref (qa 3), .int 0, .ref (qa 4), .ref (qa 5), .ref (qa 6), .ref (qa 7), .ref (qa 8), .ref (qa 9), .ref (qa 10), .ref (qa 11), .ref (qa 12), .ref (qa 13), .ref (qa 14), .ref (qa 15), .ref (qa 16), .ref (qa 17), .ref (qa 18), .ref (qa 19), .ref (qa 20), .int 0, .int 0, .int 0, .int 0, .long 0, .long 0, .long 0, .long 0, .long 0, .ref (qa 21), .int 0, .int 0, .int 0, .int 0]))] H := hP
  have hD : va_D A [(h0, .inr (7, [.int 1, .int 0, .int 0, .int 0, .int 0, .int 0, .int (-1), .int (-1), .int 0, .int 0, .int 0, .int 0, .int 0, .int 0, .int 0, .int 0, .ref (qa 0), .ref (qa 1), .ref (qa 2), .ref (qa 3), .int 0, .ref (qa 4), .ref (qa 5), .ref (qa 6), .ref (qa 7), .ref (qa 8), .ref (qa 9), .ref (qa 10), .ref (qa 11), .ref (qa 12), .ref (qa 13), .ref (qa 14), .ref (qa 15), .ref (qa 16), .ref (qa 17), .ref (qa 18), .ref (qa 19), .ref (qa 20), .int 0, .int 0, .int 0, .int 0, .long 0, .long 0, .long 0, .long 0, .long 0, .ref (qa 21), .int 0, .int 0, .int 0, .int 0]))] := hD
  have hK : va_K D cls [] s := hK
  refine W.eq (g2 := F0 m 42 ls [.int 0]) rfl ?_
  exact xr_i hx hb hr hlocks hP hD hK hS (()) [0] rfl rfl (by decide) [] rfl rfl d_Mo_relocation_42

set_option maxHeartbeats 4000000 in
set_option maxRecDepth 100000 in
theorem c_Mo_relocation_g (l : Launch) (D : va_G) (h0 : Nat) (qa : Nat → Nat) (p0 p1 p2 : Int32) (hk : ¬ p0 < 0) (hg : 0 ≤ p0) (sz : Nat) : Met l y_Mo_relocation (Cond.code y_Mo_relocation b_Mo_relocation 5 (some .int) :: bw) (xR 2 0 0) (va_Pc [.ref h0, .int p0, .int p1, .int p2] (xP D [] sz [(h0, .inr (7, [.int 0, .int 0, .int 0, .int 0, .int 0, .int 0, .int (-1), .int (-1), .int 0, .int 0, .int 0, .int 0, .int 0, .int 0, .int 0, .int 0, .ref (qa 0), .ref (qa 1), .ref (qa 2), .ref (qa 3), .int 0, .ref (qa 4), .ref (qa 5), .ref (qa 6), .ref (qa 7), .ref (qa 8), .ref (qa 9), .ref (qa 10), .ref (qa 11), .ref (qa 12), .ref (qa 13), .ref (qa 14), .ref (qa 15), .ref (qa 16), .ref (qa 17), .ref (qa 18), .ref (qa 19), .ref (qa 20), .int 0, .int 0, .int 0, .int 0, .long 0, .long 0, .long 0, .long 0, .long 0, .ref (qa 21), .int 0, .int 0, .int 0, .int 0]))])) (xQ (S := Unit) (fun _ => some (.int 0)) (fun _ => [(h0, .inr (7, [.int 1, .int 0, .int 0, .int 0, .int 0, .int 0, .int (-1), .int (-1), .int 0, .int 0, .int 0, .int 0, .int 0, .int 0, .int 0, .int 0, .ref (qa 0), .ref (qa 1), .ref (qa 2), .ref (qa 3), .int 0, .ref (qa 4), .ref (qa 5), .ref (qa 6), .ref (qa 7), .ref (qa 8), .ref (qa 9), .ref (qa 10), .ref (qa 11), .ref (qa 12), .ref (qa 13), .ref (qa 14), .ref (qa 15), .ref (qa 16), .ref (qa 17), .ref (qa 18), .ref (qa 19), .ref (qa 20), .int 0, .int 0, .int 0, .int 0, .long 0, .long 0, .long 0, .long 0, .long 0, .ref (qa 21), .int 0, .int 0, .int 0, .int 0]))]) (fun _ => []) D (va_A [(h0, .inr (7, [.int 0, .int 0, .int 0, .int 0, .int 0, .int 0, .int (-1), .int (-1), .int 0, .int 0, .int 0, .int 0, .int 0, .int 0, .int 0, .int 0, .ref (qa 0), .ref (qa 1), .ref (qa 2), .ref (qa 3), .int 0, .ref (qa 4), .ref (qa 5), .ref (qa 6), .ref (qa 7), .ref (qa 8), .ref (qa 9), .ref (qa 10), .ref (qa 11), .ref (qa 12), .ref (qa 13), .ref (qa 14), .ref (qa 15), .ref (qa 16), .ref (qa 17), .ref (qa 18), .ref (qa 19), .ref (qa 20), .int 0, .int 0, .int 0, .int 0, .long 0, .long 0, .long 0, .long 0, .long 0, .ref (qa 21), .int 0, .int 0, .int 0, .int 0]))] sz)) 0 0 (va_A [(h0, .inr (7, [.int 0, .int 0, .int 0, .int 0, .int 0, .int 0, .int (-1), .int (-1), .int 0, .int 0, .int 0, .int 0, .int 0, .int 0, .int 0, .int 0, .ref (qa 0), .ref (qa 1), .ref (qa 2), .ref (qa 3), .int 0, .ref (qa 4), .ref (qa 5), .ref (qa 6), .ref (qa 7), .ref (qa 8), .ref (qa 9), .ref (qa 10), .ref (qa 11), .ref (qa 12), .ref (qa 13), .ref (qa 14), .ref (qa 15), .ref (qa 16), .ref (qa 17), .ref (qa 18), .ref (qa 19), .ref (qa 20), .int 0, .int 0, .int 0, .int 0, .long 0, .long 0, .long 0, .long 0, .long 0, .ref (qa 21), .int 0, .int 0, .int 0, .int 0]))] sz) := by
  refine Met.ofW (cc := b_Mo_relocation) (maxL := 5) (ret := (some .int)) (by decide) rfl ?_
  intro p e s m args below meth c s₁ B hml hv
  obtain ⟨rfl, hsz, hP, hK, hD0, hN, hZ⟩ := hv
  have hx := B.exec
  have hb := B.bytes
  have hr := B.returns
  have hlocks := B.notSynchronized
  have hts : ∀ w ∈ bw, w.before _ s = true := fun w h => atoms_spec (ws := Cond.code y_Mo_relocation b_Mo_relocation 5 (some .int) :: bw) B.pre w (List.mem_cons_of_mem _ h)
  have hown : s.vm.findClass "ObjectForgeModel" = some m.cls := findClass_of_methodNamed B.named
  subst hsz
  have hP0 := hP
  have hD := hD0.self (sz := s.heap.size)
  generalize hAe : va_A [(h0, .inr (7, [.int 0, .int 0, .int 0, .int 0, .int 0, .int 0, .int (-1), .int (-1), .int 0, .int 0, .int 0, .int 0, .int 0, .int 0, .int 0, .int 0, .ref (qa 0), .ref (qa 1), .ref (qa 2), .ref (qa 3), .int 0, .ref (qa 4), .ref (qa 5), .ref (qa 6), .ref (qa 7), .ref (qa 8), .ref (qa 9), .ref (qa 10), .ref (qa 11), .ref (qa 12), .ref (qa 13), .ref (qa 14), .ref (qa 15), .ref (qa 16), .ref (qa 17), .ref (qa 18), .ref (qa 19), .ref (qa 20), .int 0, .int 0, .int 0, .int 0, .long 0, .long 0, .long 0, .long 0, .long 0, .ref (qa 21), .int 0, .int 0, .int 0, .int 0]))] s.heap.size = A at hD hZ ⊢
  have hA : ∀ q : Nat, s.heap.size ≤ q → A q := fun q h => by rw [← hAe]; exact Or.inr h
  have hS : va_S A s.heap s.heap [] := va_S.rf
  have hl := lv_entry ([.ref h0, .int p0, .int p1, .int p2]) (n := 5) (Nat.le_of_ble_eq_true rfl)
  rw [lg_entry_eq]
  generalize (lg_sl ([.ref h0, .int p0, .int p1, .int p2]) ++ List.replicate (5 - (lg_sl ([.ref h0, .int p0, .int p1, .int p2])).length) Slot.unset).toArray = ls at hl ⊢
  have hl : lv_has ls 5 [(0, .ref h0), (1, .int p0), (2, .int p1), (3, .int p2)] := hl
  refine lv_aload_n hx hb d_Mo_relocation_0 rfl (lv_at hl 0 rfl) ?_
  refine lv_iconst (v := 0) hx hb d_Mo_relocation_1 (by decide) ?_
  refine va_put (D := D) (ci := 7) (v := .int 0) (ty := .int) (C := R_Mo) (T := F_Mo) (N := 52) hx hb hts i_Mo t_Mo t_Mo_ok n_Mo hown hK hP hD hS 0 rfl rfl 0 (by decide) (hts _ w_397) (fun _ h9 => h9) rfl (by decide +kernel) rfl rfl (Nat.le_of_ble_eq_true rfl) d_Mo_relocation_2 (fun H locs hP hD hS => ?_)
  have hP : va_P D cls [(h0, .inr (7, [.int 0, .int 0, .int 0, .int 0, .int 0, .int 0, .int (-1), .int (-1), .int 0, .int 0, .int 0, .int 0, .int 0, .int 0, .int 0, .int 0, .ref (qa 0), .ref (qa 1), .ref (qa 2), .ref (qa 3), .int 0, .ref (qa 4), .ref (qa 5), .ref (qa 6), .ref (qa 7), .ref (qa 8), .ref (qa 9), .ref (qa 10), .ref (qa 11), .ref (qa 12), .ref (qa 13), .ref (qa 14), .ref (qa 15), .ref (qa 16), .ref (qa 17), .ref (qa 18), .ref (qa 19), .ref (qa 20), .int 0, .int 0, .int 0, .int 0, .long 0, .long 0, .long 0, .long 0, .long 0, .ref (qa 21), .int 0, .int 0, .int 0, .int 0]))] H := hP
  have hD : va_D A [(h0, .inr (7, [.int 0, .int 0, .int 0, .int 0, .int 0, .int 0, .int (-1), .int (-1), .int 0, .int 0, .int 0, .int 0, .int 0, .int 0, .int 0, .int 0, .ref (qa 0), .ref (qa 1), .ref (qa 2), .ref (qa 3), .int 0, .ref (qa 4), .ref (qa 5), .ref (qa 6), .ref (qa 7), .ref (qa 8), .ref (qa 9), .ref (qa 10), .ref (qa 11), .ref (qa 12), .ref (qa 13), .ref (qa 14), .ref (qa 15), .ref (qa 16), .ref (qa 17), .ref (qa 18), .ref (qa 19), .ref (qa 20), .int 0, .int 0, .int 0, .int 0, .long 0, .long 0, .long 0, .long 0, .long 0, .ref (qa 21), .int 0, .int 0, .int 0, .int 0]))] := hD
  refine lv_iload_n hx hb d_Mo_relocation_5 rfl (lv_at hl 1 rfl) ?_
  refine lv_aload_n hx hb d_Mo_relocation_6 rfl (lv_at hl 0 rfl) ?_
  refine va_get (D := D) (ci := 7) (v := .int 0) (C := R_Mo) (T := F_Mo) (N := 52) hx hb hts i_Mo hown hK hP 0 rfl rfl 2 (by decide) (hts _ w_400) (fun _ h9 => h9) rfl d_Mo_relocation_7 ?_
  refine xc_S (As := [.int p0, .int 0]) (rest := []) (n := 2) (wc := []) (wr := [(h0, .inr (7, [.int 0, .int 0, .int 0, .int 0, .int 0, .int 0, .int (-1), .int (-1), .int 0, .int 0, .int 0, .int 0, .int 0, .int 0, .int 0, .int 0, .ref (qa 0), .ref (qa 1), .ref (qa 2), .ref (qa 3), .int 0, .ref (qa 4), .ref (qa 5), .ref (qa 6), .ref (qa 7), .ref (qa 8), .ref (qa 9), .ref (qa 10), .ref (qa 11), .ref (qa 12), .ref (qa 13), .ref (qa 14), .ref (qa 15), .ref (qa 16), .ref (qa 17), .ref (qa 18), .ref (qa 19), .ref (qa 20), .int 0, .int 0, .int 0, .int 0, .long 0, .long 0, .long 0, .long 0, .long 0, .ref (qa 21), .int 0, .int 0, .int 0, .int 0]))]) (tc := []) (tr := []) ⟨hx, hb, hml, hown, hts⟩ (c_Mo_within_g l D p0 0 hk hg H.size) rfl rfl w_510 w_508 w_509 w_8 (by decide +kernel) ⟨Nat.le_of_ble_eq_true rfl, Nat.le_of_ble_eq_true rfl⟩ hP hD hK hS hA hN hZ [] [0] rfl rfl (by decide) (by decide) (by decide) [] [] rfl rfl rfl hl.1 rfl (Nat.le_of_ble_eq_true rfl) d_Mo_relocation_10 ⟨Nat.le_of_ble_eq_true rfl, Nat.le_of_ble_eq_true rfl⟩ (fun u1 H locs hP hD hK hS => ?_)
  have hP : va_P D cls [(h0, .inr (7, [.int 0, .int 0, .int 0, .int 0, .int 0, .int 0, .int (-1), .int (-1), .int 0, .int 0, .int 0, .int 0, .int 0, .int 0, .int 0, .int 0, .ref (qa 0), .ref (qa 1), .ref (qa 2), .ref (qa 3), .int 0, .ref (qa 4), .ref (qa 5), .ref (qa 6), .ref (qa 7), .ref (qa 8), .ref (qa 9), .ref (qa 10), .ref (qa 11), .ref (qa 12), .ref (qa 13), .ref (qa 14), .ref (qa 15), .ref (qa 16), .ref (qa 17), .ref (qa 18), .ref (qa 19), .ref (qa 20), .int 0, .int 0, .int 0, .int 0, .long 0, .long 0, .long 0, .long 0, .long 0, .ref (qa 21), .int 0, .int 0, .int 0, .int 0]))] H := hP
  have hD : va_D A [(h0, .inr (7, [.int 0, .int 0, .int 0, .int 0, .int 0, .int 0, .int (-1), .int (-1), .int 0, .int 0, .int 0, .int 0, .int 0, .int 0, .int 0, .int 0, .ref (qa 0), .ref (qa 1), .ref (qa 2), .ref (qa 3), .int 0, .ref (qa 4), .ref (qa 5), .ref (qa 6), .ref (qa 7), .ref (qa 8), .ref (qa 9), .ref (qa 10), .ref (qa 11), .ref (qa 12), .ref (qa 13), .ref (qa 14), .ref (qa 15), .ref (qa 16), .ref (qa 17), .ref (qa 18), .ref (qa 19), .ref (qa 20), .int 0, .int 0, .int 0, .int 0, .long 0, .long 0, .long 0, .long 0, .long 0, .ref (qa 21), .int 0, .int 0, .int 0, .int 0]))] := hD
  have hK : va_K D cls [] s := hK
  refine W.eq (g2 := F0 m 13 ls [.int 0]) rfl ?_
  refine lv_if_eq (tgt := 37) hx hb d_Mo_relocation_13 (by decide) (fun _ => ?_) (fun q9 => absurd (by decide : ((0 : Int32) = 0)) q9)
  refine lv_aload_n hx hb d_Mo_relocation_37 rfl (lv_at hl 0 rfl) ?_
  refine lv_iconst (v := 1) hx hb d_Mo_relocation_38 (by decide) ?_
  refine xc_V (As := [.int 1]) (rest := []) (n := 1) (wc := [(h0, .inr (7, [.int 0, .int 0, .int 0, .int 0, .int 0, .int 0, .int (-1), .int (-1), .int 0, .int 0, .int 0, .int 0, .int 0, .int 0, .int 0, .int 0, .ref (qa 0), .ref (qa 1), .ref (qa 2), .ref (qa 3), .int 0, .ref (qa 4), .ref (qa 5), .ref (qa 6), .ref (qa 7), .ref (qa 8), .ref (qa 9), .ref (qa 10), .ref (qa 11), .ref (qa 12), .ref (qa 13), .ref (qa 14), .ref (qa 15), .ref (qa 16), .ref (qa 17), .ref (qa 18), .ref (qa 19), .ref (qa 20), .int 0, .int 0, .int 0, .int 0, .long 0, .long 0, .long 0, .long 0, .long 0, .ref (qa 21), .int 0, .int 0, .int 0, .int 0]))]) (wr := []) (tc := []) (tr := []) ⟨hx, hb, hml, hown, hts⟩ (c_Mo_refuse_1 l D h0 qa H.size) rfl rfl w_452 w_450 w_451 w_557 w_8 (by decide +kernel) ⟨Nat.le_of_ble_eq_true rfl, Nat.le_of_ble_eq_true rfl⟩ hP hD hK hS hA hN hZ [0] [] rfl rfl (by decide) (by decide) (by decide) [] [] rfl rfl (ci := 7) (q0 := 0) (q := (R_Mo, F_Mo, 52)) rfl rfl rfl rfl hl.1 rfl (Nat.le_of_ble_eq_true rfl) d_Mo_relocation_39 ⟨Nat.le_of_ble_eq_true rfl, Nat.le_of_ble_eq_true rfl⟩ (fun u2 H locs hP hD hK hS => ?_)
  have hP : va_P D cls [(h0, .inr (7, [.int 1, .int 0, .int 0, .int 0, .int 0, .int 0, .int (-1), .int (-1), .int 0, .int 0, .int 0, .int 0, .int 0, .int 0, .int 0, .int 0, .ref (qa 0), .ref (qa 1), .ref (qa 2), .ref (qa 3), .int 0, .ref (qa 4), .ref (qa 5), .ref (qa 6), .ref (qa 7), .ref (qa 8), .ref (qa 9), .ref (qa 10), .ref (qa 11), .ref (qa 12), .ref (qa 13), .ref (qa 14), .ref (qa 15), .ref (qa 16), .ref (qa 17), .ref (qa 18), .ref (qa 19), .ref (qa 20), .int 0, .int 0, .int 0, .int 0, .long 0, .long 0, .long 0, .long 0, .long 0, .ref (qa 21), .int 0, .int 0, .int 0, .int 0]))] H := hP
  have hD : va_D A [(h0, .inr (7, [.int 1, .int 0, .int 0, .int 0, .int 0, .int 0, .int (-1), .int (-1), .int 0, .int 0, .int 0, .int 0, .int 0, .int 0, .int 0, .int 0, .ref (qa 0), .ref (qa 1), .ref (qa 2), .ref (qa 3), .int 0, .ref (qa 4), .ref (qa 5), .ref (qa 6), .ref (qa 7), .ref (qa 8), .ref (qa 9), .ref (qa 10), .ref (qa 11), .ref (qa 12), .ref (qa 13), .ref (qa 14), .ref (qa 15), .ref (qa 16), .ref (qa 17), .ref (qa 18), .ref (qa 19), .ref (qa 20), .int 0, .int 0, .int 0, .int 0, .long 0, .long 0, .long 0, .long 0, .long 0, .ref (qa 21), .int 0, .int 0, .int 0, .int 0]))] := hD
  have hK : va_K D cls [] s := hK
  refine W.eq (g2 := F0 m 42 ls [.int 0]) rfl ?_
  exact xr_i hx hb hr hlocks hP hD hK hS (()) [0] rfl rfl (by decide) [] rfl rfl d_Mo_relocation_42

theorem d_Mo_address_0 : decode b_Mo_address 0 = .ok (.aload_n 0, 1) := by decide +kernel
theorem d_Mo_address_1 : decode b_Mo_address 1 = .ok (.iconst 0, 1) := by decide +kernel
theorem d_Mo_address_2 : decode b_Mo_address 2 = .ok (.putfield 88, 3) := by decide +kernel
theorem d_Mo_address_5 : decode b_Mo_address 5 = .ok (.iload_n 1, 1) := by decide +kernel
theorem d_Mo_address_6 : decode b_Mo_address 6 = .ok (.aload_n 0, 1) := by decide +kernel
theorem d_Mo_address_7 : decode b_Mo_address 7 = .ok (.getfield 1010, 3) := by decide +kernel
theorem d_Mo_address_10 : decode b_Mo_address 10 = .ok (.invokestatic 1181, 3) := by decide +kernel
theorem d_Mo_address_13 : decode b_Mo_address 13 = .ok (.ifCond .eq 16, 3) := by decide +kernel
theorem d_Mo_address_29 : decode b_Mo_address 29 = .ok (.aload_n 0, 1) := by decide +kernel
theorem d_Mo_address_30 : decode b_Mo_address 30 = .ok (.iconst 1, 1) := by decide +kernel
theorem d_Mo_address_31 : decode b_Mo_address 31 = .ok (.invokevirtual 94, 3) := by decide +kernel
theorem d_Mo_address_34 : decode b_Mo_address 34 = .ok (.ireturn, 1) := by decide +kernel
set_option maxHeartbeats 4000000 in
set_option maxRecDepth 100000 in
theorem c_Mo_address_n (l : Launch) (D : va_G) (h0 : Nat) (qa : Nat → Nat) (p0 p1 : Int32) (hk : p0 < 0) (sz : Nat) : Met l y_Mo_address (Cond.code y_Mo_address b_Mo_address 3 (some .int) :: bw) (xR 2 0 0) (va_Pc [.ref h0, .int p0, .int p1] (xP D [] sz [(h0, .inr (7, [.int 0, .int 0, .int 0, .int 0, .int 0, .int 0, .int (-1), .int (-1), .int 0, .int 0, .int 0, .int 0, .int 0, .int 0, .int 0, .int 0, .ref (qa 0), .ref (qa 1), .ref (qa 2), .ref (qa 3), .int 0, .ref (qa 4), .ref (qa 5), .ref (qa 6), .ref (qa 7), .ref (qa 8), .ref (qa 9), .ref (qa 10), .ref (qa 11), .ref (qa 12), .ref (qa 13), .ref (qa 14), .ref (qa 15), .ref (qa 16), .ref (qa 17), .ref (qa 18), .ref (qa 19), .ref (qa 20), .int 0, .int 0, .int 0, .int 0, .long 0, .long 0, .long 0, .long 0, .long 0, .ref (qa 21), .int 0, .int 0, .int 0, .int 0]))])) (xQ (S := Unit) (fun _ => some (.int 0)) (fun _ => [(h0, .inr (7, [.int 1, .int 0, .int 0, .int 0, .int 0, .int 0, .int (-1), .int (-1), .int 0, .int 0, .int 0, .int 0, .int 0, .int 0, .int 0, .int 0, .ref (qa 0), .ref (qa 1), .ref (qa 2), .ref (qa 3), .int 0, .ref (qa 4), .ref (qa 5), .ref (qa 6), .ref (qa 7), .ref (qa 8), .ref (qa 9), .ref (qa 10), .ref (qa 11), .ref (qa 12), .ref (qa 13), .ref (qa 14), .ref (qa 15), .ref (qa 16), .ref (qa 17), .ref (qa 18), .ref (qa 19), .ref (qa 20), .int 0, .int 0, .int 0, .int 0, .long 0, .long 0, .long 0, .long 0, .long 0, .ref (qa 21), .int 0, .int 0, .int 0, .int 0]))]) (fun _ => []) D (va_A [(h0, .inr (7, [.int 0, .int 0, .int 0, .int 0, .int 0, .int 0, .int (-1), .int (-1), .int 0, .int 0, .int 0, .int 0, .int 0, .int 0, .int 0, .int 0, .ref (qa 0), .ref (qa 1), .ref (qa 2), .ref (qa 3), .int 0, .ref (qa 4), .ref (qa 5), .ref (qa 6), .ref (qa 7), .ref (qa 8), .ref (qa 9), .ref (qa 10), .ref (qa 11), .ref (qa 12), .ref (qa 13), .ref (qa 14), .ref (qa 15), .ref (qa 16), .ref (qa 17), .ref (qa 18), .ref (qa 19), .ref (qa 20), .int 0, .int 0, .int 0, .int 0, .long 0, .long 0, .long 0, .long 0, .long 0, .ref (qa 21), .int 0, .int 0, .int 0, .int 0]))] sz)) 0 0 (va_A [(h0, .inr (7, [.int 0, .int 0, .int 0, .int 0, .int 0, .int 0, .int (-1), .int (-1), .int 0, .int 0, .int 0, .int 0, .int 0, .int 0, .int 0, .int 0, .ref (qa 0), .ref (qa 1), .ref (qa 2), .ref (qa 3), .int 0, .ref (qa 4), .ref (qa 5), .ref (qa 6), .ref (qa 7), .ref (qa 8), .ref (qa 9), .ref (qa 10), .ref (qa 11), .ref (qa 12), .ref (qa 13), .ref (qa 14), .ref (qa 15), .ref (qa 16), .ref (qa 17), .ref (qa 18), .ref (qa 19), .ref (qa 20), .int 0, .int 0, .int 0, .int 0, .long 0, .long 0, .long 0, .long 0, .long 0, .ref (qa 21), .int 0, .int 0, .int 0, .int 0]))] sz) := by
  refine Met.ofW (cc := b_Mo_address) (maxL := 3) (ret := (some .int)) (by decide) rfl ?_
  intro p e s m args below meth c s₁ B hml hv
  obtain ⟨rfl, hsz, hP, hK, hD0, hN, hZ⟩ := hv
  have hx := B.exec
  have hb := B.bytes
  have hr := B.returns
  have hlocks := B.notSynchronized
  have hts : ∀ w ∈ bw, w.before _ s = true := fun w h => atoms_spec (ws := Cond.code y_Mo_address b_Mo_address 3 (some .int) :: bw) B.pre w (List.mem_cons_of_mem _ h)
  have hown : s.vm.findClass "ObjectForgeModel" = some m.cls := findClass_of_methodNamed B.named
  subst hsz
  have hP0 := hP
  have hD := hD0.self (sz := s.heap.size)
  generalize hAe : va_A [(h0, .inr (7, [.int 0, .int 0, .int 0, .int 0, .int 0, .int 0, .int (-1), .int (-1), .int 0, .int 0, .int 0, .int 0, .int 0, .int 0, .int 0, .int 0, .ref (qa 0), .ref (qa 1), .ref (qa 2), .ref (qa 3), .int 0, .ref (qa 4), .ref (qa 5), .ref (qa 6), .ref (qa 7), .ref (qa 8), .ref (qa 9), .ref (qa 10), .ref (qa 11), .ref (qa 12), .ref (qa 13), .ref (qa 14), .ref (qa 15), .ref (qa 16), .ref (qa 17), .ref (qa 18), .ref (qa 19), .ref (qa 20), .int 0, .int 0, .int 0, .int 0, .long 0, .long 0, .long 0, .long 0, .long 0, .ref (qa 21), .int 0, .int 0, .int 0, .int 0]))] s.heap.size = A at hD hZ ⊢
  have hA : ∀ q : Nat, s.heap.size ≤ q → A q := fun q h => by rw [← hAe]; exact Or.inr h
  have hS : va_S A s.heap s.heap [] := va_S.rf
  have hl := lv_entry ([.ref h0, .int p0, .int p1]) (n := 3) (Nat.le_of_ble_eq_true rfl)
  rw [lg_entry_eq]
  generalize (lg_sl ([.ref h0, .int p0, .int p1]) ++ List.replicate (3 - (lg_sl ([.ref h0, .int p0, .int p1])).length) Slot.unset).toArray = ls at hl ⊢
  have hl : lv_has ls 3 [(0, .ref h0), (1, .int p0), (2, .int p1)] := hl
  refine lv_aload_n hx hb d_Mo_address_0 rfl (lv_at hl 0 rfl) ?_
  refine lv_iconst (v := 0) hx hb d_Mo_address_1 (by decide) ?_
  refine va_put (D := D) (ci := 7) (v := .int 0) (ty := .int) (C := R_Mo) (T := F_Mo) (N := 52) hx hb hts i_Mo t_Mo t_Mo_ok n_Mo hown hK hP hD hS 0 rfl rfl 0 (by decide) (hts _ w_397) (fun _ h9 => h9) rfl (by decide +kernel) rfl rfl (Nat.le_of_ble_eq_true rfl) d_Mo_address_2 (fun H locs hP hD hS => ?_)
  have hP : va_P D cls [(h0, .inr (7, [.int 0, .int 0, .int 0, .int 0, .int 0, .int 0, .int (-1), .int (-1), .int 0, .int 0, .int 0, .int 0, .int 0, .int 0, .int 0, .int 0, .ref (qa 0), .ref (qa 1), .ref (qa 2), .ref (qa 3), .int 0, .ref (qa 4), .ref (qa 5), .ref (qa 6), .ref (qa 7), .ref (qa 8), .ref (qa 9), .ref (qa 10), .ref (qa 11), .ref (qa 12), .ref (qa 13), .ref (qa 14), .ref (qa 15), .ref (qa 16), .ref (qa 17), .ref (qa 18), .ref (qa 19), .ref (qa 20), .int 0, .int 0, .int 0, .int 0, .long 0, .long 0, .long 0, .long 0, .long 0, .ref (qa 21), .int 0, .int 0, .int 0, .int 0]))] H := hP
  have hD : va_D A [(h0, .inr (7, [.int 0, .int 0, .int 0, .int 0, .int 0, .int 0, .int (-1), .int (-1), .int 0, .int 0, .int 0, .int 0, .int 0, .int 0, .int 0, .int 0, .ref (qa 0), .ref (qa 1), .ref (qa 2), .ref (qa 3), .int 0, .ref (qa 4), .ref (qa 5), .ref (qa 6), .ref (qa 7), .ref (qa 8), .ref (qa 9), .ref (qa 10), .ref (qa 11), .ref (qa 12), .ref (qa 13), .ref (qa 14), .ref (qa 15), .ref (qa 16), .ref (qa 17), .ref (qa 18), .ref (qa 19), .ref (qa 20), .int 0, .int 0, .int 0, .int 0, .long 0, .long 0, .long 0, .long 0, .long 0, .ref (qa 21), .int 0, .int 0, .int 0, .int 0]))] := hD
  refine lv_iload_n hx hb d_Mo_address_5 rfl (lv_at hl 1 rfl) ?_
  refine lv_aload_n hx hb d_Mo_address_6 rfl (lv_at hl 0 rfl) ?_
  refine va_get (D := D) (ci := 7) (v := .int 0) (C := R_Mo) (T := F_Mo) (N := 52) hx hb hts i_Mo hown hK hP 0 rfl rfl 2 (by decide) (hts _ w_400) (fun _ h9 => h9) rfl d_Mo_address_7 ?_
  refine xc_S (As := [.int p0, .int 0]) (rest := []) (n := 2) (wc := []) (wr := [(h0, .inr (7, [.int 0, .int 0, .int 0, .int 0, .int 0, .int 0, .int (-1), .int (-1), .int 0, .int 0, .int 0, .int 0, .int 0, .int 0, .int 0, .int 0, .ref (qa 0), .ref (qa 1), .ref (qa 2), .ref (qa 3), .int 0, .ref (qa 4), .ref (qa 5), .ref (qa 6), .ref (qa 7), .ref (qa 8), .ref (qa 9), .ref (qa 10), .ref (qa 11), .ref (qa 12), .ref (qa 13), .ref (qa 14), .ref (qa 15), .ref (qa 16), .ref (qa 17), .ref (qa 18), .ref (qa 19), .ref (qa 20), .int 0, .int 0, .int 0, .int 0, .long 0, .long 0, .long 0, .long 0, .long 0, .ref (qa 21), .int 0, .int 0, .int 0, .int 0]))]) (tc := []) (tr := []) ⟨hx, hb, hml, hown, hts⟩ (c_Mo_within_n l D p0 0 hk H.size) rfl rfl w_510 w_508 w_509 w_8 (by decide +kernel) ⟨Nat.le_of_ble_eq_true rfl, Nat.le_of_ble_eq_true rfl⟩ hP hD hK hS hA hN hZ [] [0] rfl rfl (by decide) (by decide) (by decide) [] [] rfl rfl rfl hl.1 rfl (Nat.le_of_ble_eq_true rfl) d_Mo_address_10 ⟨Nat.le_of_ble_eq_true rfl, Nat.le_of_ble_eq_true rfl⟩ (fun u1 H locs hP hD hK hS => ?_)
  have hP : va_P D cls [(h0, .inr (7, [.int 0, .int 0, .int 0, .int 0, .int 0, .int 0, .int (-1), .int (-1), .int 0, .int 0, .int 0, .int 0, .int 0, .int 0, .int 0, .int 0, .ref (qa 0), .ref (qa 1), .ref (qa 2), .ref (qa 3), .int 0, .ref (qa 4), .ref (qa 5), .ref (qa 6), .ref (qa 7), .ref (qa 8), .ref (qa 9), .ref (qa 10), .ref (qa 11), .ref (qa 12), .ref (qa 13), .ref (qa 14), .ref (qa 15), .ref (qa 16), .ref (qa 17), .ref (qa 18), .ref (qa 19), .ref (qa 20), .int 0, .int 0, .int 0, .int 0, .long 0, .long 0, .long 0, .long 0, .long 0, .ref (qa 21), .int 0, .int 0, .int 0, .int 0]))] H := hP
  have hD : va_D A [(h0, .inr (7, [.int 0, .int 0, .int 0, .int 0, .int 0, .int 0, .int (-1), .int (-1), .int 0, .int 0, .int 0, .int 0, .int 0, .int 0, .int 0, .int 0, .ref (qa 0), .ref (qa 1), .ref (qa 2), .ref (qa 3), .int 0, .ref (qa 4), .ref (qa 5), .ref (qa 6), .ref (qa 7), .ref (qa 8), .ref (qa 9), .ref (qa 10), .ref (qa 11), .ref (qa 12), .ref (qa 13), .ref (qa 14), .ref (qa 15), .ref (qa 16), .ref (qa 17), .ref (qa 18), .ref (qa 19), .ref (qa 20), .int 0, .int 0, .int 0, .int 0, .long 0, .long 0, .long 0, .long 0, .long 0, .ref (qa 21), .int 0, .int 0, .int 0, .int 0]))] := hD
  have hK : va_K D cls [] s := hK
  refine W.eq (g2 := F0 m 13 ls [.int 0]) rfl ?_
  refine lv_if_eq (tgt := 29) hx hb d_Mo_address_13 (by decide) (fun _ => ?_) (fun q9 => absurd (by decide : ((0 : Int32) = 0)) q9)
  refine lv_aload_n hx hb d_Mo_address_29 rfl (lv_at hl 0 rfl) ?_
  refine lv_iconst (v := 1) hx hb d_Mo_address_30 (by decide) ?_
  refine xc_V (As := [.int 1]) (rest := []) (n := 1) (wc := [(h0, .inr (7, [.int 0, .int 0, .int 0, .int 0, .int 0, .int 0, .int (-1), .int (-1), .int 0, .int 0, .int 0, .int 0, .int 0, .int 0, .int 0, .int 0, .ref (qa 0), .ref (qa 1), .ref (qa 2), .ref (qa 3), .int 0, .ref (qa 4), .ref (qa 5), .ref (qa 6), .ref (qa 7), .ref (qa 8), .ref (qa 9), .ref (qa 10), .ref (qa 11), .ref (qa 12), .ref (qa 13), .ref (qa 14), .ref (qa 15), .ref (qa 16), .ref (qa 17), .ref (qa 18), .ref (qa 19), .ref (qa 20), .int 0, .int 0, .int 0, .int 0, .long 0, .long 0, .long 0, .long 0, .long 0, .ref (qa 21), .int 0, .int 0, .int 0, .int 0]))]) (wr := []) (tc := []) (tr := []) ⟨hx, hb, hml, hown, hts⟩ (c_Mo_refuse_1 l D h0 qa H.size) rfl rfl w_452 w_450 w_451 w_557 w_8 (by decide +kernel) ⟨Nat.le_of_ble_eq_true rfl, Nat.le_of_ble_eq_true rfl⟩ hP hD hK hS hA hN hZ [0] [] rfl rfl (by decide) (by decide) (by decide) [] [] rfl rfl (ci := 7) (q0 := 0) (q := (R_Mo, F_Mo, 52)) rfl rfl rfl rfl hl.1 rfl (Nat.le_of_ble_eq_true rfl) d_Mo_address_31 ⟨Nat.le_of_ble_eq_true rfl, Nat.le_of_ble_eq_true rfl⟩ (fun u2 H locs hP hD hK hS => ?_)
  have hP : va_P D cls [(h0, .inr (7, [.int 1, .int 0, .int 0, .int 0, .int 0, .int 0, .int (-1), .int (-1), .int 0, .int 0, .int 0, .int 0, .int 0, .int 0, .int 0, .int 0, .ref (qa 0), .ref (qa 1), .ref (qa 2), .ref (qa 3), .int 0, .ref (qa 4), .ref (qa 5), .ref (qa 6), .ref (qa 7), .ref (qa 8), .ref (qa 9), .ref (qa 10), .ref (qa 11), .ref (qa 12), .ref (qa 13), .ref (qa 14), .ref (qa 15), .ref (qa 16), .ref (qa 17), .ref (qa 18), .ref (qa 19), .ref (qa 20), .int 0, .int 0, .int 0, .int 0, .long 0, .long 0, .long 0, .long 0, .long 0, .ref (qa 21), .int 0, .int 0, .int 0, .int 0]))] H := hP
  have hD : va_D A [(h0, .inr (7, [.int 1, .int 0, .int 0, .int 0, .int 0, .int 0, .int (-1), .int (-1), .int 0, .int 0, .int 0, .int 0, .int 0, .int 0, .int 0, .int 0, .ref (qa 0), .ref (qa 1), .ref (qa 2), .ref (qa 3), .int 0, .ref (qa 4), .ref (qa 5), .ref (qa 6), .ref (qa 7), .ref (qa 8), .ref (qa 9), .ref (qa 10), .ref (qa 11), .ref (qa 12), .ref (qa 13), .ref (qa 14), .ref (qa 15), .ref (qa 16), .ref (qa 17), .ref (qa 18), .ref (qa 19), .ref (qa 20), .int 0, .int 0, .int 0, .int 0, .long 0, .long 0, .long 0, .long 0, .long 0, .ref (qa 21), .int 0, .int 0, .int 0, .int 0]))] := hD
  have hK : va_K D cls [] s := hK
  refine W.eq (g2 := F0 m 34 ls [.int 0]) rfl ?_
  exact xr_i hx hb hr hlocks hP hD hK hS (()) [0] rfl rfl (by decide) [] rfl rfl d_Mo_address_34

set_option maxHeartbeats 4000000 in
set_option maxRecDepth 100000 in
theorem c_Mo_address_g (l : Launch) (D : va_G) (h0 : Nat) (qa : Nat → Nat) (p0 p1 : Int32) (hk : ¬ p0 < 0) (hg : 0 ≤ p0) (sz : Nat) : Met l y_Mo_address (Cond.code y_Mo_address b_Mo_address 3 (some .int) :: bw) (xR 2 0 0) (va_Pc [.ref h0, .int p0, .int p1] (xP D [] sz [(h0, .inr (7, [.int 0, .int 0, .int 0, .int 0, .int 0, .int 0, .int (-1), .int (-1), .int 0, .int 0, .int 0, .int 0, .int 0, .int 0, .int 0, .int 0, .ref (qa 0), .ref (qa 1), .ref (qa 2), .ref (qa 3), .int 0, .ref (qa 4), .ref (qa 5), .ref (qa 6), .ref (qa 7), .ref (qa 8), .ref (qa 9), .ref (qa 10), .ref (qa 11), .ref (qa 12), .ref (qa 13), .ref (qa 14), .ref (qa 15), .ref (qa 16), .ref (qa 17), .ref (qa 18), .ref (qa 19), .ref (qa 20), .int 0, .int 0, .int 0, .int 0, .long 0, .long 0, .long 0, .long 0, .long 0, .ref (qa 21), .int 0, .int 0, .int 0, .int 0]))])) (xQ (S := Unit) (fun _ => some (.int 0)) (fun _ => [(h0, .inr (7, [.int 1, .int 0, .int 0, .int 0, .int 0, .int 0, .int (-1), .int (-1), .int 0, .int 0, .int 0, .int 0, .int 0, .int 0, .int 0, .int 0, .ref (qa 0), .ref (qa 1), .ref (qa 2), .ref (qa 3), .int 0, .ref (qa 4), .ref (qa 5), .ref (qa 6), .ref (qa 7), .ref (qa 8), .ref (qa 9), .ref (qa 10), .ref (qa 11), .ref (qa 12), .ref (qa 13), .ref (qa 14), .ref (qa 15), .ref (qa 16), .ref (qa 17), .ref (qa 18), .ref (qa 19), .ref (qa 20), .int 0, .int 0, .int 0, .int 0, .long 0, .long 0, .long 0, .long 0, .long 0, .ref (qa 21), .int 0, .int 0, .int 0, .int 0]))]) (fun _ => []) D (va_A [(h0, .inr (7, [.int 0, .int 0, .int 0, .int 0, .int 0, .int 0, .int (-1), .int (-1), .int 0, .int 0, .int 0, .int 0, .int 0, .int 0, .int 0, .int 0, .ref (qa 0), .ref (qa 1), .ref (qa 2), .ref (qa 3), .int 0, .ref (qa 4), .ref (qa 5), .ref (qa 6), .ref (qa 7), .ref (qa 8), .ref (qa 9), .ref (qa 10), .ref (qa 11), .ref (qa 12), .ref (qa 13), .ref (qa 14), .ref (qa 15), .ref (qa 16), .ref (qa 17), .ref (qa 18), .ref (qa 19), .ref (qa 20), .int 0, .int 0, .int 0, .int 0, .long 0, .long 0, .long 0, .long 0, .long 0, .ref (qa 21), .int 0, .int 0, .int 0, .int 0]))] sz)) 0 0 (va_A [(h0, .inr (7, [.int 0, .int 0, .int 0, .int 0, .int 0, .int 0, .int (-1), .int (-1), .int 0, .int 0, .int 0, .int 0, .int 0, .int 0, .int 0, .int 0, .ref (qa 0), .ref (qa 1), .ref (qa 2), .ref (qa 3), .int 0, .ref (qa 4), .ref (qa 5), .ref (qa 6), .ref (qa 7), .ref (qa 8), .ref (qa 9), .ref (qa 10), .ref (qa 11), .ref (qa 12), .ref (qa 13), .ref (qa 14), .ref (qa 15), .ref (qa 16), .ref (qa 17), .ref (qa 18), .ref (qa 19), .ref (qa 20), .int 0, .int 0, .int 0, .int 0, .long 0, .long 0, .long 0, .long 0, .long 0, .ref (qa 21), .int 0, .int 0, .int 0, .int 0]))] sz) := by
  refine Met.ofW (cc := b_Mo_address) (maxL := 3) (ret := (some .int)) (by decide) rfl ?_
  intro p e s m args below meth c s₁ B hml hv
  obtain ⟨rfl, hsz, hP, hK, hD0, hN, hZ⟩ := hv
  have hx := B.exec
  have hb := B.bytes
  have hr := B.returns
  have hlocks := B.notSynchronized
  have hts : ∀ w ∈ bw, w.before _ s = true := fun w h => atoms_spec (ws := Cond.code y_Mo_address b_Mo_address 3 (some .int) :: bw) B.pre w (List.mem_cons_of_mem _ h)
  have hown : s.vm.findClass "ObjectForgeModel" = some m.cls := findClass_of_methodNamed B.named
  subst hsz
  have hP0 := hP
  have hD := hD0.self (sz := s.heap.size)
  generalize hAe : va_A [(h0, .inr (7, [.int 0, .int 0, .int 0, .int 0, .int 0, .int 0, .int (-1), .int (-1), .int 0, .int 0, .int 0, .int 0, .int 0, .int 0, .int 0, .int 0, .ref (qa 0), .ref (qa 1), .ref (qa 2), .ref (qa 3), .int 0, .ref (qa 4), .ref (qa 5), .ref (qa 6), .ref (qa 7), .ref (qa 8), .ref (qa 9), .ref (qa 10), .ref (qa 11), .ref (qa 12), .ref (qa 13), .ref (qa 14), .ref (qa 15), .ref (qa 16), .ref (qa 17), .ref (qa 18), .ref (qa 19), .ref (qa 20), .int 0, .int 0, .int 0, .int 0, .long 0, .long 0, .long 0, .long 0, .long 0, .ref (qa 21), .int 0, .int 0, .int 0, .int 0]))] s.heap.size = A at hD hZ ⊢
  have hA : ∀ q : Nat, s.heap.size ≤ q → A q := fun q h => by rw [← hAe]; exact Or.inr h
  have hS : va_S A s.heap s.heap [] := va_S.rf
  have hl := lv_entry ([.ref h0, .int p0, .int p1]) (n := 3) (Nat.le_of_ble_eq_true rfl)
  rw [lg_entry_eq]
  generalize (lg_sl ([.ref h0, .int p0, .int p1]) ++ List.replicate (3 - (lg_sl ([.ref h0, .int p0, .int p1])).length) Slot.unset).toArray = ls at hl ⊢
  have hl : lv_has ls 3 [(0, .ref h0), (1, .int p0), (2, .int p1)] := hl
  refine lv_aload_n hx hb d_Mo_address_0 rfl (lv_at hl 0 rfl) ?_
  refine lv_iconst (v := 0) hx hb d_Mo_address_1 (by decide) ?_
  refine va_put (D := D) (ci := 7) (v := .int 0) (ty := .int) (C := R_Mo) (T := F_Mo) (N := 52) hx hb hts i_Mo t_Mo t_Mo_ok n_Mo hown hK hP hD hS 0 rfl rfl 0 (by decide) (hts _ w_397) (fun _ h9 => h9) rfl (by decide +kernel) rfl rfl (Nat.le_of_ble_eq_true rfl) d_Mo_address_2 (fun H locs hP hD hS => ?_)
  have hP : va_P D cls [(h0, .inr (7, [.int 0, .int 0, .int 0, .int 0, .int 0, .int 0, .int (-1), .int (-1), .int 0, .int 0, .int 0, .int 0, .int 0, .int 0, .int 0, .int 0, .ref (qa 0), .ref (qa 1), .ref (qa 2), .ref (qa 3), .int 0, .ref (qa 4), .ref (qa 5), .ref (qa 6), .ref (qa 7), .ref (qa 8), .ref (qa 9), .ref (qa 10), .ref (qa 11), .ref (qa 12), .ref (qa 13), .ref (qa 14), .ref (qa 15), .ref (qa 16), .ref (qa 17), .ref (qa 18), .ref (qa 19), .ref (qa 20), .int 0, .int 0, .int 0, .int 0, .long 0, .long 0, .long 0, .long 0, .long 0, .ref (qa 21), .int 0, .int 0, .int 0, .int 0]))] H := hP
  have hD : va_D A [(h0, .inr (7, [.int 0, .int 0, .int 0, .int 0, .int 0, .int 0, .int (-1), .int (-1), .int 0, .int 0, .int 0, .int 0, .int 0, .int 0, .int 0, .int 0, .ref (qa 0), .ref (qa 1), .ref (qa 2), .ref (qa 3), .int 0, .ref (qa 4), .ref (qa 5), .ref (qa 6), .ref (qa 7), .ref (qa 8), .ref (qa 9), .ref (qa 10), .ref (qa 11), .ref (qa 12), .ref (qa 13), .ref (qa 14), .ref (qa 15), .ref (qa 16), .ref (qa 17), .ref (qa 18), .ref (qa 19), .ref (qa 20), .int 0, .int 0, .int 0, .int 0, .long 0, .long 0, .long 0, .long 0, .long 0, .ref (qa 21), .int 0, .int 0, .int 0, .int 0]))] := hD
  refine lv_iload_n hx hb d_Mo_address_5 rfl (lv_at hl 1 rfl) ?_
  refine lv_aload_n hx hb d_Mo_address_6 rfl (lv_at hl 0 rfl) ?_
  refine va_get (D := D) (ci := 7) (v := .int 0) (C := R_Mo) (T := F_Mo) (N := 52) hx hb hts i_Mo hown hK hP 0 rfl rfl 2 (by decide) (hts _ w_400) (fun _ h9 => h9) rfl d_Mo_address_7 ?_
  refine xc_S (As := [.int p0, .int 0]) (rest := []) (n := 2) (wc := []) (wr := [(h0, .inr (7, [.int 0, .int 0, .int 0, .int 0, .int 0, .int 0, .int (-1), .int (-1), .int 0, .int 0, .int 0, .int 0, .int 0, .int 0, .int 0, .int 0, .ref (qa 0), .ref (qa 1), .ref (qa 2), .ref (qa 3), .int 0, .ref (qa 4), .ref (qa 5), .ref (qa 6), .ref (qa 7), .ref (qa 8), .ref (qa 9), .ref (qa 10), .ref (qa 11), .ref (qa 12), .ref (qa 13), .ref (qa 14), .ref (qa 15), .ref (qa 16), .ref (qa 17), .ref (qa 18), .ref (qa 19), .ref (qa 20), .int 0, .int 0, .int 0, .int 0, .long 0, .long 0, .long 0, .long 0, .long 0, .ref (qa 21), .int 0, .int 0, .int 0, .int 0]))]) (tc := []) (tr := []) ⟨hx, hb, hml, hown, hts⟩ (c_Mo_within_g l D p0 0 hk hg H.size) rfl rfl w_510 w_508 w_509 w_8 (by decide +kernel) ⟨Nat.le_of_ble_eq_true rfl, Nat.le_of_ble_eq_true rfl⟩ hP hD hK hS hA hN hZ [] [0] rfl rfl (by decide) (by decide) (by decide) [] [] rfl rfl rfl hl.1 rfl (Nat.le_of_ble_eq_true rfl) d_Mo_address_10 ⟨Nat.le_of_ble_eq_true rfl, Nat.le_of_ble_eq_true rfl⟩ (fun u1 H locs hP hD hK hS => ?_)
  have hP : va_P D cls [(h0, .inr (7, [.int 0, .int 0, .int 0, .int 0, .int 0, .int 0, .int (-1), .int (-1), .int 0, .int 0, .int 0, .int 0, .int 0, .int 0, .int 0, .int 0, .ref (qa 0), .ref (qa 1), .ref (qa 2), .ref (qa 3), .int 0, .ref (qa 4), .ref (qa 5), .ref (qa 6), .ref (qa 7), .ref (qa 8), .ref (qa 9), .ref (qa 10), .ref (qa 11), .ref (qa 12), .ref (qa 13), .ref (qa 14), .ref (qa 15), .ref (qa 16), .ref (qa 17), .ref (qa 18), .ref (qa 19), .ref (qa 20), .int 0, .int 0, .int 0, .int 0, .long 0, .long 0, .long 0, .long 0, .long 0, .ref (qa 21), .int 0, .int 0, .int 0, .int 0]))] H := hP
  have hD : va_D A [(h0, .inr (7, [.int 0, .int 0, .int 0, .int 0, .int 0, .int 0, .int (-1), .int (-1), .int 0, .int 0, .int 0, .int 0, .int 0, .int 0, .int 0, .int 0, .ref (qa 0), .ref (qa 1), .ref (qa 2), .ref (qa 3), .int 0, .ref (qa 4), .ref (qa 5), .ref (qa 6), .ref (qa 7), .ref (qa 8), .ref (qa 9), .ref (qa 10), .ref (qa 11), .ref (qa 12), .ref (qa 13), .ref (qa 14), .ref (qa 15), .ref (qa 16), .ref (qa 17), .ref (qa 18), .ref (qa 19), .ref (qa 20), .int 0, .int 0, .int 0, .int 0, .long 0, .long 0, .long 0, .long 0, .long 0, .ref (qa 21), .int 0, .int 0, .int 0, .int 0]))] := hD
  have hK : va_K D cls [] s := hK
  refine W.eq (g2 := F0 m 13 ls [.int 0]) rfl ?_
  refine lv_if_eq (tgt := 29) hx hb d_Mo_address_13 (by decide) (fun _ => ?_) (fun q9 => absurd (by decide : ((0 : Int32) = 0)) q9)
  refine lv_aload_n hx hb d_Mo_address_29 rfl (lv_at hl 0 rfl) ?_
  refine lv_iconst (v := 1) hx hb d_Mo_address_30 (by decide) ?_
  refine xc_V (As := [.int 1]) (rest := []) (n := 1) (wc := [(h0, .inr (7, [.int 0, .int 0, .int 0, .int 0, .int 0, .int 0, .int (-1), .int (-1), .int 0, .int 0, .int 0, .int 0, .int 0, .int 0, .int 0, .int 0, .ref (qa 0), .ref (qa 1), .ref (qa 2), .ref (qa 3), .int 0, .ref (qa 4), .ref (qa 5), .ref (qa 6), .ref (qa 7), .ref (qa 8), .ref (qa 9), .ref (qa 10), .ref (qa 11), .ref (qa 12), .ref (qa 13), .ref (qa 14), .ref (qa 15), .ref (qa 16), .ref (qa 17), .ref (qa 18), .ref (qa 19), .ref (qa 20), .int 0, .int 0, .int 0, .int 0, .long 0, .long 0, .long 0, .long 0, .long 0, .ref (qa 21), .int 0, .int 0, .int 0, .int 0]))]) (wr := []) (tc := []) (tr := []) ⟨hx, hb, hml, hown, hts⟩ (c_Mo_refuse_1 l D h0 qa H.size) rfl rfl w_452 w_450 w_451 w_557 w_8 (by decide +kernel) ⟨Nat.le_of_ble_eq_true rfl, Nat.le_of_ble_eq_true rfl⟩ hP hD hK hS hA hN hZ [0] [] rfl rfl (by decide) (by decide) (by decide) [] [] rfl rfl (ci := 7) (q0 := 0) (q := (R_Mo, F_Mo, 52)) rfl rfl rfl rfl hl.1 rfl (Nat.le_of_ble_eq_true rfl) d_Mo_address_31 ⟨Nat.le_of_ble_eq_true rfl, Nat.le_of_ble_eq_true rfl⟩ (fun u2 H locs hP hD hK hS => ?_)
  have hP : va_P D cls [(h0, .inr (7, [.int 1, .int 0, .int 0, .int 0, .int 0, .int 0, .int (-1), .int (-1), .int 0, .int 0, .int 0, .int 0, .int 0, .int 0, .int 0, .int 0, .ref (qa 0), .ref (qa 1), .ref (qa 2), .ref (qa 3), .int 0, .ref (qa 4), .ref (qa 5), .ref (qa 6), .ref (qa 7), .ref (qa 8), .ref (qa 9), .ref (qa 10), .ref (qa 11), .ref (qa 12), .ref (qa 13), .ref (qa 14), .ref (qa 15), .ref (qa 16), .ref (qa 17), .ref (qa 18), .ref (qa 19), .ref (qa 20), .int 0, .int 0, .int 0, .int 0, .long 0, .long 0, .long 0, .long 0, .long 0, .ref (qa 21), .int 0, .int 0, .int 0, .int 0]))] H := hP
  have hD : va_D A [(h0, .inr (7, [.int 1, .int 0, .int 0, .int 0, .int 0, .int 0, .int (-1), .int (-1), .int 0, .int 0, .int 0, .int 0, .int 0, .int 0, .int 0, .int 0, .ref (qa 0), .ref (qa 1), .ref (qa 2), .ref (qa 3), .int 0, .ref (qa 4), .ref (qa 5), .ref (qa 6), .ref (qa 7), .ref (qa 8), .ref (qa 9), .ref (qa 10), .ref (qa 11), .ref (qa 12), .ref (qa 13), .ref (qa 14), .ref (qa 15), .ref (qa 16), .ref (qa 17), .ref (qa 18), .ref (qa 19), .ref (qa 20), .int 0, .int 0, .int 0, .int 0, .long 0, .long 0, .long 0, .long 0, .long 0, .ref (qa 21), .int 0, .int 0, .int 0, .int 0]))] := hD
  have hK : va_K D cls [] s := hK
  refine W.eq (g2 := F0 m 34 ls [.int 0]) rfl ?_
  exact xr_i hx hb hr hlocks hP hD hK hS (()) [0] rfl rfl (by decide) [] rfl rfl d_Mo_address_34

theorem d_Mo_end_0 : decode b_Mo_end 0 = .ok (.aload_n 0, 1) := by decide +kernel
theorem d_Mo_end_1 : decode b_Mo_end 1 = .ok (.iconst 0, 1) := by decide +kernel
theorem d_Mo_end_2 : decode b_Mo_end 2 = .ok (.putfield 88, 3) := by decide +kernel
theorem d_Mo_end_5 : decode b_Mo_end 5 = .ok (.iload_n 1, 1) := by decide +kernel
theorem d_Mo_end_6 : decode b_Mo_end 6 = .ok (.ifCond .lt 17, 3) := by decide +kernel
theorem d_Mo_end_9 : decode b_Mo_end 9 = .ok (.iload_n 1, 1) := by decide +kernel
theorem d_Mo_end_10 : decode b_Mo_end 10 = .ok (.bipush 15, 2) := by decide +kernel
theorem d_Mo_end_12 : decode b_Mo_end 12 = .ok (.if_icmp .gt 11, 3) := by decide +kernel
theorem d_Mo_end_15 : decode b_Mo_end 15 = .ok (.iload_n 1, 1) := by decide +kernel
theorem d_Mo_end_16 : decode b_Mo_end 16 = .ok (.aload_n 0, 1) := by decide +kernel
theorem d_Mo_end_17 : decode b_Mo_end 17 = .ok (.getfield 91, 3) := by decide +kernel
theorem d_Mo_end_20 : decode b_Mo_end 20 = .ok (.if_icmp .le 9, 3) := by decide +kernel
theorem d_Mo_end_29 : decode b_Mo_end 29 = .ok (.aload_n 0, 1) := by decide +kernel
theorem d_Mo_end_30 : decode b_Mo_end 30 = .ok (.dup, 1) := by decide +kernel
theorem d_Mo_end_31 : decode b_Mo_end 31 = .ok (.getfield 91, 3) := by decide +kernel
theorem d_Mo_end_34 : decode b_Mo_end 34 = .ok (.iload_n 1, 1) := by decide +kernel
theorem d_Mo_end_35 : decode b_Mo_end 35 = .ok (.isub, 1) := by decide +kernel
theorem d_Mo_end_36 : decode b_Mo_end 36 = .ok (.putfield 91, 3) := by decide +kernel
theorem d_Mo_end_39 : decode b_Mo_end 39 = .ok (.aload_n 0, 1) := by decide +kernel
theorem d_Mo_end_40 : decode b_Mo_end 40 = .ok (.getfield 91, 3) := by decide +kernel
theorem d_Mo_end_43 : decode b_Mo_end 43 = .ok (.ireturn, 1) := by decide +kernel
set_option maxHeartbeats 4000000 in
set_option maxRecDepth 100000 in
theorem c_Mo_end_0 (l : Launch) (D : va_G) (h0 : Nat) (qa : Nat → Nat) (sz : Nat) : Met l y_Mo_end (Cond.code y_Mo_end b_Mo_end 2 (some .int) :: bw) (xR 1 0 0) (va_Pc [.ref h0, .int 0] (xP D [] sz [(h0, .inr (7, [.int 0, .int 0, .int 0, .int 0, .int 0, .int 0, .int (-1), .int (-1), .int 0, .int 0, .int 0, .int 0, .int 0, .int 0, .int 0, .int 0, .ref (qa 0), .ref (qa 1), .ref (qa 2), .ref (qa 3), .int 0, .ref (qa 4), .ref (qa 5), .ref (qa 6), .ref (qa 7), .ref (qa 8), .ref (qa 9), .ref (qa 10), .ref (qa 11), .ref (qa 12), .ref (qa 13), .ref (qa 14), .ref (qa 15), .ref (qa 16), .ref (qa 17), .ref (qa 18), .ref (qa 19), .ref (qa 20), .int 0, .int 0, .int 0, .int 0, .long 0, .long 0, .long 0, .long 0, .long 0, .ref (qa 21), .int 0, .int 0, .int 0, .int 0]))])) (xQ (S := Unit) (fun _ => some (.int 0)) (fun _ => [(h0, .inr (7, [.int 0, .int 0, .int 0, .int 0, .int 0, .int 0, .int (-1), .int (-1), .int 0, .int 0, .int 0, .int 0, .int 0, .int 0, .int 0, .int 0, .ref (qa 0), .ref (qa 1), .ref (qa 2), .ref (qa 3), .int 0, .ref (qa 4), .ref (qa 5), .ref (qa 6), .ref (qa 7), .ref (qa 8), .ref (qa 9), .ref (qa 10), .ref (qa 11), .ref (qa 12), .ref (qa 13), .ref (qa 14), .ref (qa 15), .ref (qa 16), .ref (qa 17), .ref (qa 18), .ref (qa 19), .ref (qa 20), .int 0, .int 0, .int 0, .int 0, .long 0, .long 0, .long 0, .long 0, .long 0, .ref (qa 21), .int 0, .int 0, .int 0, .int 0]))]) (fun _ => []) D (va_A [(h0, .inr (7, [.int 0, .int 0, .int 0, .int 0, .int 0, .int 0, .int (-1), .int (-1), .int 0, .int 0, .int 0, .int 0, .int 0, .int 0, .int 0, .int 0, .ref (qa 0), .ref (qa 1), .ref (qa 2), .ref (qa 3), .int 0, .ref (qa 4), .ref (qa 5), .ref (qa 6), .ref (qa 7), .ref (qa 8), .ref (qa 9), .ref (qa 10), .ref (qa 11), .ref (qa 12), .ref (qa 13), .ref (qa 14), .ref (qa 15), .ref (qa 16), .ref (qa 17), .ref (qa 18), .ref (qa 19), .ref (qa 20), .int 0, .int 0, .int 0, .int 0, .long 0, .long 0, .long 0, .long 0, .long 0, .ref (qa 21), .int 0, .int 0, .int 0, .int 0]))] sz)) 0 0 (va_A [(h0, .inr (7, [.int 0, .int 0, .int 0, .int 0, .int 0, .int 0, .int (-1), .int (-1), .int 0, .int 0, .int 0, .int 0, .int 0, .int 0, .int 0, .int 0, .ref (qa 0), .ref (qa 1), .ref (qa 2), .ref (qa 3), .int 0, .ref (qa 4), .ref (qa 5), .ref (qa 6), .ref (qa 7), .ref (qa 8), .ref (qa 9), .ref (qa 10), .ref (qa 11), .ref (qa 12), .ref (qa 13), .ref (qa 14), .ref (qa 15), .ref (qa 16), .ref (qa 17), .ref (qa 18), .ref (qa 19), .ref (qa 20), .int 0, .int 0, .int 0, .int 0, .long 0, .long 0, .long 0, .long 0, .long 0, .ref (qa 21), .int 0, .int 0, .int 0, .int 0]))] sz) := by
  refine Met.ofW (cc := b_Mo_end) (maxL := 2) (ret := (some .int)) (by decide) rfl ?_
  intro p e s m args below meth c s₁ B hml hv
  obtain ⟨rfl, hsz, hP, hK, hD0, hN, hZ⟩ := hv
  have hx := B.exec
  have hb := B.bytes
  have hr := B.returns
  have hlocks := B.notSynchronized
  have hts : ∀ w ∈ bw, w.before _ s = true := fun w h => atoms_spec (ws := Cond.code y_Mo_end b_Mo_end 2 (some .int) :: bw) B.pre w (List.mem_cons_of_mem _ h)
  have hown : s.vm.findClass "ObjectForgeModel" = some m.cls := findClass_of_methodNamed B.named
  subst hsz
  have hP0 := hP
  have hD := hD0.self (sz := s.heap.size)
  generalize hAe : va_A [(h0, .inr (7, [.int 0, .int 0, .int 0, .int 0, .int 0, .int 0, .int (-1), .int (-1), .int 0, .int 0, .int 0, .int 0, .int 0, .int 0, .int 0, .int 0, .ref (qa 0), .ref (qa 1), .ref (qa 2), .ref (qa 3), .int 0, .ref (qa 4), .ref (qa 5), .ref (qa 6), .ref (qa 7), .ref (qa 8), .ref (qa 9), .ref (qa 10), .ref (qa 11), .ref (qa 12), .ref (qa 13), .ref (qa 14), .ref (qa 15), .ref (qa 16), .ref (qa 17), .ref (qa 18), .ref (qa 19), .ref (qa 20), .int 0, .int 0, .int 0, .int 0, .long 0, .long 0, .long 0, .long 0, .long 0, .ref (qa 21), .int 0, .int 0, .int 0, .int 0]))] s.heap.size = A at hD hZ ⊢
  have hA : ∀ q : Nat, s.heap.size ≤ q → A q := fun q h => by rw [← hAe]; exact Or.inr h
  have hS : va_S A s.heap s.heap [] := va_S.rf
  have hl := lv_entry ([.ref h0, .int 0]) (n := 2) (Nat.le_of_ble_eq_true rfl)
  rw [lg_entry_eq]
  generalize (lg_sl ([.ref h0, .int 0]) ++ List.replicate (2 - (lg_sl ([.ref h0, .int 0])).length) Slot.unset).toArray = ls at hl ⊢
  have hl : lv_has ls 2 [(0, .ref h0), (1, .int 0)] := hl
  refine lv_aload_n hx hb d_Mo_end_0 rfl (lv_at hl 0 rfl) ?_
  refine lv_iconst (v := 0) hx hb d_Mo_end_1 (by decide) ?_
  refine va_put (D := D) (ci := 7) (v := .int 0) (ty := .int) (C := R_Mo) (T := F_Mo) (N := 52) hx hb hts i_Mo t_Mo t_Mo_ok n_Mo hown hK hP hD hS 0 rfl rfl 0 (by decide) (hts _ w_397) (fun _ h9 => h9) rfl (by decide +kernel) rfl rfl (Nat.le_of_ble_eq_true rfl) d_Mo_end_2 (fun H locs hP hD hS => ?_)
  have hP : va_P D cls [(h0, .inr (7, [.int 0, .int 0, .int 0, .int 0, .int 0, .int 0, .int (-1), .int (-1), .int 0, .int 0, .int 0, .int 0, .int 0, .int 0, .int 0, .int 0, .ref (qa 0), .ref (qa 1), .ref (qa 2), .ref (qa 3), .int 0, .ref (qa 4), .ref (qa 5), .ref (qa 6), .ref (qa 7), .ref (qa 8), .ref (qa 9), .ref (qa 10), .ref (qa 11), .ref (qa 12), .ref (qa 13), .ref (qa 14), .ref (qa 15), .ref (qa 16), .ref (qa 17), .ref (qa 18), .ref (qa 19), .ref (qa 20), .int 0, .int 0, .int 0, .int 0, .long 0, .long 0, .long 0, .long 0, .long 0, .ref (qa 21), .int 0, .int 0, .int 0, .int 0]))] H := hP
  have hD : va_D A [(h0, .inr (7, [.int 0, .int 0, .int 0, .int 0, .int 0, .int 0, .int (-1), .int (-1), .int 0, .int 0, .int 0, .int 0, .int 0, .int 0, .int 0, .int 0, .ref (qa 0), .ref (qa 1), .ref (qa 2), .ref (qa 3), .int 0, .ref (qa 4), .ref (qa 5), .ref (qa 6), .ref (qa 7), .ref (qa 8), .ref (qa 9), .ref (qa 10), .ref (qa 11), .ref (qa 12), .ref (qa 13), .ref (qa 14), .ref (qa 15), .ref (qa 16), .ref (qa 17), .ref (qa 18), .ref (qa 19), .ref (qa 20), .int 0, .int 0, .int 0, .int 0, .long 0, .long 0, .long 0, .long 0, .long 0, .ref (qa 21), .int 0, .int 0, .int 0, .int 0]))] := hD
  refine lv_iload_n hx hb d_Mo_end_5 rfl (lv_at hl 1 rfl) ?_
  refine lv_if_lt (tgt := 23) hx hb d_Mo_end_6 (by decide) (fun q9 => absurd q9 (by decide : ¬ ((0 : Int32) < 0))) (fun _ => ?_)
  refine lv_iload_n hx hb d_Mo_end_9 rfl (lv_at hl 1 rfl) ?_
  refine lv_bipush (v := 15) hx hb d_Mo_end_10 (by decide) ?_
  refine lv_icmp_gt (tgt := 23) hx hb d_Mo_end_12 (by decide) (fun q9 => absurd q9 (by decide : ¬ ((15 : Int32) < 0))) (fun _ => ?_)
  refine lv_iload_n hx hb d_Mo_end_15 rfl (lv_at hl 1 rfl) ?_
  refine lv_aload_n hx hb d_Mo_end_16 rfl (lv_at hl 0 rfl) ?_
  refine va_get (D := D) (ci := 7) (v := .int 0) (C := R_Mo) (T := F_Mo) (N := 52) hx hb hts i_Mo hown hK hP 0 rfl rfl 1 (by decide) (hts _ w_398) (fun _ h9 => h9) rfl d_Mo_end_17 ?_
  refine lv_icmp_le (tgt := 29) hx hb d_Mo_end_20 (by decide) (fun _ => ?_) (fun q9 => absurd (by decide : ((0 : Int32) ≤ 0)) q9)
  refine lv_aload_n hx hb d_Mo_end_29 rfl (lv_at hl 0 rfl) ?_
  refine lv_dup hx hb d_Mo_end_30 rfl ?_
  refine va_get (D := D) (ci := 7) (v := .int 0) (C := R_Mo) (T := F_Mo) (N := 52) hx hb hts i_Mo hown hK hP 0 rfl rfl 1 (by decide) (hts _ w_398) (fun _ h9 => h9) rfl d_Mo_end_31 ?_
  refine lv_iload_n hx hb d_Mo_end_34 rfl (lv_at hl 1 rfl) ?_
  refine lv_isub hx hb d_Mo_end_35 ?_
  refine lv_topi (fun z1 ez1 => ?_)
  obtain rfl : z1 = 0 := ez1.trans (by decide)
  refine va_put (D := D) (ci := 7) (v := .int 0) (ty := .int) (C := R_Mo) (T := F_Mo) (N := 52) hx hb hts i_Mo t_Mo t_Mo_ok n_Mo hown hK hP hD hS 0 rfl rfl 1 (by decide) (hts _ w_398) (fun _ h9 => h9) rfl (by decide +kernel) rfl rfl (Nat.le_of_ble_eq_true rfl) d_Mo_end_36 (fun H locs hP hD hS => ?_)
  have hP : va_P D cls [(h0, .inr (7, [.int 0, .int 0, .int 0, .int 0, .int 0, .int 0, .int (-1), .int (-1), .int 0, .int 0, .int 0, .int 0, .int 0, .int 0, .int 0, .int 0, .ref (qa 0), .ref (qa 1), .ref (qa 2), .ref (qa 3), .int 0, .ref (qa 4), .ref (qa 5), .ref (qa 6), .ref (qa 7), .ref (qa 8), .ref (qa 9), .ref (qa 10), .ref (qa 11), .ref (qa 12), .ref (qa 13), .ref (qa 14), .ref (qa 15), .ref (qa 16), .ref (qa 17), .ref (qa 18), .ref (qa 19), .ref (qa 20), .int 0, .int 0, .int 0, .int 0, .long 0, .long 0, .long 0, .long 0, .long 0, .ref (qa 21), .int 0, .int 0, .int 0, .int 0]))] H := hP
  have hD : va_D A [(h0, .inr (7, [.int 0, .int 0, .int 0, .int 0, .int 0, .int 0, .int (-1), .int (-1), .int 0, .int 0, .int 0, .int 0, .int 0, .int 0, .int 0, .int 0, .ref (qa 0), .ref (qa 1), .ref (qa 2), .ref (qa 3), .int 0, .ref (qa 4), .ref (qa 5), .ref (qa 6), .ref (qa 7), .ref (qa 8), .ref (qa 9), .ref (qa 10), .ref (qa 11), .ref (qa 12), .ref (qa 13), .ref (qa 14), .ref (qa 15), .ref (qa 16), .ref (qa 17), .ref (qa 18), .ref (qa 19), .ref (qa 20), .int 0, .int 0, .int 0, .int 0, .long 0, .long 0, .long 0, .long 0, .long 0, .ref (qa 21), .int 0, .int 0, .int 0, .int 0]))] := hD
  refine lv_aload_n hx hb d_Mo_end_39 rfl (lv_at hl 0 rfl) ?_
  refine va_get (D := D) (ci := 7) (v := .int 0) (C := R_Mo) (T := F_Mo) (N := 52) hx hb hts i_Mo hown hK hP 0 rfl rfl 1 (by decide) (hts _ w_398) (fun _ h9 => h9) rfl d_Mo_end_40 ?_
  exact xr_i hx hb hr hlocks hP hD hK hS (()) [0] rfl rfl (by decide) [] rfl rfl d_Mo_end_43

theorem d_Mo_end_23 : decode b_Mo_end 23 = .ok (.aload_n 0, 1) := by decide +kernel
theorem d_Mo_end_24 : decode b_Mo_end 24 = .ok (.iconst 1, 1) := by decide +kernel
theorem d_Mo_end_25 : decode b_Mo_end 25 = .ok (.invokevirtual 94, 3) := by decide +kernel
theorem d_Mo_end_28 : decode b_Mo_end 28 = .ok (.ireturn, 1) := by decide +kernel
set_option maxHeartbeats 4000000 in
set_option maxRecDepth 100000 in
theorem c_Mo_end_n (l : Launch) (D : va_G) (h0 : Nat) (qa : Nat → Nat) (p0 : Int32) (h1 : p0 < 0) (sz : Nat) : Met l y_Mo_end (Cond.code y_Mo_end b_Mo_end 2 (some .int) :: bw) (xR 2 0 0) (va_Pc [.ref h0, .int p0] (xP D [] sz [(h0, .inr (7, [.int 0, .int 0, .int 0, .int 0, .int 0, .int 0, .int (-1), .int (-1), .int 0, .int 0, .int 0, .int 0, .int 0, .int 0, .int 0, .int 0, .ref (qa 0), .ref (qa 1), .ref (qa 2), .ref (qa 3), .int 0, .ref (qa 4), .ref (qa 5), .ref (qa 6), .ref (qa 7), .ref (qa 8), .ref (qa 9), .ref (qa 10), .ref (qa 11), .ref (qa 12), .ref (qa 13), .ref (qa 14), .ref (qa 15), .ref (qa 16), .ref (qa 17), .ref (qa 18), .ref (qa 19), .ref (qa 20), .int 0, .int 0, .int 0, .int 0, .long 0, .long 0, .long 0, .long 0, .long 0, .ref (qa 21), .int 0, .int 0, .int 0, .int 0]))])) (xQ (S := Unit) (fun _ => some (.int 0)) (fun _ => [(h0, .inr (7, [.int 1, .int 0, .int 0, .int 0, .int 0, .int 0, .int (-1), .int (-1), .int 0, .int 0, .int 0, .int 0, .int 0, .int 0, .int 0, .int 0, .ref (qa 0), .ref (qa 1), .ref (qa 2), .ref (qa 3), .int 0, .ref (qa 4), .ref (qa 5), .ref (qa 6), .ref (qa 7), .ref (qa 8), .ref (qa 9), .ref (qa 10), .ref (qa 11), .ref (qa 12), .ref (qa 13), .ref (qa 14), .ref (qa 15), .ref (qa 16), .ref (qa 17), .ref (qa 18), .ref (qa 19), .ref (qa 20), .int 0, .int 0, .int 0, .int 0, .long 0, .long 0, .long 0, .long 0, .long 0, .ref (qa 21), .int 0, .int 0, .int 0, .int 0]))]) (fun _ => []) D (va_A [(h0, .inr (7, [.int 0, .int 0, .int 0, .int 0, .int 0, .int 0, .int (-1), .int (-1), .int 0, .int 0, .int 0, .int 0, .int 0, .int 0, .int 0, .int 0, .ref (qa 0), .ref (qa 1), .ref (qa 2), .ref (qa 3), .int 0, .ref (qa 4), .ref (qa 5), .ref (qa 6), .ref (qa 7), .ref (qa 8), .ref (qa 9), .ref (qa 10), .ref (qa 11), .ref (qa 12), .ref (qa 13), .ref (qa 14), .ref (qa 15), .ref (qa 16), .ref (qa 17), .ref (qa 18), .ref (qa 19), .ref (qa 20), .int 0, .int 0, .int 0, .int 0, .long 0, .long 0, .long 0, .long 0, .long 0, .ref (qa 21), .int 0, .int 0, .int 0, .int 0]))] sz)) 0 0 (va_A [(h0, .inr (7, [.int 0, .int 0, .int 0, .int 0, .int 0, .int 0, .int (-1), .int (-1), .int 0, .int 0, .int 0, .int 0, .int 0, .int 0, .int 0, .int 0, .ref (qa 0), .ref (qa 1), .ref (qa 2), .ref (qa 3), .int 0, .ref (qa 4), .ref (qa 5), .ref (qa 6), .ref (qa 7), .ref (qa 8), .ref (qa 9), .ref (qa 10), .ref (qa 11), .ref (qa 12), .ref (qa 13), .ref (qa 14), .ref (qa 15), .ref (qa 16), .ref (qa 17), .ref (qa 18), .ref (qa 19), .ref (qa 20), .int 0, .int 0, .int 0, .int 0, .long 0, .long 0, .long 0, .long 0, .long 0, .ref (qa 21), .int 0, .int 0, .int 0, .int 0]))] sz) := by
  refine Met.ofW (cc := b_Mo_end) (maxL := 2) (ret := (some .int)) (by decide) rfl ?_
  intro p e s m args below meth c s₁ B hml hv
  obtain ⟨rfl, hsz, hP, hK, hD0, hN, hZ⟩ := hv
  have hx := B.exec
  have hb := B.bytes
  have hr := B.returns
  have hlocks := B.notSynchronized
  have hts : ∀ w ∈ bw, w.before _ s = true := fun w h => atoms_spec (ws := Cond.code y_Mo_end b_Mo_end 2 (some .int) :: bw) B.pre w (List.mem_cons_of_mem _ h)
  have hown : s.vm.findClass "ObjectForgeModel" = some m.cls := findClass_of_methodNamed B.named
  subst hsz
  have hP0 := hP
  have hD := hD0.self (sz := s.heap.size)
  generalize hAe : va_A [(h0, .inr (7, [.int 0, .int 0, .int 0, .int 0, .int 0, .int 0, .int (-1), .int (-1), .int 0, .int 0, .int 0, .int 0, .int 0, .int 0, .int 0, .int 0, .ref (qa 0), .ref (qa 1), .ref (qa 2), .ref (qa 3), .int 0, .ref (qa 4), .ref (qa 5), .ref (qa 6), .ref (qa 7), .ref (qa 8), .ref (qa 9), .ref (qa 10), .ref (qa 11), .ref (qa 12), .ref (qa 13), .ref (qa 14), .ref (qa 15), .ref (qa 16), .ref (qa 17), .ref (qa 18), .ref (qa 19), .ref (qa 20), .int 0, .int 0, .int 0, .int 0, .long 0, .long 0, .long 0, .long 0, .long 0, .ref (qa 21), .int 0, .int 0, .int 0, .int 0]))] s.heap.size = A at hD hZ ⊢
  have hA : ∀ q : Nat, s.heap.size ≤ q → A q := fun q h => by rw [← hAe]; exact Or.inr h
  have hS : va_S A s.heap s.heap [] := va_S.rf
  have hl := lv_entry ([.ref h0, .int p0]) (n := 2) (Nat.le_of_ble_eq_true rfl)
  rw [lg_entry_eq]
  generalize (lg_sl ([.ref h0, .int p0]) ++ List.replicate (2 - (lg_sl ([.ref h0, .int p0])).length) Slot.unset).toArray = ls at hl ⊢
  have hl : lv_has ls 2 [(0, .ref h0), (1, .int p0)] := hl
  refine lv_aload_n hx hb d_Mo_end_0 rfl (lv_at hl 0 rfl) ?_
  refine lv_iconst (v := 0) hx hb d_Mo_end_1 (by decide) ?_
  refine va_put (D := D) (ci := 7) (v := .int 0) (ty := .int) (C := R_Mo) (T := F_Mo) (N := 52) hx hb hts i_Mo t_Mo t_Mo_ok n_Mo hown hK hP hD hS 0 rfl rfl 0 (by decide) (hts _ w_397) (fun _ h9 => h9) rfl (by decide +kernel) rfl rfl (Nat.le_of_ble_eq_true rfl) d_Mo_end_2 (fun H locs hP hD hS => ?_)
  have hP : va_P D cls [(h0, .inr (7, [.int 0, .int 0, .int 0, .int 0, .int 0, .int 0, .int (-1), .int (-1), .int 0, .int 0, .int 0, .int 0, .int 0, .int 0, .int 0, .int 0, .ref (qa 0), .ref (qa 1), .ref (qa 2), .ref (qa 3), .int 0, .ref (qa 4), .ref (qa 5), .ref (qa 6), .ref (qa 7), .ref (qa 8), .ref (qa 9), .ref (qa 10), .ref (qa 11), .ref (qa 12), .ref (qa 13), .ref (qa 14), .ref (qa 15), .ref (qa 16), .ref (qa 17), .ref (qa 18), .ref (qa 19), .ref (qa 20), .int 0, .int 0, .int 0, .int 0, .long 0, .long 0, .long 0, .long 0, .long 0, .ref (qa 21), .int 0, .int 0, .int 0, .int 0]))] H := hP
  have hD : va_D A [(h0, .inr (7, [.int 0, .int 0, .int 0, .int 0, .int 0, .int 0, .int (-1), .int (-1), .int 0, .int 0, .int 0, .int 0, .int 0, .int 0, .int 0, .int 0, .ref (qa 0), .ref (qa 1), .ref (qa 2), .ref (qa 3), .int 0, .ref (qa 4), .ref (qa 5), .ref (qa 6), .ref (qa 7), .ref (qa 8), .ref (qa 9), .ref (qa 10), .ref (qa 11), .ref (qa 12), .ref (qa 13), .ref (qa 14), .ref (qa 15), .ref (qa 16), .ref (qa 17), .ref (qa 18), .ref (qa 19), .ref (qa 20), .int 0, .int 0, .int 0, .int 0, .long 0, .long 0, .long 0, .long 0, .long 0, .ref (qa 21), .int 0, .int 0, .int 0, .int 0]))] := hD
  refine lv_iload_n hx hb d_Mo_end_5 rfl (lv_at hl 1 rfl) ?_
  refine lv_if_lt (tgt := 23) hx hb d_Mo_end_6 (by decide) (fun _ => ?_) (fun q9 => absurd h1 q9)
  refine lv_aload_n hx hb d_Mo_end_23 rfl (lv_at hl 0 rfl) ?_
  refine lv_iconst (v := 1) hx hb d_Mo_end_24 (by decide) ?_
  refine xc_V (As := [.int 1]) (rest := []) (n := 1) (wc := [(h0, .inr (7, [.int 0, .int 0, .int 0, .int 0, .int 0, .int 0, .int (-1), .int (-1), .int 0, .int 0, .int 0, .int 0, .int 0, .int 0, .int 0, .int 0, .ref (qa 0), .ref (qa 1), .ref (qa 2), .ref (qa 3), .int 0, .ref (qa 4), .ref (qa 5), .ref (qa 6), .ref (qa 7), .ref (qa 8), .ref (qa 9), .ref (qa 10), .ref (qa 11), .ref (qa 12), .ref (qa 13), .ref (qa 14), .ref (qa 15), .ref (qa 16), .ref (qa 17), .ref (qa 18), .ref (qa 19), .ref (qa 20), .int 0, .int 0, .int 0, .int 0, .long 0, .long 0, .long 0, .long 0, .long 0, .ref (qa 21), .int 0, .int 0, .int 0, .int 0]))]) (wr := []) (tc := []) (tr := []) ⟨hx, hb, hml, hown, hts⟩ (c_Mo_refuse_1 l D h0 qa H.size) rfl rfl w_452 w_450 w_451 w_557 w_8 (by decide +kernel) ⟨Nat.le_of_ble_eq_true rfl, Nat.le_of_ble_eq_true rfl⟩ hP hD hK hS hA hN hZ [0] [] rfl rfl (by decide) (by decide) (by decide) [] [] rfl rfl (ci := 7) (q0 := 0) (q := (R_Mo, F_Mo, 52)) rfl rfl rfl rfl hl.1 rfl (Nat.le_of_ble_eq_true rfl) d_Mo_end_25 ⟨Nat.le_of_ble_eq_true rfl, Nat.le_of_ble_eq_true rfl⟩ (fun u1 H locs hP hD hK hS => ?_)
  have hP : va_P D cls [(h0, .inr (7, [.int 1, .int 0, .int 0, .int 0, .int 0, .int 0, .int (-1), .int (-1), .int 0, .int 0, .int 0, .int 0, .int 0, .int 0, .int 0, .int 0, .ref (qa 0), .ref (qa 1), .ref (qa 2), .ref (qa 3), .int 0, .ref (qa 4), .ref (qa 5), .ref (qa 6), .ref (qa 7), .ref (qa 8), .ref (qa 9), .ref (qa 10), .ref (qa 11), .ref (qa 12), .ref (qa 13), .ref (qa 14), .ref (qa 15), .ref (qa 16), .ref (qa 17), .ref (qa 18), .ref (qa 19), .ref (qa 20), .int 0, .int 0, .int 0, .int 0, .long 0, .long 0, .long 0, .long 0, .long 0, .ref (qa 21), .int 0, .int 0, .int 0, .int 0]))] H := hP
  have hD : va_D A [(h0, .inr (7, [.int 1, .int 0, .int 0, .int 0, .int 0, .int 0, .int (-1), .int (-1), .int 0, .int 0, .int 0, .int 0, .int 0, .int 0, .int 0, .int 0, .ref (qa 0), .ref (qa 1), .ref (qa 2), .ref (qa 3), .int 0, .ref (qa 4), .ref (qa 5), .ref (qa 6), .ref (qa 7), .ref (qa 8), .ref (qa 9), .ref (qa 10), .ref (qa 11), .ref (qa 12), .ref (qa 13), .ref (qa 14), .ref (qa 15), .ref (qa 16), .ref (qa 17), .ref (qa 18), .ref (qa 19), .ref (qa 20), .int 0, .int 0, .int 0, .int 0, .long 0, .long 0, .long 0, .long 0, .long 0, .ref (qa 21), .int 0, .int 0, .int 0, .int 0]))] := hD
  have hK : va_K D cls [] s := hK
  refine W.eq (g2 := F0 m 28 ls [.int 0]) rfl ?_
  exact xr_i hx hb hr hlocks hP hD hK hS (()) [0] rfl rfl (by decide) [] rfl rfl d_Mo_end_28

set_option maxHeartbeats 4000000 in
set_option maxRecDepth 100000 in
theorem c_Mo_end_b (l : Launch) (D : va_G) (h0 : Nat) (qa : Nat → Nat) (p0 : Int32) (h1 : ¬ p0 < 0) (h2 : 15 < p0) (sz : Nat) : Met l y_Mo_end (Cond.code y_Mo_end b_Mo_end 2 (some .int) :: bw) (xR 2 0 0) (va_Pc [.ref h0, .int p0] (xP D [] sz [(h0, .inr (7, [.int 0, .int 0, .int 0, .int 0, .int 0, .int 0, .int (-1), .int (-1), .int 0, .int 0, .int 0, .int 0, .int 0, .int 0, .int 0, .int 0, .ref (qa 0), .ref (qa 1), .ref (qa 2), .ref (qa 3), .int 0, .ref (qa 4), .ref (qa 5), .ref (qa 6), .ref (qa 7), .ref (qa 8), .ref (qa 9), .ref (qa 10), .ref (qa 11), .ref (qa 12), .ref (qa 13), .ref (qa 14), .ref (qa 15), .ref (qa 16), .ref (qa 17), .ref (qa 18), .ref (qa 19), .ref (qa 20), .int 0, .int 0, .int 0, .int 0, .long 0, .long 0, .long 0, .long 0, .long 0, .ref (qa 21), .int 0, .int 0, .int 0, .int 0]))])) (xQ (S := Unit) (fun _ => some (.int 0)) (fun _ => [(h0, .inr (7, [.int 1, .int 0, .int 0, .int 0, .int 0, .int 0, .int (-1), .int (-1), .int 0, .int 0, .int 0, .int 0, .int 0, .int 0, .int 0, .int 0, .ref (qa 0), .ref (qa 1), .ref (qa 2), .ref (qa 3), .int 0, .ref (qa 4), .ref (qa 5), .ref (qa 6), .ref (qa 7), .ref (qa 8), .ref (qa 9), .ref (qa 10), .ref (qa 11), .ref (qa 12), .ref (qa 13), .ref (qa 14), .ref (qa 15), .ref (qa 16), .ref (qa 17), .ref (qa 18), .ref (qa 19), .ref (qa 20), .int 0, .int 0, .int 0, .int 0, .long 0, .long 0, .long 0, .long 0, .long 0, .ref (qa 21), .int 0, .int 0, .int 0, .int 0]))]) (fun _ => []) D (va_A [(h0, .inr (7, [.int 0, .int 0, .int 0, .int 0, .int 0, .int 0, .int (-1), .int (-1), .int 0, .int 0, .int 0, .int 0, .int 0, .int 0, .int 0, .int 0, .ref (qa 0), .ref (qa 1), .ref (qa 2), .ref (qa 3), .int 0, .ref (qa 4), .ref (qa 5), .ref (qa 6), .ref (qa 7), .ref (qa 8), .ref (qa 9), .ref (qa 10), .ref (qa 11), .ref (qa 12), .ref (qa 13), .ref (qa 14), .ref (qa 15), .ref (qa 16), .ref (qa 17), .ref (qa 18), .ref (qa 19), .ref (qa 20), .int 0, .int 0, .int 0, .int 0, .long 0, .long 0, .long 0, .long 0, .long 0, .ref (qa 21), .int 0, .int 0, .int 0, .int 0]))] sz)) 0 0 (va_A [(h0, .inr (7, [.int 0, .int 0, .int 0, .int 0, .int 0, .int 0, .int (-1), .int (-1), .int 0, .int 0, .int 0, .int 0, .int 0, .int 0, .int 0, .int 0, .ref (qa 0), .ref (qa 1), .ref (qa 2), .ref (qa 3), .int 0, .ref (qa 4), .ref (qa 5), .ref (qa 6), .ref (qa 7), .ref (qa 8), .ref (qa 9), .ref (qa 10), .ref (qa 11), .ref (qa 12), .ref (qa 13), .ref (qa 14), .ref (qa 15), .ref (qa 16), .ref (qa 17), .ref (qa 18), .ref (qa 19), .ref (qa 20), .int 0, .int 0, .int 0, .int 0, .long 0, .long 0, .long 0, .long 0, .long 0, .ref (qa 21), .int 0, .int 0, .int 0, .int 0]))] sz) := by
  refine Met.ofW (cc := b_Mo_end) (maxL := 2) (ret := (some .int)) (by decide) rfl ?_
  intro p e s m args below meth c s₁ B hml hv
  obtain ⟨rfl, hsz, hP, hK, hD0, hN, hZ⟩ := hv
  have hx := B.exec
  have hb := B.bytes
  have hr := B.returns
  have hlocks := B.notSynchronized
  have hts : ∀ w ∈ bw, w.before _ s = true := fun w h => atoms_spec (ws := Cond.code y_Mo_end b_Mo_end 2 (some .int) :: bw) B.pre w (List.mem_cons_of_mem _ h)
  have hown : s.vm.findClass "ObjectForgeModel" = some m.cls := findClass_of_methodNamed B.named
  subst hsz
  have hP0 := hP
  have hD := hD0.self (sz := s.heap.size)
  generalize hAe : va_A [(h0, .inr (7, [.int 0, .int 0, .int 0, .int 0, .int 0, .int 0, .int (-1), .int (-1), .int 0, .int 0, .int 0, .int 0, .int 0, .int 0, .int 0, .int 0, .ref (qa 0), .ref (qa 1), .ref (qa 2), .ref (qa 3), .int 0, .ref (qa 4), .ref (qa 5), .ref (qa 6), .ref (qa 7), .ref (qa 8), .ref (qa 9), .ref (qa 10), .ref (qa 11), .ref (qa 12), .ref (qa 13), .ref (qa 14), .ref (qa 15), .ref (qa 16), .ref (qa 17), .ref (qa 18), .ref (qa 19), .ref (qa 20), .int 0, .int 0, .int 0, .int 0, .long 0, .long 0, .long 0, .long 0, .long 0, .ref (qa 21), .int 0, .int 0, .int 0, .int 0]))] s.heap.size = A at hD hZ ⊢
  have hA : ∀ q : Nat, s.heap.size ≤ q → A q := fun q h => by rw [← hAe]; exact Or.inr h
  have hS : va_S A s.heap s.heap [] := va_S.rf
  have hl := lv_entry ([.ref h0, .int p0]) (n := 2) (Nat.le_of_ble_eq_true rfl)
  rw [lg_entry_eq]
  generalize (lg_sl ([.ref h0, .int p0]) ++ List.replicate (2 - (lg_sl ([.ref h0, .int p0])).length) Slot.unset).toArray = ls at hl ⊢
  have hl : lv_has ls 2 [(0, .ref h0), (1, .int p0)] := hl
  refine lv_aload_n hx hb d_Mo_end_0 rfl (lv_at hl 0 rfl) ?_
  refine lv_iconst (v := 0) hx hb d_Mo_end_1 (by decide) ?_
  refine va_put (D := D) (ci := 7) (v := .int 0) (ty := .int) (C := R_Mo) (T := F_Mo) (N := 52) hx hb hts i_Mo t_Mo t_Mo_ok n_Mo hown hK hP hD hS 0 rfl rfl 0 (by decide) (hts _ w_397) (fun _ h9 => h9) rfl (by decide +kernel) rfl rfl (Nat.le_of_ble_eq_true rfl) d_Mo_end_2 (fun H locs hP hD hS => ?_)
  have hP : va_P D cls [(h0, .inr (7, [.int 0, .int 0, .int 0, .int 0, .int 0, .int 0, .int (-1), .int (-1), .int 0, .int 0, .int 0, .int 0, .int 0, .int 0, .int 0, .int 0, .ref (qa 0), .ref (qa 1), .ref (qa 2), .ref (qa 3), .int 0, .ref (qa 4), .ref (qa 5), .ref (qa 6), .ref (qa 7), .ref (qa 8), .ref (qa 9), .ref (qa 10), .ref (qa 11), .ref (qa 12), .ref (qa 13), .ref (qa 14), .ref (qa 15), .ref (qa 16), .ref (qa 17), .ref (qa 18), .ref (qa 19), .ref (qa 20), .int 0, .int 0, .int 0, .int 0, .long 0, .long 0, .long 0, .long 0, .long 0, .ref (qa 21), .int 0, .int 0, .int 0, .int 0]))] H := hP
  have hD : va_D A [(h0, .inr (7, [.int 0, .int 0, .int 0, .int 0, .int 0, .int 0, .int (-1), .int (-1), .int 0, .int 0, .int 0, .int 0, .int 0, .int 0, .int 0, .int 0, .ref (qa 0), .ref (qa 1), .ref (qa 2), .ref (qa 3), .int 0, .ref (qa 4), .ref (qa 5), .ref (qa 6), .ref (qa 7), .ref (qa 8), .ref (qa 9), .ref (qa 10), .ref (qa 11), .ref (qa 12), .ref (qa 13), .ref (qa 14), .ref (qa 15), .ref (qa 16), .ref (qa 17), .ref (qa 18), .ref (qa 19), .ref (qa 20), .int 0, .int 0, .int 0, .int 0, .long 0, .long 0, .long 0, .long 0, .long 0, .ref (qa 21), .int 0, .int 0, .int 0, .int 0]))] := hD
  refine lv_iload_n hx hb d_Mo_end_5 rfl (lv_at hl 1 rfl) ?_
  refine lv_if_lt (tgt := 23) hx hb d_Mo_end_6 (by decide) (fun q9 => absurd q9 h1) (fun _ => ?_)
  refine lv_iload_n hx hb d_Mo_end_9 rfl (lv_at hl 1 rfl) ?_
  refine lv_bipush (v := 15) hx hb d_Mo_end_10 (by decide) ?_
  refine lv_icmp_gt (tgt := 23) hx hb d_Mo_end_12 (by decide) (fun _ => ?_) (fun q9 => absurd h2 q9)
  refine lv_aload_n hx hb d_Mo_end_23 rfl (lv_at hl 0 rfl) ?_
  refine lv_iconst (v := 1) hx hb d_Mo_end_24 (by decide) ?_
  refine xc_V (As := [.int 1]) (rest := []) (n := 1) (wc := [(h0, .inr (7, [.int 0, .int 0, .int 0, .int 0, .int 0, .int 0, .int (-1), .int (-1), .int 0, .int 0, .int 0, .int 0, .int 0, .int 0, .int 0, .int 0, .ref (qa 0), .ref (qa 1), .ref (qa 2), .ref (qa 3), .int 0, .ref (qa 4), .ref (qa 5), .ref (qa 6), .ref (qa 7), .ref (qa 8), .ref (qa 9), .ref (qa 10), .ref (qa 11), .ref (qa 12), .ref (qa 13), .ref (qa 14), .ref (qa 15), .ref (qa 16), .ref (qa 17), .ref (qa 18), .ref (qa 19), .ref (qa 20), .int 0, .int 0, .int 0, .int 0, .long 0, .long 0, .long 0, .long 0, .long 0, .ref (qa 21), .int 0, .int 0, .int 0, .int 0]))]) (wr := []) (tc := []) (tr := []) ⟨hx, hb, hml, hown, hts⟩ (c_Mo_refuse_1 l D h0 qa H.size) rfl rfl w_452 w_450 w_451 w_557 w_8 (by decide +kernel) ⟨Nat.le_of_ble_eq_true rfl, Nat.le_of_ble_eq_true rfl⟩ hP hD hK hS hA hN hZ [0] [] rfl rfl (by decide) (by decide) (by decide) [] [] rfl rfl (ci := 7) (q0 := 0) (q := (R_Mo, F_Mo, 52)) rfl rfl rfl rfl hl.1 rfl (Nat.le_of_ble_eq_true rfl) d_Mo_end_25 ⟨Nat.le_of_ble_eq_true rfl, Nat.le_of_ble_eq_true rfl⟩ (fun u1 H locs hP hD hK hS => ?_)
  have hP : va_P D cls [(h0, .inr (7, [.int 1, .int 0, .int 0, .int 0, .int 0, .int 0, .int (-1), .int (-1), .int 0, .int 0, .int 0, .int 0, .int 0, .int 0, .int 0, .int 0, .ref (qa 0), .ref (qa 1), .ref (qa 2), .ref (qa 3), .int 0, .ref (qa 4), .ref (qa 5), .ref (qa 6), .ref (qa 7), .ref (qa 8), .ref (qa 9), .ref (qa 10), .ref (qa 11), .ref (qa 12), .ref (qa 13), .ref (qa 14), .ref (qa 15), .ref (qa 16), .ref (qa 17), .ref (qa 18), .ref (qa 19), .ref (qa 20), .int 0, .int 0, .int 0, .int 0, .long 0, .long 0, .long 0, .long 0, .long 0, .ref (qa 21), .int 0, .int 0, .int 0, .int 0]))] H := hP
  have hD : va_D A [(h0, .inr (7, [.int 1, .int 0, .int 0, .int 0, .int 0, .int 0, .int (-1), .int (-1), .int 0, .int 0, .int 0, .int 0, .int 0, .int 0, .int 0, .int 0, .ref (qa 0), .ref (qa 1), .ref (qa 2), .ref (qa 3), .int 0, .ref (qa 4), .ref (qa 5), .ref (qa 6), .ref (qa 7), .ref (qa 8), .ref (qa 9), .ref (qa 10), .ref (qa 11), .ref (qa 12), .ref (qa 13), .ref (qa 14), .ref (qa 15), .ref (qa 16), .ref (qa 17), .ref (qa 18), .ref (qa 19), .ref (qa 20), .int 0, .int 0, .int 0, .int 0, .long 0, .long 0, .long 0, .long 0, .long 0, .ref (qa 21), .int 0, .int 0, .int 0, .int 0]))] := hD
  have hK : va_K D cls [] s := hK
  refine W.eq (g2 := F0 m 28 ls [.int 0]) rfl ?_
  exact xr_i hx hb hr hlocks hP hD hK hS (()) [0] rfl rfl (by decide) [] rfl rfl d_Mo_end_28

set_option maxHeartbeats 4000000 in
set_option maxRecDepth 100000 in
theorem c_Mo_end_g (l : Launch) (D : va_G) (h0 : Nat) (qa : Nat → Nat) (p0 : Int32) (h1 : ¬ p0 < 0) (h2 : ¬ 15 < p0) (h3 : ¬ p0 ≤ 0) (sz : Nat) : Met l y_Mo_end (Cond.code y_Mo_end b_Mo_end 2 (some .int) :: bw) (xR 2 0 0) (va_Pc [.ref h0, .int p0] (xP D [] sz [(h0, .inr (7, [.int 0, .int 0, .int 0, .int 0, .int 0, .int 0, .int (-1), .int (-1), .int 0, .int 0, .int 0, .int 0, .int 0, .int 0, .int 0, .int 0, .ref (qa 0), .ref (qa 1), .ref (qa 2), .ref (qa 3), .int 0, .ref (qa 4), .ref (qa 5), .ref (qa 6), .ref (qa 7), .ref (qa 8), .ref (qa 9), .ref (qa 10), .ref (qa 11), .ref (qa 12), .ref (qa 13), .ref (qa 14), .ref (qa 15), .ref (qa 16), .ref (qa 17), .ref (qa 18), .ref (qa 19), .ref (qa 20), .int 0, .int 0, .int 0, .int 0, .long 0, .long 0, .long 0, .long 0, .long 0, .ref (qa 21), .int 0, .int 0, .int 0, .int 0]))])) (xQ (S := Unit) (fun _ => some (.int 0)) (fun _ => [(h0, .inr (7, [.int 1, .int 0, .int 0, .int 0, .int 0, .int 0, .int (-1), .int (-1), .int 0, .int 0, .int 0, .int 0, .int 0, .int 0, .int 0, .int 0, .ref (qa 0), .ref (qa 1), .ref (qa 2), .ref (qa 3), .int 0, .ref (qa 4), .ref (qa 5), .ref (qa 6), .ref (qa 7), .ref (qa 8), .ref (qa 9), .ref (qa 10), .ref (qa 11), .ref (qa 12), .ref (qa 13), .ref (qa 14), .ref (qa 15), .ref (qa 16), .ref (qa 17), .ref (qa 18), .ref (qa 19), .ref (qa 20), .int 0, .int 0, .int 0, .int 0, .long 0, .long 0, .long 0, .long 0, .long 0, .ref (qa 21), .int 0, .int 0, .int 0, .int 0]))]) (fun _ => []) D (va_A [(h0, .inr (7, [.int 0, .int 0, .int 0, .int 0, .int 0, .int 0, .int (-1), .int (-1), .int 0, .int 0, .int 0, .int 0, .int 0, .int 0, .int 0, .int 0, .ref (qa 0), .ref (qa 1), .ref (qa 2), .ref (qa 3), .int 0, .ref (qa 4), .ref (qa 5), .ref (qa 6), .ref (qa 7), .ref (qa 8), .ref (qa 9), .ref (qa 10), .ref (qa 11), .ref (qa 12), .ref (qa 13), .ref (qa 14), .ref (qa 15), .ref (qa 16), .ref (qa 17), .ref (qa 18), .ref (qa 19), .ref (qa 20), .int 0, .int 0, .int 0, .int 0, .long 0, .long 0, .long 0, .long 0, .long 0, .ref (qa 21), .int 0, .int 0, .int 0, .int 0]))] sz)) 0 0 (va_A [(h0, .inr (7, [.int 0, .int 0, .int 0, .int 0, .int 0, .int 0, .int (-1), .int (-1), .int 0, .int 0, .int 0, .int 0, .int 0, .int 0, .int 0, .int 0, .ref (qa 0), .ref (qa 1), .ref (qa 2), .ref (qa 3), .int 0, .ref (qa 4), .ref (qa 5), .ref (qa 6), .ref (qa 7), .ref (qa 8), .ref (qa 9), .ref (qa 10), .ref (qa 11), .ref (qa 12), .ref (qa 13), .ref (qa 14), .ref (qa 15), .ref (qa 16), .ref (qa 17), .ref (qa 18), .ref (qa 19), .ref (qa 20), .int 0, .int 0, .int 0, .int 0, .long 0, .long 0, .long 0, .long 0, .long 0, .ref (qa 21), .int 0, .int 0, .int 0, .int 0]))] sz) := by
  refine Met.ofW (cc := b_Mo_end) (maxL := 2) (ret := (some .int)) (by decide) rfl ?_
  intro p e s m args below meth c s₁ B hml hv
  obtain ⟨rfl, hsz, hP, hK, hD0, hN, hZ⟩ := hv
  have hx := B.exec
  have hb := B.bytes
  have hr := B.returns
  have hlocks := B.notSynchronized
  have hts : ∀ w ∈ bw, w.before _ s = true := fun w h => atoms_spec (ws := Cond.code y_Mo_end b_Mo_end 2 (some .int) :: bw) B.pre w (List.mem_cons_of_mem _ h)
  have hown : s.vm.findClass "ObjectForgeModel" = some m.cls := findClass_of_methodNamed B.named
  subst hsz
  have hP0 := hP
  have hD := hD0.self (sz := s.heap.size)
  generalize hAe : va_A [(h0, .inr (7, [.int 0, .int 0, .int 0, .int 0, .int 0, .int 0, .int (-1), .int (-1), .int 0, .int 0, .int 0, .int 0, .int 0, .int 0, .int 0, .int 0, .ref (qa 0), .ref (qa 1), .ref (qa 2), .ref (qa 3), .int 0, .ref (qa 4), .ref (qa 5), .ref (qa 6), .ref (qa 7), .ref (qa 8), .ref (qa 9), .ref (qa 10), .ref (qa 11), .ref (qa 12), .ref (qa 13), .ref (qa 14), .ref (qa 15), .ref (qa 16), .ref (qa 17), .ref (qa 18), .ref (qa 19), .ref (qa 20), .int 0, .int 0, .int 0, .int 0, .long 0, .long 0, .long 0, .long 0, .long 0, .ref (qa 21), .int 0, .int 0, .int 0, .int 0]))] s.heap.size = A at hD hZ ⊢
  have hA : ∀ q : Nat, s.heap.size ≤ q → A q := fun q h => by rw [← hAe]; exact Or.inr h
  have hS : va_S A s.heap s.heap [] := va_S.rf
  have hl := lv_entry ([.ref h0, .int p0]) (n := 2) (Nat.le_of_ble_eq_true rfl)
  rw [lg_entry_eq]
  generalize (lg_sl ([.ref h0, .int p0]) ++ List.replicate (2 - (lg_sl ([.ref h0, .int p0])).length) Slot.unset).toArray = ls at hl ⊢
  have hl : lv_has ls 2 [(0, .ref h0), (1, .int p0)] := hl
  refine lv_aload_n hx hb d_Mo_end_0 rfl (lv_at hl 0 rfl) ?_
  refine lv_iconst (v := 0) hx hb d_Mo_end_1 (by decide) ?_
  refine va_put (D := D) (ci := 7) (v := .int 0) (ty := .int) (C := R_Mo) (T := F_Mo) (N := 52) hx hb hts i_Mo t_Mo t_Mo_ok n_Mo hown hK hP hD hS 0 rfl rfl 0 (by decide) (hts _ w_397) (fun _ h9 => h9) rfl (by decide +kernel) rfl rfl (Nat.le_of_ble_eq_true rfl) d_Mo_end_2 (fun H locs hP hD hS => ?_)
  have hP : va_P D cls [(h0, .inr (7, [.int 0, .int 0, .int 0, .int 0, .int 0, .int 0, .int (-1), .int (-1), .int 0, .int 0, .int 0, .int 0, .int 0, .int 0, .int 0, .int 0, .ref (qa 0), .ref (qa 1), .ref (qa 2), .ref (qa 3), .int 0, .ref (qa 4), .ref (qa 5), .ref (qa 6), .ref (qa 7), .ref (qa 8), .ref (qa 9), .ref (qa 10), .ref (qa 11), .ref (qa 12), .ref (qa 13), .ref (qa 14), .ref (qa 15), .ref (qa 16), .ref (qa 17), .ref (qa 18), .ref (qa 19), .ref (qa 20), .int 0, .int 0, .int 0, .int 0, .long 0, .long 0, .long 0, .long 0, .long 0, .ref (qa 21), .int 0, .int 0, .int 0, .int 0]))] H := hP
  have hD : va_D A [(h0, .inr (7, [.int 0, .int 0, .int 0, .int 0, .int 0, .int 0, .int (-1), .int (-1), .int 0, .int 0, .int 0, .int 0, .int 0, .int 0, .int 0, .int 0, .ref (qa 0), .ref (qa 1), .ref (qa 2), .ref (qa 3), .int 0, .ref (qa 4), .ref (qa 5), .ref (qa 6), .ref (qa 7), .ref (qa 8), .ref (qa 9), .ref (qa 10), .ref (qa 11), .ref (qa 12), .ref (qa 13), .ref (qa 14), .ref (qa 15), .ref (qa 16), .ref (qa 17), .ref (qa 18), .ref (qa 19), .ref (qa 20), .int 0, .int 0, .int 0, .int 0, .long 0, .long 0, .long 0, .long 0, .long 0, .ref (qa 21), .int 0, .int 0, .int 0, .int 0]))] := hD
  refine lv_iload_n hx hb d_Mo_end_5 rfl (lv_at hl 1 rfl) ?_
  refine lv_if_lt (tgt := 23) hx hb d_Mo_end_6 (by decide) (fun q9 => absurd q9 h1) (fun _ => ?_)
  refine lv_iload_n hx hb d_Mo_end_9 rfl (lv_at hl 1 rfl) ?_
  refine lv_bipush (v := 15) hx hb d_Mo_end_10 (by decide) ?_
  refine lv_icmp_gt (tgt := 23) hx hb d_Mo_end_12 (by decide) (fun q9 => absurd q9 h2) (fun _ => ?_)
  refine lv_iload_n hx hb d_Mo_end_15 rfl (lv_at hl 1 rfl) ?_
  refine lv_aload_n hx hb d_Mo_end_16 rfl (lv_at hl 0 rfl) ?_
  refine va_get (D := D) (ci := 7) (v := .int 0) (C := R_Mo) (T := F_Mo) (N := 52) hx hb hts i_Mo hown hK hP 0 rfl rfl 1 (by decide) (hts _ w_398) (fun _ h9 => h9) rfl d_Mo_end_17 ?_
  refine lv_icmp_le (tgt := 29) hx hb d_Mo_end_20 (by decide) (fun q9 => absurd q9 h3) (fun _ => ?_)
  refine lv_aload_n hx hb d_Mo_end_23 rfl (lv_at hl 0 rfl) ?_
  refine lv_iconst (v := 1) hx hb d_Mo_end_24 (by decide) ?_
  refine xc_V (As := [.int 1]) (rest := []) (n := 1) (wc := [(h0, .inr (7, [.int 0, .int 0, .int 0, .int 0, .int 0, .int 0, .int (-1), .int (-1), .int 0, .int 0, .int 0, .int 0, .int 0, .int 0, .int 0, .int 0, .ref (qa 0), .ref (qa 1), .ref (qa 2), .ref (qa 3), .int 0, .ref (qa 4), .ref (qa 5), .ref (qa 6), .ref (qa 7), .ref (qa 8), .ref (qa 9), .ref (qa 10), .ref (qa 11), .ref (qa 12), .ref (qa 13), .ref (qa 14), .ref (qa 15), .ref (qa 16), .ref (qa 17), .ref (qa 18), .ref (qa 19), .ref (qa 20), .int 0, .int 0, .int 0, .int 0, .long 0, .long 0, .long 0, .long 0, .long 0, .ref (qa 21), .int 0, .int 0, .int 0, .int 0]))]) (wr := []) (tc := []) (tr := []) ⟨hx, hb, hml, hown, hts⟩ (c_Mo_refuse_1 l D h0 qa H.size) rfl rfl w_452 w_450 w_451 w_557 w_8 (by decide +kernel) ⟨Nat.le_of_ble_eq_true rfl, Nat.le_of_ble_eq_true rfl⟩ hP hD hK hS hA hN hZ [0] [] rfl rfl (by decide) (by decide) (by decide) [] [] rfl rfl (ci := 7) (q0 := 0) (q := (R_Mo, F_Mo, 52)) rfl rfl rfl rfl hl.1 rfl (Nat.le_of_ble_eq_true rfl) d_Mo_end_25 ⟨Nat.le_of_ble_eq_true rfl, Nat.le_of_ble_eq_true rfl⟩ (fun u1 H locs hP hD hK hS => ?_)
  have hP : va_P D cls [(h0, .inr (7, [.int 1, .int 0, .int 0, .int 0, .int 0, .int 0, .int (-1), .int (-1), .int 0, .int 0, .int 0, .int 0, .int 0, .int 0, .int 0, .int 0, .ref (qa 0), .ref (qa 1), .ref (qa 2), .ref (qa 3), .int 0, .ref (qa 4), .ref (qa 5), .ref (qa 6), .ref (qa 7), .ref (qa 8), .ref (qa 9), .ref (qa 10), .ref (qa 11), .ref (qa 12), .ref (qa 13), .ref (qa 14), .ref (qa 15), .ref (qa 16), .ref (qa 17), .ref (qa 18), .ref (qa 19), .ref (qa 20), .int 0, .int 0, .int 0, .int 0, .long 0, .long 0, .long 0, .long 0, .long 0, .ref (qa 21), .int 0, .int 0, .int 0, .int 0]))] H := hP
  have hD : va_D A [(h0, .inr (7, [.int 1, .int 0, .int 0, .int 0, .int 0, .int 0, .int (-1), .int (-1), .int 0, .int 0, .int 0, .int 0, .int 0, .int 0, .int 0, .int 0, .ref (qa 0), .ref (qa 1), .ref (qa 2), .ref (qa 3), .int 0, .ref (qa 4), .ref (qa 5), .ref (qa 6), .ref (qa 7), .ref (qa 8), .ref (qa 9), .ref (qa 10), .ref (qa 11), .ref (qa 12), .ref (qa 13), .ref (qa 14), .ref (qa 15), .ref (qa 16), .ref (qa 17), .ref (qa 18), .ref (qa 19), .ref (qa 20), .int 0, .int 0, .int 0, .int 0, .long 0, .long 0, .long 0, .long 0, .long 0, .ref (qa 21), .int 0, .int 0, .int 0, .int 0]))] := hD
  have hK : va_K D cls [] s := hK
  refine W.eq (g2 := F0 m 28 ls [.int 0]) rfl ?_
  exact xr_i hx hb hr hlocks hP hD hK hS (()) [0] rfl rfl (by decide) [] rfl rfl d_Mo_end_28

theorem d_Mo_fault_0 : decode b_Mo_fault 0 = .ok (.aload_n 0, 1) := by decide +kernel
theorem d_Mo_fault_1 : decode b_Mo_fault 1 = .ok (.iconst 0, 1) := by decide +kernel
theorem d_Mo_fault_2 : decode b_Mo_fault 2 = .ok (.putfield 88, 3) := by decide +kernel
theorem d_Mo_fault_5 : decode b_Mo_fault 5 = .ok (.iload_n 1, 1) := by decide +kernel
theorem d_Mo_fault_6 : decode b_Mo_fault 6 = .ok (.ifCond .lt 8, 3) := by decide +kernel
theorem d_Mo_fault_9 : decode b_Mo_fault 9 = .ok (.iload_n 1, 1) := by decide +kernel
theorem d_Mo_fault_10 : decode b_Mo_fault 10 = .ok (.iconst 4, 1) := by decide +kernel
theorem d_Mo_fault_11 : decode b_Mo_fault 11 = .ok (.if_icmp .le 9, 3) := by decide +kernel
theorem d_Mo_fault_20 : decode b_Mo_fault 20 = .ok (.iload_n 1, 1) := by decide +kernel
theorem d_Mo_fault_21 : decode b_Mo_fault 21 = .ok (.ifCond .ne 10, 3) := by decide +kernel
theorem d_Mo_fault_24 : decode b_Mo_fault 24 = .ok (.aload_n 0, 1) := by decide +kernel
theorem d_Mo_fault_25 : decode b_Mo_fault 25 = .ok (.getfield 982, 3) := by decide +kernel
theorem d_Mo_fault_28 : decode b_Mo_fault 28 = .ok (.goto 43, 3) := by decide +kernel
theorem d_Mo_fault_71 : decode b_Mo_fault 71 = .ok (.ireturn, 1) := by decide +kernel
set_option maxHeartbeats 4000000 in
set_option maxRecDepth 100000 in
theorem c_Mo_fault_0 (l : Launch) (D : va_G) (h0 : Nat) (qa : Nat → Nat) (sz : Nat) : Met l y_Mo_fault (Cond.code y_Mo_fault b_Mo_fault 2 (some .int) :: bw) (xR 1 0 0) (va_Pc [.ref h0, .int 0] (xP D [] sz [(h0, .inr (7, [.int 0, .int 0, .int 0, .int 0, .int 0, .int 0, .int (-1), .int (-1), .int 0, .int 0, .int 0, .int 0, .int 0, .int 0, .int 0, .int 0, .ref (qa 0), .ref (qa 1), .ref (qa 2), .ref (qa 3), .int 0, .ref (qa 4), .ref (qa 5), .ref (qa 6), .ref (qa 7), .ref (qa 8), .ref (qa 9), .ref (qa 10), .ref (qa 11), .ref (qa 12), .ref (qa 13), .ref (qa 14), .ref (qa 15), .ref (qa 16), .ref (qa 17), .ref (qa 18), .ref (qa 19), .ref (qa 20), .int 0, .int 0, .int 0, .int 0, .long 0, .long 0, .long 0, .long 0, .long 0, .ref (qa 21), .int 0, .int 0, .int 0, .int 0]))])) (xQ (S := Unit) (fun _ => some (.int 0)) (fun _ => [(h0, .inr (7, [.int 0, .int 0, .int 0, .int 0, .int 0, .int 0, .int (-1), .int (-1), .int 0, .int 0, .int 0, .int 0, .int 0, .int 0, .int 0, .int 0, .ref (qa 0), .ref (qa 1), .ref (qa 2), .ref (qa 3), .int 0, .ref (qa 4), .ref (qa 5), .ref (qa 6), .ref (qa 7), .ref (qa 8), .ref (qa 9), .ref (qa 10), .ref (qa 11), .ref (qa 12), .ref (qa 13), .ref (qa 14), .ref (qa 15), .ref (qa 16), .ref (qa 17), .ref (qa 18), .ref (qa 19), .ref (qa 20), .int 0, .int 0, .int 0, .int 0, .long 0, .long 0, .long 0, .long 0, .long 0, .ref (qa 21), .int 0, .int 0, .int 0, .int 0]))]) (fun _ => []) D (va_A [(h0, .inr (7, [.int 0, .int 0, .int 0, .int 0, .int 0, .int 0, .int (-1), .int (-1), .int 0, .int 0, .int 0, .int 0, .int 0, .int 0, .int 0, .int 0, .ref (qa 0), .ref (qa 1), .ref (qa 2), .ref (qa 3), .int 0, .ref (qa 4), .ref (qa 5), .ref (qa 6), .ref (qa 7), .ref (qa 8), .ref (qa 9), .ref (qa 10), .ref (qa 11), .ref (qa 12), .ref (qa 13), .ref (qa 14), .ref (qa 15), .ref (qa 16), .ref (qa 17), .ref (qa 18), .ref (qa 19), .ref (qa 20), .int 0, .int 0, .int 0, .int 0, .long 0, .long 0, .long 0, .long 0, .long 0, .ref (qa 21), .int 0, .int 0, .int 0, .int 0]))] sz)) 0 0 (va_A [(h0, .inr (7, [.int 0, .int 0, .int 0, .int 0, .int 0, .int 0, .int (-1), .int (-1), .int 0, .int 0, .int 0, .int 0, .int 0, .int 0, .int 0, .int 0, .ref (qa 0), .ref (qa 1), .ref (qa 2), .ref (qa 3), .int 0, .ref (qa 4), .ref (qa 5), .ref (qa 6), .ref (qa 7), .ref (qa 8), .ref (qa 9), .ref (qa 10), .ref (qa 11), .ref (qa 12), .ref (qa 13), .ref (qa 14), .ref (qa 15), .ref (qa 16), .ref (qa 17), .ref (qa 18), .ref (qa 19), .ref (qa 20), .int 0, .int 0, .int 0, .int 0, .long 0, .long 0, .long 0, .long 0, .long 0, .ref (qa 21), .int 0, .int 0, .int 0, .int 0]))] sz) := by
  refine Met.ofW (cc := b_Mo_fault) (maxL := 2) (ret := (some .int)) (by decide) rfl ?_
  intro p e s m args below meth c s₁ B hml hv
  obtain ⟨rfl, hsz, hP, hK, hD0, hN, hZ⟩ := hv
  have hx := B.exec
  have hb := B.bytes
  have hr := B.returns
  have hlocks := B.notSynchronized
  have hts : ∀ w ∈ bw, w.before _ s = true := fun w h => atoms_spec (ws := Cond.code y_Mo_fault b_Mo_fault 2 (some .int) :: bw) B.pre w (List.mem_cons_of_mem _ h)
  have hown : s.vm.findClass "ObjectForgeModel" = some m.cls := findClass_of_methodNamed B.named
  subst hsz
  have hP0 := hP
  have hD := hD0.self (sz := s.heap.size)
  generalize hAe : va_A [(h0, .inr (7, [.int 0, .int 0, .int 0, .int 0, .int 0, .int 0, .int (-1), .int (-1), .int 0, .int 0, .int 0, .int 0, .int 0, .int 0, .int 0, .int 0, .ref (qa 0), .ref (qa 1), .ref (qa 2), .ref (qa 3), .int 0, .ref (qa 4), .ref (qa 5), .ref (qa 6), .ref (qa 7), .ref (qa 8), .ref (qa 9), .ref (qa 10), .ref (qa 11), .ref (qa 12), .ref (qa 13), .ref (qa 14), .ref (qa 15), .ref (qa 16), .ref (qa 17), .ref (qa 18), .ref (qa 19), .ref (qa 20), .int 0, .int 0, .int 0, .int 0, .long 0, .long 0, .long 0, .long 0, .long 0, .ref (qa 21), .int 0, .int 0, .int 0, .int 0]))] s.heap.size = A at hD hZ ⊢
  have hA : ∀ q : Nat, s.heap.size ≤ q → A q := fun q h => by rw [← hAe]; exact Or.inr h
  have hS : va_S A s.heap s.heap [] := va_S.rf
  have hl := lv_entry ([.ref h0, .int 0]) (n := 2) (Nat.le_of_ble_eq_true rfl)
  rw [lg_entry_eq]
  generalize (lg_sl ([.ref h0, .int 0]) ++ List.replicate (2 - (lg_sl ([.ref h0, .int 0])).length) Slot.unset).toArray = ls at hl ⊢
  have hl : lv_has ls 2 [(0, .ref h0), (1, .int 0)] := hl
  refine lv_aload_n hx hb d_Mo_fault_0 rfl (lv_at hl 0 rfl) ?_
  refine lv_iconst (v := 0) hx hb d_Mo_fault_1 (by decide) ?_
  refine va_put (D := D) (ci := 7) (v := .int 0) (ty := .int) (C := R_Mo) (T := F_Mo) (N := 52) hx hb hts i_Mo t_Mo t_Mo_ok n_Mo hown hK hP hD hS 0 rfl rfl 0 (by decide) (hts _ w_397) (fun _ h9 => h9) rfl (by decide +kernel) rfl rfl (Nat.le_of_ble_eq_true rfl) d_Mo_fault_2 (fun H locs hP hD hS => ?_)
  have hP : va_P D cls [(h0, .inr (7, [.int 0, .int 0, .int 0, .int 0, .int 0, .int 0, .int (-1), .int (-1), .int 0, .int 0, .int 0, .int 0, .int 0, .int 0, .int 0, .int 0, .ref (qa 0), .ref (qa 1), .ref (qa 2), .ref (qa 3), .int 0, .ref (qa 4), .ref (qa 5), .ref (qa 6), .ref (qa 7), .ref (qa 8), .ref (qa 9), .ref (qa 10), .ref (qa 11), .ref (qa 12), .ref (qa 13), .ref (qa 14), .ref (qa 15), .ref (qa 16), .ref (qa 17), .ref (qa 18), .ref (qa 19), .ref (qa 20), .int 0, .int 0, .int 0, .int 0, .long 0, .long 0, .long 0, .long 0, .long 0, .ref (qa 21), .int 0, .int 0, .int 0, .int 0]))] H := hP
  have hD : va_D A [(h0, .inr (7, [.int 0, .int 0, .int 0, .int 0, .int 0, .int 0, .int (-1), .int (-1), .int 0, .int 0, .int 0, .int 0, .int 0, .int 0, .int 0, .int 0, .ref (qa 0), .ref (qa 1), .ref (qa 2), .ref (qa 3), .int 0, .ref (qa 4), .ref (qa 5), .ref (qa 6), .ref (qa 7), .ref (qa 8), .ref (qa 9), .ref (qa 10), .ref (qa 11), .ref (qa 12), .ref (qa 13), .ref (qa 14), .ref (qa 15), .ref (qa 16), .ref (qa 17), .ref (qa 18), .ref (qa 19), .ref (qa 20), .int 0, .int 0, .int 0, .int 0, .long 0, .long 0, .long 0, .long 0, .long 0, .ref (qa 21), .int 0, .int 0, .int 0, .int 0]))] := hD
  refine lv_iload_n hx hb d_Mo_fault_5 rfl (lv_at hl 1 rfl) ?_
  refine lv_if_lt (tgt := 14) hx hb d_Mo_fault_6 (by decide) (fun q9 => absurd q9 (by decide : ¬ ((0 : Int32) < 0))) (fun _ => ?_)
  refine lv_iload_n hx hb d_Mo_fault_9 rfl (lv_at hl 1 rfl) ?_
  refine lv_iconst (v := 4) hx hb d_Mo_fault_10 (by decide) ?_
  refine lv_icmp_le (tgt := 20) hx hb d_Mo_fault_11 (by decide) (fun _ => ?_) (fun q9 => absurd (by decide : ((0 : Int32) ≤ 4)) q9)
  refine lv_iload_n hx hb d_Mo_fault_20 rfl (lv_at hl 1 rfl) ?_
  refine lv_if_ne (tgt := 31) hx hb d_Mo_fault_21 (by decide) (fun q9 => absurd (by decide : ((0 : Int32) = 0)) q9) (fun _ => ?_)
  refine lv_aload_n hx hb d_Mo_fault_24 rfl (lv_at hl 0 rfl) ?_
  refine va_get (D := D) (ci := 7) (v := .int 0) (C := R_Mo) (T := F_Mo) (N := 52) hx hb hts i_Mo hown hK hP 0 rfl rfl 3 (by decide) (hts _ w_419) (fun _ h9 => h9) rfl d_Mo_fault_25 ?_
  refine lv_goto (tgt := 71) hx hb d_Mo_fault_28 (by decide) ?_
  exact xr_i hx hb hr hlocks hP hD hK hS (()) [0] rfl rfl (by decide) [] rfl rfl d_Mo_fault_71

theorem d_Mo_fault_31 : decode b_Mo_fault 31 = .ok (.iload_n 1, 1) := by decide +kernel
theorem d_Mo_fault_32 : decode b_Mo_fault 32 = .ok (.iconst 1, 1) := by decide +kernel
theorem d_Mo_fault_33 : decode b_Mo_fault 33 = .ok (.if_icmp .ne 10, 3) := by decide +kernel
theorem d_Mo_fault_36 : decode b_Mo_fault 36 = .ok (.aload_n 0, 1) := by decide +kernel
theorem d_Mo_fault_37 : decode b_Mo_fault 37 = .ok (.getfield 1175, 3) := by decide +kernel
theorem d_Mo_fault_40 : decode b_Mo_fault 40 = .ok (.goto 31, 3) := by decide +kernel
set_option maxHeartbeats 4000000 in
set_option maxRecDepth 100000 in
theorem c_Mo_fault_1 (l : Launch) (D : va_G) (h0 : Nat) (qa : Nat → Nat) (sz : Nat) : Met l y_Mo_fault (Cond.code y_Mo_fault b_Mo_fault 2 (some .int) :: bw) (xR 1 0 0) (va_Pc [.ref h0, .int 1] (xP D [] sz [(h0, .inr (7, [.int 0, .int 0, .int 0, .int 0, .int 0, .int 0, .int (-1), .int (-1), .int 0, .int 0, .int 0, .int 0, .int 0, .int 0, .int 0, .int 0, .ref (qa 0), .ref (qa 1), .ref (qa 2), .ref (qa 3), .int 0, .ref (qa 4), .ref (qa 5), .ref (qa 6), .ref (qa 7), .ref (qa 8), .ref (qa 9), .ref (qa 10), .ref (qa 11), .ref (qa 12), .ref (qa 13), .ref (qa 14), .ref (qa 15), .ref (qa 16), .ref (qa 17), .ref (qa 18), .ref (qa 19), .ref (qa 20), .int 0, .int 0, .int 0, .int 0, .long 0, .long 0, .long 0, .long 0, .long 0, .ref (qa 21), .int 0, .int 0, .int 0, .int 0]))])) (xQ (S := Unit) (fun _ => some (.int 0)) (fun _ => [(h0, .inr (7, [.int 0, .int 0, .int 0, .int 0, .int 0, .int 0, .int (-1), .int (-1), .int 0, .int 0, .int 0, .int 0, .int 0, .int 0, .int 0, .int 0, .ref (qa 0), .ref (qa 1), .ref (qa 2), .ref (qa 3), .int 0, .ref (qa 4), .ref (qa 5), .ref (qa 6), .ref (qa 7), .ref (qa 8), .ref (qa 9), .ref (qa 10), .ref (qa 11), .ref (qa 12), .ref (qa 13), .ref (qa 14), .ref (qa 15), .ref (qa 16), .ref (qa 17), .ref (qa 18), .ref (qa 19), .ref (qa 20), .int 0, .int 0, .int 0, .int 0, .long 0, .long 0, .long 0, .long 0, .long 0, .ref (qa 21), .int 0, .int 0, .int 0, .int 0]))]) (fun _ => []) D (va_A [(h0, .inr (7, [.int 0, .int 0, .int 0, .int 0, .int 0, .int 0, .int (-1), .int (-1), .int 0, .int 0, .int 0, .int 0, .int 0, .int 0, .int 0, .int 0, .ref (qa 0), .ref (qa 1), .ref (qa 2), .ref (qa 3), .int 0, .ref (qa 4), .ref (qa 5), .ref (qa 6), .ref (qa 7), .ref (qa 8), .ref (qa 9), .ref (qa 10), .ref (qa 11), .ref (qa 12), .ref (qa 13), .ref (qa 14), .ref (qa 15), .ref (qa 16), .ref (qa 17), .ref (qa 18), .ref (qa 19), .ref (qa 20), .int 0, .int 0, .int 0, .int 0, .long 0, .long 0, .long 0, .long 0, .long 0, .ref (qa 21), .int 0, .int 0, .int 0, .int 0]))] sz)) 0 0 (va_A [(h0, .inr (7, [.int 0, .int 0, .int 0, .int 0, .int 0, .int 0, .int (-1), .int (-1), .int 0, .int 0, .int 0, .int 0, .int 0, .int 0, .int 0, .int 0, .ref (qa 0), .ref (qa 1), .ref (qa 2), .ref (qa 3), .int 0, .ref (qa 4), .ref (qa 5), .ref (qa 6), .ref (qa 7), .ref (qa 8), .ref (qa 9), .ref (qa 10), .ref (qa 11), .ref (qa 12), .ref (qa 13), .ref (qa 14), .ref (qa 15), .ref (qa 16), .ref (qa 17), .ref (qa 18), .ref (qa 19), .ref (qa 20), .int 0, .int 0, .int 0, .int 0, .long 0, .long 0, .long 0, .long 0, .long 0, .ref (qa 21), .int 0, .int 0, .int 0, .int 0]))] sz) := by
  refine Met.ofW (cc := b_Mo_fault) (maxL := 2) (ret := (some .int)) (by decide) rfl ?_
  intro p e s m args below meth c s₁ B hml hv
  obtain ⟨rfl, hsz, hP, hK, hD0, hN, hZ⟩ := hv
  have hx := B.exec
  have hb := B.bytes
  have hr := B.returns
  have hlocks := B.notSynchronized
  have hts : ∀ w ∈ bw, w.before _ s = true := fun w h => atoms_spec (ws := Cond.code y_Mo_fault b_Mo_fault 2 (some .int) :: bw) B.pre w (List.mem_cons_of_mem _ h)
  have hown : s.vm.findClass "ObjectForgeModel" = some m.cls := findClass_of_methodNamed B.named
  subst hsz
  have hP0 := hP
  have hD := hD0.self (sz := s.heap.size)
  generalize hAe : va_A [(h0, .inr (7, [.int 0, .int 0, .int 0, .int 0, .int 0, .int 0, .int (-1), .int (-1), .int 0, .int 0, .int 0, .int 0, .int 0, .int 0, .int 0, .int 0, .ref (qa 0), .ref (qa 1), .ref (qa 2), .ref (qa 3), .int 0, .ref (qa 4), .ref (qa 5), .ref (qa 6), .ref (qa 7), .ref (qa 8), .ref (qa 9), .ref (qa 10), .ref (qa 11), .ref (qa 12), .ref (qa 13), .ref (qa 14), .ref (qa 15), .ref (qa 16), .ref (qa 17), .ref (qa 18), .ref (qa 19), .ref (qa 20), .int 0, .int 0, .int 0, .int 0, .long 0, .long 0, .long 0, .long 0, .long 0, .ref (qa 21), .int 0, .int 0, .int 0, .int 0]))] s.heap.size = A at hD hZ ⊢
  have hA : ∀ q : Nat, s.heap.size ≤ q → A q := fun q h => by rw [← hAe]; exact Or.inr h
  have hS : va_S A s.heap s.heap [] := va_S.rf
  have hl := lv_entry ([.ref h0, .int 1]) (n := 2) (Nat.le_of_ble_eq_true rfl)
  rw [lg_entry_eq]
  generalize (lg_sl ([.ref h0, .int 1]) ++ List.replicate (2 - (lg_sl ([.ref h0, .int 1])).length) Slot.unset).toArray = ls at hl ⊢
  have hl : lv_has ls 2 [(0, .ref h0), (1, .int 1)] := hl
  refine lv_aload_n hx hb d_Mo_fault_0 rfl (lv_at hl 0 rfl) ?_
  refine lv_iconst (v := 0) hx hb d_Mo_fault_1 (by decide) ?_
  refine va_put (D := D) (ci := 7) (v := .int 0) (ty := .int) (C := R_Mo) (T := F_Mo) (N := 52) hx hb hts i_Mo t_Mo t_Mo_ok n_Mo hown hK hP hD hS 0 rfl rfl 0 (by decide) (hts _ w_397) (fun _ h9 => h9) rfl (by decide +kernel) rfl rfl (Nat.le_of_ble_eq_true rfl) d_Mo_fault_2 (fun H locs hP hD hS => ?_)
  have hP : va_P D cls [(h0, .inr (7, [.int 0, .int 0, .int 0, .int 0, .int 0, .int 0, .int (-1), .int (-1), .int 0, .int 0, .int 0, .int 0, .int 0, .int 0, .int 0, .int 0, .ref (qa 0), .ref (qa 1), .ref (qa 2), .ref (qa 3), .int 0, .ref (qa 4), .ref (qa 5), .ref (qa 6), .ref (qa 7), .ref (qa 8), .ref (qa 9), .ref (qa 10), .ref (qa 11), .ref (qa 12), .ref (qa 13), .ref (qa 14), .ref (qa 15), .ref (qa 16), .ref (qa 17), .ref (qa 18), .ref (qa 19), .ref (qa 20), .int 0, .int 0, .int 0, .int 0, .long 0, .long 0, .long 0, .long 0, .long 0, .ref (qa 21), .int 0, .int 0, .int 0, .int 0]))] H := hP
  have hD : va_D A [(h0, .inr (7, [.int 0, .int 0, .int 0, .int 0, .int 0, .int 0, .int (-1), .int (-1), .int 0, .int 0, .int 0, .int 0, .int 0, .int 0, .int 0, .int 0, .ref (qa 0), .ref (qa 1), .ref (qa 2), .ref (qa 3), .int 0, .ref (qa 4), .ref (qa 5), .ref (qa 6), .ref (qa 7), .ref (qa 8), .ref (qa 9), .ref (qa 10), .ref (qa 11), .ref (qa 12), .ref (qa 13), .ref (qa 14), .ref (qa 15), .ref (qa 16), .ref (qa 17), .ref (qa 18), .ref (qa 19), .ref (qa 20), .int 0, .int 0, .int 0, .int 0, .long 0, .long 0, .long 0, .long 0, .long 0, .ref (qa 21), .int 0, .int 0, .int 0, .int 0]))] := hD
  refine lv_iload_n hx hb d_Mo_fault_5 rfl (lv_at hl 1 rfl) ?_
  refine lv_if_lt (tgt := 14) hx hb d_Mo_fault_6 (by decide) (fun q9 => absurd q9 (by decide : ¬ ((1 : Int32) < 0))) (fun _ => ?_)
  refine lv_iload_n hx hb d_Mo_fault_9 rfl (lv_at hl 1 rfl) ?_
  refine lv_iconst (v := 4) hx hb d_Mo_fault_10 (by decide) ?_
  refine lv_icmp_le (tgt := 20) hx hb d_Mo_fault_11 (by decide) (fun _ => ?_) (fun q9 => absurd (by decide : ((1 : Int32) ≤ 4)) q9)
  refine lv_iload_n hx hb d_Mo_fault_20 rfl (lv_at hl 1 rfl) ?_
  refine lv_if_ne (tgt := 31) hx hb d_Mo_fault_21 (by decide) (fun _ => ?_) (fun q9 => absurd q9 (by decide : ¬ ((1 : Int32) = 0)))
  refine lv_iload_n hx hb d_Mo_fault_31 rfl (lv_at hl 1 rfl) ?_
  refine lv_iconst (v := 1) hx hb d_Mo_fault_32 (by decide) ?_
  refine lv_icmp_ne (tgt := 43) hx hb d_Mo_fault_33 (by decide) (fun q9 => absurd (by decide : ((1 : Int32) = 1)) q9) (fun _ => ?_)
  refine lv_aload_n hx hb d_Mo_fault_36 rfl (lv_at hl 0 rfl) ?_
  refine va_get (D := D) (ci := 7) (v := .int 0) (C := R_Mo) (T := F_Mo) (N := 52) hx hb hts i_Mo hown hK hP 0 rfl rfl 4 (by decide) (hts _ w_420) (fun _ h9 => h9) rfl d_Mo_fault_37 ?_
  refine lv_goto (tgt := 71) hx hb d_Mo_fault_40 (by decide) ?_
  exact xr_i hx hb hr hlocks hP hD hK hS (()) [0] rfl rfl (by decide) [] rfl rfl d_Mo_fault_71

theorem d_Mo_fault_43 : decode b_Mo_fault 43 = .ok (.iload_n 1, 1) := by decide +kernel
theorem d_Mo_fault_44 : decode b_Mo_fault 44 = .ok (.iconst 2, 1) := by decide +kernel
theorem d_Mo_fault_45 : decode b_Mo_fault 45 = .ok (.if_icmp .ne 10, 3) := by decide +kernel
theorem d_Mo_fault_48 : decode b_Mo_fault 48 = .ok (.aload_n 0, 1) := by decide +kernel
theorem d_Mo_fault_49 : decode b_Mo_fault 49 = .ok (.getfield 1178, 3) := by decide +kernel
theorem d_Mo_fault_52 : decode b_Mo_fault 52 = .ok (.goto 19, 3) := by decide +kernel
set_option maxHeartbeats 4000000 in
set_option maxRecDepth 100000 in
theorem c_Mo_fault_2 (l : Launch) (D : va_G) (h0 : Nat) (qa : Nat → Nat) (sz : Nat) : Met l y_Mo_fault (Cond.code y_Mo_fault b_Mo_fault 2 (some .int) :: bw) (xR 1 0 0) (va_Pc [.ref h0, .int 2] (xP D [] sz [(h0, .inr (7, [.int 0, .int 0, .int 0, .int 0, .int 0, .int 0, .int (-1), .int (-1), .int 0, .int 0, .int 0, .int 0, .int 0, .int 0, .int 0, .int 0, .ref (qa 0), .ref (qa 1), .ref (qa 2), .ref (qa 3), .int 0, .ref (qa 4), .ref (qa 5), .ref (qa 6), .ref (qa 7), .ref (qa 8), .ref (qa 9), .ref (qa 10), .ref (qa 11), .ref (qa 12), .ref (qa 13), .ref (qa 14), .ref (qa 15), .ref (qa 16), .ref (qa 17), .ref (qa 18), .ref (qa 19), .ref (qa 20), .int 0, .int 0, .int 0, .int 0, .long 0, .long 0, .long 0, .long 0, .long 0, .ref (qa 21), .int 0, .int 0, .int 0, .int 0]))])) (xQ (S := Unit) (fun _ => some (.int 0)) (fun _ => [(h0, .inr (7, [.int 0, .int 0, .int 0, .int 0, .int 0, .int 0, .int (-1), .int (-1), .int 0, .int 0, .int 0, .int 0, .int 0, .int 0, .int 0, .int 0, .ref (qa 0), .ref (qa 1), .ref (qa 2), .ref (qa 3), .int 0, .ref (qa 4), .ref (qa 5), .ref (qa 6), .ref (qa 7), .ref (qa 8), .ref (qa 9), .ref (qa 10), .ref (qa 11), .ref (qa 12), .ref (qa 13), .ref (qa 14), .ref (qa 15), .ref (qa 16), .ref (qa 17), .ref (qa 18), .ref (qa 19), .ref (qa 20), .int 0, .int 0, .int 0, .int 0, .long 0, .long 0, .long 0, .long 0, .long 0, .ref (qa 21), .int 0, .int 0, .int 0, .int 0]))]) (fun _ => []) D (va_A [(h0, .inr (7, [.int 0, .int 0, .int 0, .int 0, .int 0, .int 0, .int (-1), .int (-1), .int 0, .int 0, .int 0, .int 0, .int 0, .int 0, .int 0, .int 0, .ref (qa 0), .ref (qa 1), .ref (qa 2), .ref (qa 3), .int 0, .ref (qa 4), .ref (qa 5), .ref (qa 6), .ref (qa 7), .ref (qa 8), .ref (qa 9), .ref (qa 10), .ref (qa 11), .ref (qa 12), .ref (qa 13), .ref (qa 14), .ref (qa 15), .ref (qa 16), .ref (qa 17), .ref (qa 18), .ref (qa 19), .ref (qa 20), .int 0, .int 0, .int 0, .int 0, .long 0, .long 0, .long 0, .long 0, .long 0, .ref (qa 21), .int 0, .int 0, .int 0, .int 0]))] sz)) 0 0 (va_A [(h0, .inr (7, [.int 0, .int 0, .int 0, .int 0, .int 0, .int 0, .int (-1), .int (-1), .int 0, .int 0, .int 0, .int 0, .int 0, .int 0, .int 0, .int 0, .ref (qa 0), .ref (qa 1), .ref (qa 2), .ref (qa 3), .int 0, .ref (qa 4), .ref (qa 5), .ref (qa 6), .ref (qa 7), .ref (qa 8), .ref (qa 9), .ref (qa 10), .ref (qa 11), .ref (qa 12), .ref (qa 13), .ref (qa 14), .ref (qa 15), .ref (qa 16), .ref (qa 17), .ref (qa 18), .ref (qa 19), .ref (qa 20), .int 0, .int 0, .int 0, .int 0, .long 0, .long 0, .long 0, .long 0, .long 0, .ref (qa 21), .int 0, .int 0, .int 0, .int 0]))] sz) := by
  refine Met.ofW (cc := b_Mo_fault) (maxL := 2) (ret := (some .int)) (by decide) rfl ?_
  intro p e s m args below meth c s₁ B hml hv
  obtain ⟨rfl, hsz, hP, hK, hD0, hN, hZ⟩ := hv
  have hx := B.exec
  have hb := B.bytes
  have hr := B.returns
  have hlocks := B.notSynchronized
  have hts : ∀ w ∈ bw, w.before _ s = true := fun w h => atoms_spec (ws := Cond.code y_Mo_fault b_Mo_fault 2 (some .int) :: bw) B.pre w (List.mem_cons_of_mem _ h)
  have hown : s.vm.findClass "ObjectForgeModel" = some m.cls := findClass_of_methodNamed B.named
  subst hsz
  have hP0 := hP
  have hD := hD0.self (sz := s.heap.size)
  generalize hAe : va_A [(h0, .inr (7, [.int 0, .int 0, .int 0, .int 0, .int 0, .int 0, .int (-1), .int (-1), .int 0, .int 0, .int 0, .int 0, .int 0, .int 0, .int 0, .int 0, .ref (qa 0), .ref (qa 1), .ref (qa 2), .ref (qa 3), .int 0, .ref (qa 4), .ref (qa 5), .ref (qa 6), .ref (qa 7), .ref (qa 8), .ref (qa 9), .ref (qa 10), .ref (qa 11), .ref (qa 12), .ref (qa 13), .ref (qa 14), .ref (qa 15), .ref (qa 16), .ref (qa 17), .ref (qa 18), .ref (qa 19), .ref (qa 20), .int 0, .int 0, .int 0, .int 0, .long 0, .long 0, .long 0, .long 0, .long 0, .ref (qa 21), .int 0, .int 0, .int 0, .int 0]))] s.heap.size = A at hD hZ ⊢
  have hA : ∀ q : Nat, s.heap.size ≤ q → A q := fun q h => by rw [← hAe]; exact Or.inr h
  have hS : va_S A s.heap s.heap [] := va_S.rf
  have hl := lv_entry ([.ref h0, .int 2]) (n := 2) (Nat.le_of_ble_eq_true rfl)
  rw [lg_entry_eq]
  generalize (lg_sl ([.ref h0, .int 2]) ++ List.replicate (2 - (lg_sl ([.ref h0, .int 2])).length) Slot.unset).toArray = ls at hl ⊢
  have hl : lv_has ls 2 [(0, .ref h0), (1, .int 2)] := hl
  refine lv_aload_n hx hb d_Mo_fault_0 rfl (lv_at hl 0 rfl) ?_
  refine lv_iconst (v := 0) hx hb d_Mo_fault_1 (by decide) ?_
  refine va_put (D := D) (ci := 7) (v := .int 0) (ty := .int) (C := R_Mo) (T := F_Mo) (N := 52) hx hb hts i_Mo t_Mo t_Mo_ok n_Mo hown hK hP hD hS 0 rfl rfl 0 (by decide) (hts _ w_397) (fun _ h9 => h9) rfl (by decide +kernel) rfl rfl (Nat.le_of_ble_eq_true rfl) d_Mo_fault_2 (fun H locs hP hD hS => ?_)
  have hP : va_P D cls [(h0, .inr (7, [.int 0, .int 0, .int 0, .int 0, .int 0, .int 0, .int (-1), .int (-1), .int 0, .int 0, .int 0, .int 0, .int 0, .int 0, .int 0, .int 0, .ref (qa 0), .ref (qa 1), .ref (qa 2), .ref (qa 3), .int 0, .ref (qa 4), .ref (qa 5), .ref (qa 6), .ref (qa 7), .ref (qa 8), .ref (qa 9), .ref (qa 10), .ref (qa 11), .ref (qa 12), .ref (qa 13), .ref (qa 14), .ref (qa 15), .ref (qa 16), .ref (qa 17), .ref (qa 18), .ref (qa 19), .ref (qa 20), .int 0, .int 0, .int 0, .int 0, .long 0, .long 0, .long 0, .long 0, .long 0, .ref (qa 21), .int 0, .int 0, .int 0, .int 0]))] H := hP
  have hD : va_D A [(h0, .inr (7, [.int 0, .int 0, .int 0, .int 0, .int 0, .int 0, .int (-1), .int (-1), .int 0, .int 0, .int 0, .int 0, .int 0, .int 0, .int 0, .int 0, .ref (qa 0), .ref (qa 1), .ref (qa 2), .ref (qa 3), .int 0, .ref (qa 4), .ref (qa 5), .ref (qa 6), .ref (qa 7), .ref (qa 8), .ref (qa 9), .ref (qa 10), .ref (qa 11), .ref (qa 12), .ref (qa 13), .ref (qa 14), .ref (qa 15), .ref (qa 16), .ref (qa 17), .ref (qa 18), .ref (qa 19), .ref (qa 20), .int 0, .int 0, .int 0, .int 0, .long 0, .long 0, .long 0, .long 0, .long 0, .ref (qa 21), .int 0, .int 0, .int 0, .int 0]))] := hD
  refine lv_iload_n hx hb d_Mo_fault_5 rfl (lv_at hl 1 rfl) ?_
  refine lv_if_lt (tgt := 14) hx hb d_Mo_fault_6 (by decide) (fun q9 => absurd q9 (by decide : ¬ ((2 : Int32) < 0))) (fun _ => ?_)
  refine lv_iload_n hx hb d_Mo_fault_9 rfl (lv_at hl 1 rfl) ?_
  refine lv_iconst (v := 4) hx hb d_Mo_fault_10 (by decide) ?_
  refine lv_icmp_le (tgt := 20) hx hb d_Mo_fault_11 (by decide) (fun _ => ?_) (fun q9 => absurd (by decide : ((2 : Int32) ≤ 4)) q9)
  refine lv_iload_n hx hb d_Mo_fault_20 rfl (lv_at hl 1 rfl) ?_
  refine lv_if_ne (tgt := 31) hx hb d_Mo_fault_21 (by decide) (fun _ => ?_) (fun q9 => absurd q9 (by decide : ¬ ((2 : Int32) = 0)))
  refine lv_iload_n hx hb d_Mo_fault_31 rfl (lv_at hl 1 rfl) ?_
  refine lv_iconst (v := 1) hx hb d_Mo_fault_32 (by decide) ?_
  refine lv_icmp_ne (tgt := 43) hx hb d_Mo_fault_33 (by decide) (fun _ => ?_) (fun q9 => absurd q9 (by decide : ¬ ((2 : Int32) = 1)))
  refine lv_iload_n hx hb d_Mo_fault_43 rfl (lv_at hl 1 rfl) ?_
  refine lv_iconst (v := 2) hx hb d_Mo_fault_44 (by decide) ?_
  refine lv_icmp_ne (tgt := 55) hx hb d_Mo_fault_45 (by decide) (fun q9 => absurd (by decide : ((2 : Int32) = 2)) q9) (fun _ => ?_)
  refine lv_aload_n hx hb d_Mo_fault_48 rfl (lv_at hl 0 rfl) ?_
  refine va_get (D := D) (ci := 7) (v := .int 0) (C := R_Mo) (T := F_Mo) (N := 52) hx hb hts i_Mo hown hK hP 0 rfl rfl 5 (by decide) (hts _ w_421) (fun _ h9 => h9) rfl d_Mo_fault_49 ?_
  refine lv_goto (tgt := 71) hx hb d_Mo_fault_52 (by decide) ?_
  exact xr_i hx hb hr hlocks hP hD hK hS (()) [0] rfl rfl (by decide) [] rfl rfl d_Mo_fault_71

theorem d_Mo_fault_55 : decode b_Mo_fault 55 = .ok (.iload_n 1, 1) := by decide +kernel
theorem d_Mo_fault_56 : decode b_Mo_fault 56 = .ok (.iconst 3, 1) := by decide +kernel
theorem d_Mo_fault_57 : decode b_Mo_fault 57 = .ok (.if_icmp .ne 10, 3) := by decide +kernel
theorem d_Mo_fault_60 : decode b_Mo_fault 60 = .ok (.aload_n 0, 1) := by decide +kernel
theorem d_Mo_fault_61 : decode b_Mo_fault 61 = .ok (.getfield 68, 3) := by decide +kernel
theorem d_Mo_fault_64 : decode b_Mo_fault 64 = .ok (.goto 7, 3) := by decide +kernel
set_option maxHeartbeats 4000000 in
set_option maxRecDepth 100000 in
theorem c_Mo_fault_3 (l : Launch) (D : va_G) (h0 : Nat) (qa : Nat → Nat) (sz : Nat) : Met l y_Mo_fault (Cond.code y_Mo_fault b_Mo_fault 2 (some .int) :: bw) (xR 1 0 0) (va_Pc [.ref h0, .int 3] (xP D [] sz [(h0, .inr (7, [.int 0, .int 0, .int 0, .int 0, .int 0, .int 0, .int (-1), .int (-1), .int 0, .int 0, .int 0, .int 0, .int 0, .int 0, .int 0, .int 0, .ref (qa 0), .ref (qa 1), .ref (qa 2), .ref (qa 3), .int 0, .ref (qa 4), .ref (qa 5), .ref (qa 6), .ref (qa 7), .ref (qa 8), .ref (qa 9), .ref (qa 10), .ref (qa 11), .ref (qa 12), .ref (qa 13), .ref (qa 14), .ref (qa 15), .ref (qa 16), .ref (qa 17), .ref (qa 18), .ref (qa 19), .ref (qa 20), .int 0, .int 0, .int 0, .int 0, .long 0, .long 0, .long 0, .long 0, .long 0, .ref (qa 21), .int 0, .int 0, .int 0, .int 0]))])) (xQ (S := Unit) (fun _ => some (.int (-1))) (fun _ => [(h0, .inr (7, [.int 0, .int 0, .int 0, .int 0, .int 0, .int 0, .int (-1), .int (-1), .int 0, .int 0, .int 0, .int 0, .int 0, .int 0, .int 0, .int 0, .ref (qa 0), .ref (qa 1), .ref (qa 2), .ref (qa 3), .int 0, .ref (qa 4), .ref (qa 5), .ref (qa 6), .ref (qa 7), .ref (qa 8), .ref (qa 9), .ref (qa 10), .ref (qa 11), .ref (qa 12), .ref (qa 13), .ref (qa 14), .ref (qa 15), .ref (qa 16), .ref (qa 17), .ref (qa 18), .ref (qa 19), .ref (qa 20), .int 0, .int 0, .int 0, .int 0, .long 0, .long 0, .long 0, .long 0, .long 0, .ref (qa 21), .int 0, .int 0, .int 0, .int 0]))]) (fun _ => []) D (va_A [(h0, .inr (7, [.int 0, .int 0, .int 0, .int 0, .int 0, .int 0, .int (-1), .int (-1), .int 0, .int 0, .int 0, .int 0, .int 0, .int 0, .int 0, .int 0, .ref (qa 0), .ref (qa 1), .ref (qa 2), .ref (qa 3), .int 0, .ref (qa 4), .ref (qa 5), .ref (qa 6), .ref (qa 7), .ref (qa 8), .ref (qa 9), .ref (qa 10), .ref (qa 11), .ref (qa 12), .ref (qa 13), .ref (qa 14), .ref (qa 15), .ref (qa 16), .ref (qa 17), .ref (qa 18), .ref (qa 19), .ref (qa 20), .int 0, .int 0, .int 0, .int 0, .long 0, .long 0, .long 0, .long 0, .long 0, .ref (qa 21), .int 0, .int 0, .int 0, .int 0]))] sz)) 0 0 (va_A [(h0, .inr (7, [.int 0, .int 0, .int 0, .int 0, .int 0, .int 0, .int (-1), .int (-1), .int 0, .int 0, .int 0, .int 0, .int 0, .int 0, .int 0, .int 0, .ref (qa 0), .ref (qa 1), .ref (qa 2), .ref (qa 3), .int 0, .ref (qa 4), .ref (qa 5), .ref (qa 6), .ref (qa 7), .ref (qa 8), .ref (qa 9), .ref (qa 10), .ref (qa 11), .ref (qa 12), .ref (qa 13), .ref (qa 14), .ref (qa 15), .ref (qa 16), .ref (qa 17), .ref (qa 18), .ref (qa 19), .ref (qa 20), .int 0, .int 0, .int 0, .int 0, .long 0, .long 0, .long 0, .long 0, .long 0, .ref (qa 21), .int 0, .int 0, .int 0, .int 0]))] sz) := by
  refine Met.ofW (cc := b_Mo_fault) (maxL := 2) (ret := (some .int)) (by decide) rfl ?_
  intro p e s m args below meth c s₁ B hml hv
  obtain ⟨rfl, hsz, hP, hK, hD0, hN, hZ⟩ := hv
  have hx := B.exec
  have hb := B.bytes
  have hr := B.returns
  have hlocks := B.notSynchronized
  have hts : ∀ w ∈ bw, w.before _ s = true := fun w h => atoms_spec (ws := Cond.code y_Mo_fault b_Mo_fault 2 (some .int) :: bw) B.pre w (List.mem_cons_of_mem _ h)
  have hown : s.vm.findClass "ObjectForgeModel" = some m.cls := findClass_of_methodNamed B.named
  subst hsz
  have hP0 := hP
  have hD := hD0.self (sz := s.heap.size)
  generalize hAe : va_A [(h0, .inr (7, [.int 0, .int 0, .int 0, .int 0, .int 0, .int 0, .int (-1), .int (-1), .int 0, .int 0, .int 0, .int 0, .int 0, .int 0, .int 0, .int 0, .ref (qa 0), .ref (qa 1), .ref (qa 2), .ref (qa 3), .int 0, .ref (qa 4), .ref (qa 5), .ref (qa 6), .ref (qa 7), .ref (qa 8), .ref (qa 9), .ref (qa 10), .ref (qa 11), .ref (qa 12), .ref (qa 13), .ref (qa 14), .ref (qa 15), .ref (qa 16), .ref (qa 17), .ref (qa 18), .ref (qa 19), .ref (qa 20), .int 0, .int 0, .int 0, .int 0, .long 0, .long 0, .long 0, .long 0, .long 0, .ref (qa 21), .int 0, .int 0, .int 0, .int 0]))] s.heap.size = A at hD hZ ⊢
  have hA : ∀ q : Nat, s.heap.size ≤ q → A q := fun q h => by rw [← hAe]; exact Or.inr h
  have hS : va_S A s.heap s.heap [] := va_S.rf
  have hl := lv_entry ([.ref h0, .int 3]) (n := 2) (Nat.le_of_ble_eq_true rfl)
  rw [lg_entry_eq]
  generalize (lg_sl ([.ref h0, .int 3]) ++ List.replicate (2 - (lg_sl ([.ref h0, .int 3])).length) Slot.unset).toArray = ls at hl ⊢
  have hl : lv_has ls 2 [(0, .ref h0), (1, .int 3)] := hl
  refine lv_aload_n hx hb d_Mo_fault_0 rfl (lv_at hl 0 rfl) ?_
  refine lv_iconst (v := 0) hx hb d_Mo_fault_1 (by decide) ?_
  refine va_put (D := D) (ci := 7) (v := .int 0) (ty := .int) (C := R_Mo) (T := F_Mo) (N := 52) hx hb hts i_Mo t_Mo t_Mo_ok n_Mo hown hK hP hD hS 0 rfl rfl 0 (by decide) (hts _ w_397) (fun _ h9 => h9) rfl (by decide +kernel) rfl rfl (Nat.le_of_ble_eq_true rfl) d_Mo_fault_2 (fun H locs hP hD hS => ?_)
  have hP : va_P D cls [(h0, .inr (7, [.int 0, .int 0, .int 0, .int 0, .int 0, .int 0, .int (-1), .int (-1), .int 0, .int 0, .int 0, .int 0, .int 0, .int 0, .int 0, .int 0, .ref (qa 0), .ref (qa 1), .ref (qa 2), .ref (qa 3), .int 0, .ref (qa 4), .ref (qa 5), .ref (qa 6), .ref (qa 7), .ref (qa 8), .ref (qa 9), .ref (qa 10), .ref (qa 11), .ref (qa 12), .ref (qa 13), .ref (qa 14), .ref (qa 15), .ref (qa 16), .ref (qa 17), .ref (qa 18), .ref (qa 19), .ref (qa 20), .int 0, .int 0, .int 0, .int 0, .long 0, .long 0, .long 0, .long 0, .long 0, .ref (qa 21), .int 0, .int 0, .int 0, .int 0]))] H := hP
  have hD : va_D A [(h0, .inr (7, [.int 0, .int 0, .int 0, .int 0, .int 0, .int 0, .int (-1), .int (-1), .int 0, .int 0, .int 0, .int 0, .int 0, .int 0, .int 0, .int 0, .ref (qa 0), .ref (qa 1), .ref (qa 2), .ref (qa 3), .int 0, .ref (qa 4), .ref (qa 5), .ref (qa 6), .ref (qa 7), .ref (qa 8), .ref (qa 9), .ref (qa 10), .ref (qa 11), .ref (qa 12), .ref (qa 13), .ref (qa 14), .ref (qa 15), .ref (qa 16), .ref (qa 17), .ref (qa 18), .ref (qa 19), .ref (qa 20), .int 0, .int 0, .int 0, .int 0, .long 0, .long 0, .long 0, .long 0, .long 0, .ref (qa 21), .int 0, .int 0, .int 0, .int 0]))] := hD
  refine lv_iload_n hx hb d_Mo_fault_5 rfl (lv_at hl 1 rfl) ?_
  refine lv_if_lt (tgt := 14) hx hb d_Mo_fault_6 (by decide) (fun q9 => absurd q9 (by decide : ¬ ((3 : Int32) < 0))) (fun _ => ?_)
  refine lv_iload_n hx hb d_Mo_fault_9 rfl (lv_at hl 1 rfl) ?_
  refine lv_iconst (v := 4) hx hb d_Mo_fault_10 (by decide) ?_
  refine lv_icmp_le (tgt := 20) hx hb d_Mo_fault_11 (by decide) (fun _ => ?_) (fun q9 => absurd (by decide : ((3 : Int32) ≤ 4)) q9)
  refine lv_iload_n hx hb d_Mo_fault_20 rfl (lv_at hl 1 rfl) ?_
  refine lv_if_ne (tgt := 31) hx hb d_Mo_fault_21 (by decide) (fun _ => ?_) (fun q9 => absurd q9 (by decide : ¬ ((3 : Int32) = 0)))
  refine lv_iload_n hx hb d_Mo_fault_31 rfl (lv_at hl 1 rfl) ?_
  refine lv_iconst (v := 1) hx hb d_Mo_fault_32 (by decide) ?_
  refine lv_icmp_ne (tgt := 43) hx hb d_Mo_fault_33 (by decide) (fun _ => ?_) (fun q9 => absurd q9 (by decide : ¬ ((3 : Int32) = 1)))
  refine lv_iload_n hx hb d_Mo_fault_43 rfl (lv_at hl 1 rfl) ?_
  refine lv_iconst (v := 2) hx hb d_Mo_fault_44 (by decide) ?_
  refine lv_icmp_ne (tgt := 55) hx hb d_Mo_fault_45 (by decide) (fun _ => ?_) (fun q9 => absurd q9 (by decide : ¬ ((3 : Int32) = 2)))
  refine lv_iload_n hx hb d_Mo_fault_55 rfl (lv_at hl 1 rfl) ?_
  refine lv_iconst (v := 3) hx hb d_Mo_fault_56 (by decide) ?_
  refine lv_icmp_ne (tgt := 67) hx hb d_Mo_fault_57 (by decide) (fun q9 => absurd (by decide : ((3 : Int32) = 3)) q9) (fun _ => ?_)
  refine lv_aload_n hx hb d_Mo_fault_60 rfl (lv_at hl 0 rfl) ?_
  refine va_get (D := D) (ci := 7) (v := .int (-1)) (C := R_Mo) (T := F_Mo) (N := 52) hx hb hts i_Mo hown hK hP 0 rfl rfl 6 (by decide) (hts _ w_422) (fun _ h9 => h9) rfl d_Mo_fault_61 ?_
  refine lv_goto (tgt := 71) hx hb d_Mo_fault_64 (by decide) ?_
  exact xr_i hx hb hr hlocks hP hD hK hS (()) [0] rfl rfl (by decide) [] rfl rfl d_Mo_fault_71

theorem d_Mo_fault_67 : decode b_Mo_fault 67 = .ok (.aload_n 0, 1) := by decide +kernel
theorem d_Mo_fault_68 : decode b_Mo_fault 68 = .ok (.getfield 72, 3) := by decide +kernel
set_option maxHeartbeats 4000000 in
set_option maxRecDepth 100000 in
theorem c_Mo_fault_4 (l : Launch) (D : va_G) (h0 : Nat) (qa : Nat → Nat) (sz : Nat) : Met l y_Mo_fault (Cond.code y_Mo_fault b_Mo_fault 2 (some .int) :: bw) (xR 1 0 0) (va_Pc [.ref h0, .int 4] (xP D [] sz [(h0, .inr (7, [.int 0, .int 0, .int 0, .int 0, .int 0, .int 0, .int (-1), .int (-1), .int 0, .int 0, .int 0, .int 0, .int 0, .int 0, .int 0, .int 0, .ref (qa 0), .ref (qa 1), .ref (qa 2), .ref (qa 3), .int 0, .ref (qa 4), .ref (qa 5), .ref (qa 6), .ref (qa 7), .ref (qa 8), .ref (qa 9), .ref (qa 10), .ref (qa 11), .ref (qa 12), .ref (qa 13), .ref (qa 14), .ref (qa 15), .ref (qa 16), .ref (qa 17), .ref (qa 18), .ref (qa 19), .ref (qa 20), .int 0, .int 0, .int 0, .int 0, .long 0, .long 0, .long 0, .long 0, .long 0, .ref (qa 21), .int 0, .int 0, .int 0, .int 0]))])) (xQ (S := Unit) (fun _ => some (.int (-1))) (fun _ => [(h0, .inr (7, [.int 0, .int 0, .int 0, .int 0, .int 0, .int 0, .int (-1), .int (-1), .int 0, .int 0, .int 0, .int 0, .int 0, .int 0, .int 0, .int 0, .ref (qa 0), .ref (qa 1), .ref (qa 2), .ref (qa 3), .int 0, .ref (qa 4), .ref (qa 5), .ref (qa 6), .ref (qa 7), .ref (qa 8), .ref (qa 9), .ref (qa 10), .ref (qa 11), .ref (qa 12), .ref (qa 13), .ref (qa 14), .ref (qa 15), .ref (qa 16), .ref (qa 17), .ref (qa 18), .ref (qa 19), .ref (qa 20), .int 0, .int 0, .int 0, .int 0, .long 0, .long 0, .long 0, .long 0, .long 0, .ref (qa 21), .int 0, .int 0, .int 0, .int 0]))]) (fun _ => []) D (va_A [(h0, .inr (7, [.int 0, .int 0, .int 0, .int 0, .int 0, .int 0, .int (-1), .int (-1), .int 0, .int 0, .int 0, .int 0, .int 0, .int 0, .int 0, .int 0, .ref (qa 0), .ref (qa 1), .ref (qa 2), .ref (qa 3), .int 0, .ref (qa 4), .ref (qa 5), .ref (qa 6), .ref (qa 7), .ref (qa 8), .ref (qa 9), .ref (qa 10), .ref (qa 11), .ref (qa 12), .ref (qa 13), .ref (qa 14), .ref (qa 15), .ref (qa 16), .ref (qa 17), .ref (qa 18), .ref (qa 19), .ref (qa 20), .int 0, .int 0, .int 0, .int 0, .long 0, .long 0, .long 0, .long 0, .long 0, .ref (qa 21), .int 0, .int 0, .int 0, .int 0]))] sz)) 0 0 (va_A [(h0, .inr (7, [.int 0, .int 0, .int 0, .int 0, .int 0, .int 0, .int (-1), .int (-1), .int 0, .int 0, .int 0, .int 0, .int 0, .int 0, .int 0, .int 0, .ref (qa 0), .ref (qa 1), .ref (qa 2), .ref (qa 3), .int 0, .ref (qa 4), .ref (qa 5), .ref (qa 6), .ref (qa 7), .ref (qa 8), .ref (qa 9), .ref (qa 10), .ref (qa 11), .ref (qa 12), .ref (qa 13), .ref (qa 14), .ref (qa 15), .ref (qa 16), .ref (qa 17), .ref (qa 18), .ref (qa 19), .ref (qa 20), .int 0, .int 0, .int 0, .int 0, .long 0, .long 0, .long 0, .long 0, .long 0, .ref (qa 21), .int 0, .int 0, .int 0, .int 0]))] sz) := by
  refine Met.ofW (cc := b_Mo_fault) (maxL := 2) (ret := (some .int)) (by decide) rfl ?_
  intro p e s m args below meth c s₁ B hml hv
  obtain ⟨rfl, hsz, hP, hK, hD0, hN, hZ⟩ := hv
  have hx := B.exec
  have hb := B.bytes
  have hr := B.returns
  have hlocks := B.notSynchronized
  have hts : ∀ w ∈ bw, w.before _ s = true := fun w h => atoms_spec (ws := Cond.code y_Mo_fault b_Mo_fault 2 (some .int) :: bw) B.pre w (List.mem_cons_of_mem _ h)
  have hown : s.vm.findClass "ObjectForgeModel" = some m.cls := findClass_of_methodNamed B.named
  subst hsz
  have hP0 := hP
  have hD := hD0.self (sz := s.heap.size)
  generalize hAe : va_A [(h0, .inr (7, [.int 0, .int 0, .int 0, .int 0, .int 0, .int 0, .int (-1), .int (-1), .int 0, .int 0, .int 0, .int 0, .int 0, .int 0, .int 0, .int 0, .ref (qa 0), .ref (qa 1), .ref (qa 2), .ref (qa 3), .int 0, .ref (qa 4), .ref (qa 5), .ref (qa 6), .ref (qa 7), .ref (qa 8), .ref (qa 9), .ref (qa 10), .ref (qa 11), .ref (qa 12), .ref (qa 13), .ref (qa 14), .ref (qa 15), .ref (qa 16), .ref (qa 17), .ref (qa 18), .ref (qa 19), .ref (qa 20), .int 0, .int 0, .int 0, .int 0, .long 0, .long 0, .long 0, .long 0, .long 0, .ref (qa 21), .int 0, .int 0, .int 0, .int 0]))] s.heap.size = A at hD hZ ⊢
  have hA : ∀ q : Nat, s.heap.size ≤ q → A q := fun q h => by rw [← hAe]; exact Or.inr h
  have hS : va_S A s.heap s.heap [] := va_S.rf
  have hl := lv_entry ([.ref h0, .int 4]) (n := 2) (Nat.le_of_ble_eq_true rfl)
  rw [lg_entry_eq]
  generalize (lg_sl ([.ref h0, .int 4]) ++ List.replicate (2 - (lg_sl ([.ref h0, .int 4])).length) Slot.unset).toArray = ls at hl ⊢
  have hl : lv_has ls 2 [(0, .ref h0), (1, .int 4)] := hl
  refine lv_aload_n hx hb d_Mo_fault_0 rfl (lv_at hl 0 rfl) ?_
  refine lv_iconst (v := 0) hx hb d_Mo_fault_1 (by decide) ?_
  refine va_put (D := D) (ci := 7) (v := .int 0) (ty := .int) (C := R_Mo) (T := F_Mo) (N := 52) hx hb hts i_Mo t_Mo t_Mo_ok n_Mo hown hK hP hD hS 0 rfl rfl 0 (by decide) (hts _ w_397) (fun _ h9 => h9) rfl (by decide +kernel) rfl rfl (Nat.le_of_ble_eq_true rfl) d_Mo_fault_2 (fun H locs hP hD hS => ?_)
  have hP : va_P D cls [(h0, .inr (7, [.int 0, .int 0, .int 0, .int 0, .int 0, .int 0, .int (-1), .int (-1), .int 0, .int 0, .int 0, .int 0, .int 0, .int 0, .int 0, .int 0, .ref (qa 0), .ref (qa 1), .ref (qa 2), .ref (qa 3), .int 0, .ref (qa 4), .ref (qa 5), .ref (qa 6), .ref (qa 7), .ref (qa 8), .ref (qa 9), .ref (qa 10), .ref (qa 11), .ref (qa 12), .ref (qa 13), .ref (qa 14), .ref (qa 15), .ref (qa 16), .ref (qa 17), .ref (qa 18), .ref (qa 19), .ref (qa 20), .int 0, .int 0, .int 0, .int 0, .long 0, .long 0, .long 0, .long 0, .long 0, .ref (qa 21), .int 0, .int 0, .int 0, .int 0]))] H := hP
  have hD : va_D A [(h0, .inr (7, [.int 0, .int 0, .int 0, .int 0, .int 0, .int 0, .int (-1), .int (-1), .int 0, .int 0, .int 0, .int 0, .int 0, .int 0, .int 0, .int 0, .ref (qa 0), .ref (qa 1), .ref (qa 2), .ref (qa 3), .int 0, .ref (qa 4), .ref (qa 5), .ref (qa 6), .ref (qa 7), .ref (qa 8), .ref (qa 9), .ref (qa 10), .ref (qa 11), .ref (qa 12), .ref (qa 13), .ref (qa 14), .ref (qa 15), .ref (qa 16), .ref (qa 17), .ref (qa 18), .ref (qa 19), .ref (qa 20), .int 0, .int 0, .int 0, .int 0, .long 0, .long 0, .long 0, .long 0, .long 0, .ref (qa 21), .int 0, .int 0, .int 0, .int 0]))] := hD
  refine lv_iload_n hx hb d_Mo_fault_5 rfl (lv_at hl 1 rfl) ?_
  refine lv_if_lt (tgt := 14) hx hb d_Mo_fault_6 (by decide) (fun q9 => absurd q9 (by decide : ¬ ((4 : Int32) < 0))) (fun _ => ?_)
  refine lv_iload_n hx hb d_Mo_fault_9 rfl (lv_at hl 1 rfl) ?_
  refine lv_iconst (v := 4) hx hb d_Mo_fault_10 (by decide) ?_
  refine lv_icmp_le (tgt := 20) hx hb d_Mo_fault_11 (by decide) (fun _ => ?_) (fun q9 => absurd (by decide : ((4 : Int32) ≤ 4)) q9)
  refine lv_iload_n hx hb d_Mo_fault_20 rfl (lv_at hl 1 rfl) ?_
  refine lv_if_ne (tgt := 31) hx hb d_Mo_fault_21 (by decide) (fun _ => ?_) (fun q9 => absurd q9 (by decide : ¬ ((4 : Int32) = 0)))
  refine lv_iload_n hx hb d_Mo_fault_31 rfl (lv_at hl 1 rfl) ?_
  refine lv_iconst (v := 1) hx hb d_Mo_fault_32 (by decide) ?_
  refine lv_icmp_ne (tgt := 43) hx hb d_Mo_fault_33 (by decide) (fun _ => ?_) (fun q9 => absurd q9 (by decide : ¬ ((4 : Int32) = 1)))
  refine lv_iload_n hx hb d_Mo_fault_43 rfl (lv_at hl 1 rfl) ?_
  refine lv_iconst (v := 2) hx hb d_Mo_fault_44 (by decide) ?_
  refine lv_icmp_ne (tgt := 55) hx hb d_Mo_fault_45 (by decide) (fun _ => ?_) (fun q9 => absurd q9 (by decide : ¬ ((4 : Int32) = 2)))
  refine lv_iload_n hx hb d_Mo_fault_55 rfl (lv_at hl 1 rfl) ?_
  refine lv_iconst (v := 3) hx hb d_Mo_fault_56 (by decide) ?_
  refine lv_icmp_ne (tgt := 67) hx hb d_Mo_fault_57 (by decide) (fun _ => ?_) (fun q9 => absurd q9 (by decide : ¬ ((4 : Int32) = 3)))
  refine lv_aload_n hx hb d_Mo_fault_67 rfl (lv_at hl 0 rfl) ?_
  refine va_get (D := D) (ci := 7) (v := .int (-1)) (C := R_Mo) (T := F_Mo) (N := 52) hx hb hts i_Mo hown hK hP 0 rfl rfl 7 (by decide) (hts _ w_423) (fun _ h9 => h9) rfl d_Mo_fault_68 ?_
  exact xr_i hx hb hr hlocks hP hD hK hS (()) [0] rfl rfl (by decide) [] rfl rfl d_Mo_fault_71

theorem d_Mo_fault_14 : decode b_Mo_fault 14 = .ok (.aload_n 0, 1) := by decide +kernel
theorem d_Mo_fault_15 : decode b_Mo_fault 15 = .ok (.iconst 1, 1) := by decide +kernel
theorem d_Mo_fault_16 : decode b_Mo_fault 16 = .ok (.invokevirtual 94, 3) := by decide +kernel
theorem d_Mo_fault_19 : decode b_Mo_fault 19 = .ok (.ireturn, 1) := by decide +kernel
set_option maxHeartbeats 4000000 in
set_option maxRecDepth 100000 in
theorem c_Mo_fault_n (l : Launch) (D : va_G) (h0 : Nat) (qa : Nat → Nat) (p0 : Int32) (h1 : p0 < 0) (sz : Nat) : Met l y_Mo_fault (Cond.code y_Mo_fault b_Mo_fault 2 (some .int) :: bw) (xR 2 0 0) (va_Pc [.ref h0, .int p0] (xP D [] sz [(h0, .inr (7, [.int 0, .int 0, .int 0, .int 0, .int 0, .int 0, .int (-1), .int (-1), .int 0, .int 0, .int 0, .int 0, .int 0, .int 0, .int 0, .int 0, .ref (qa 0), .ref (qa 1), .ref (qa 2), .ref (qa 3), .int 0, .ref (qa 4), .ref (qa 5), .ref (qa 6), .ref (qa 7), .ref (qa 8), .ref (qa 9), .ref (qa 10), .ref (qa 11), .ref (qa 12), .ref (qa 13), .ref (qa 14), .ref (qa 15), .ref (qa 16), .ref (qa 17), .ref (qa 18), .ref (qa 19), .ref (qa 20), .int 0, .int 0, .int 0, .int 0, .long 0, .long 0, .long 0, .long 0, .long 0, .ref (qa 21), .int 0, .int 0, .int 0, .int 0]))])) (xQ (S := Unit) (fun _ => some (.int 0)) (fun _ => [(h0, .inr (7, [.int 1, .int 0, .int 0, .int 0, .int 0, .int 0, .int (-1), .int (-1), .int 0, .int 0, .int 0, .int 0, .int 0, .int 0, .int 0, .int 0, .ref (qa 0), .ref (qa 1), .ref (qa 2), .ref (qa 3), .int 0, .ref (qa 4), .ref (qa 5), .ref (qa 6), .ref (qa 7), .ref (qa 8), .ref (qa 9), .ref (qa 10), .ref (qa 11), .ref (qa 12), .ref (qa 13), .ref (qa 14), .ref (qa 15), .ref (qa 16), .ref (qa 17), .ref (qa 18), .ref (qa 19), .ref (qa 20), .int 0, .int 0, .int 0, .int 0, .long 0, .long 0, .long 0, .long 0, .long 0, .ref (qa 21), .int 0, .int 0, .int 0, .int 0]))]) (fun _ => []) D (va_A [(h0, .inr (7, [.int 0, .int 0, .int 0, .int 0, .int 0, .int 0, .int (-1), .int (-1), .int 0, .int 0, .int 0, .int 0, .int 0, .int 0, .int 0, .int 0, .ref (qa 0), .ref (qa 1), .ref (qa 2), .ref (qa 3), .int 0, .ref (qa 4), .ref (qa 5), .ref (qa 6), .ref (qa 7), .ref (qa 8), .ref (qa 9), .ref (qa 10), .ref (qa 11), .ref (qa 12), .ref (qa 13), .ref (qa 14), .ref (qa 15), .ref (qa 16), .ref (qa 17), .ref (qa 18), .ref (qa 19), .ref (qa 20), .int 0, .int 0, .int 0, .int 0, .long 0, .long 0, .long 0, .long 0, .long 0, .ref (qa 21), .int 0, .int 0, .int 0, .int 0]))] sz)) 0 0 (va_A [(h0, .inr (7, [.int 0, .int 0, .int 0, .int 0, .int 0, .int 0, .int (-1), .int (-1), .int 0, .int 0, .int 0, .int 0, .int 0, .int 0, .int 0, .int 0, .ref (qa 0), .ref (qa 1), .ref (qa 2), .ref (qa 3), .int 0, .ref (qa 4), .ref (qa 5), .ref (qa 6), .ref (qa 7), .ref (qa 8), .ref (qa 9), .ref (qa 10), .ref (qa 11), .ref (qa 12), .ref (qa 13), .ref (qa 14), .ref (qa 15), .ref (qa 16), .ref (qa 17), .ref (qa 18), .ref (qa 19), .ref (qa 20), .int 0, .int 0, .int 0, .int 0, .long 0, .long 0, .long 0, .long 0, .long 0, .ref (qa 21), .int 0, .int 0, .int 0, .int 0]))] sz) := by
  refine Met.ofW (cc := b_Mo_fault) (maxL := 2) (ret := (some .int)) (by decide) rfl ?_
  intro p e s m args below meth c s₁ B hml hv
  obtain ⟨rfl, hsz, hP, hK, hD0, hN, hZ⟩ := hv
  have hx := B.exec
  have hb := B.bytes
  have hr := B.returns
  have hlocks := B.notSynchronized
  have hts : ∀ w ∈ bw, w.before _ s = true := fun w h => atoms_spec (ws := Cond.code y_Mo_fault b_Mo_fault 2 (some .int) :: bw) B.pre w (List.mem_cons_of_mem _ h)
  have hown : s.vm.findClass "ObjectForgeModel" = some m.cls := findClass_of_methodNamed B.named
  subst hsz
  have hP0 := hP
  have hD := hD0.self (sz := s.heap.size)
  generalize hAe : va_A [(h0, .inr (7, [.int 0, .int 0, .int 0, .int 0, .int 0, .int 0, .int (-1), .int (-1), .int 0, .int 0, .int 0, .int 0, .int 0, .int 0, .int 0, .int 0, .ref (qa 0), .ref (qa 1), .ref (qa 2), .ref (qa 3), .int 0, .ref (qa 4), .ref (qa 5), .ref (qa 6), .ref (qa 7), .ref (qa 8), .ref (qa 9), .ref (qa 10), .ref (qa 11), .ref (qa 12), .ref (qa 13), .ref (qa 14), .ref (qa 15), .ref (qa 16), .ref (qa 17), .ref (qa 18), .ref (qa 19), .ref (qa 20), .int 0, .int 0, .int 0, .int 0, .long 0, .long 0, .long 0, .long 0, .long 0, .ref (qa 21), .int 0, .int 0, .int 0, .int 0]))] s.heap.size = A at hD hZ ⊢
  have hA : ∀ q : Nat, s.heap.size ≤ q → A q := fun q h => by rw [← hAe]; exact Or.inr h
  have hS : va_S A s.heap s.heap [] := va_S.rf
  have hl := lv_entry ([.ref h0, .int p0]) (n := 2) (Nat.le_of_ble_eq_true rfl)
  rw [lg_entry_eq]
  generalize (lg_sl ([.ref h0, .int p0]) ++ List.replicate (2 - (lg_sl ([.ref h0, .int p0])).length) Slot.unset).toArray = ls at hl ⊢
  have hl : lv_has ls 2 [(0, .ref h0), (1, .int p0)] := hl
  refine lv_aload_n hx hb d_Mo_fault_0 rfl (lv_at hl 0 rfl) ?_
  refine lv_iconst (v := 0) hx hb d_Mo_fault_1 (by decide) ?_
  refine va_put (D := D) (ci := 7) (v := .int 0) (ty := .int) (C := R_Mo) (T := F_Mo) (N := 52) hx hb hts i_Mo t_Mo t_Mo_ok n_Mo hown hK hP hD hS 0 rfl rfl 0 (by decide) (hts _ w_397) (fun _ h9 => h9) rfl (by decide +kernel) rfl rfl (Nat.le_of_ble_eq_true rfl) d_Mo_fault_2 (fun H locs hP hD hS => ?_)
  have hP : va_P D cls [(h0, .inr (7, [.int 0, .int 0, .int 0, .int 0, .int 0, .int 0, .int (-1), .int (-1), .int 0, .int 0, .int 0, .int 0, .int 0, .int 0, .int 0, .int 0, .ref (qa 0), .ref (qa 1), .ref (qa 2), .ref (qa 3), .int 0, .ref (qa 4), .ref (qa 5), .ref (qa 6), .ref (qa 7), .ref (qa 8), .ref (qa 9), .ref (qa 10), .ref (qa 11), .ref (qa 12), .ref (qa 13), .ref (qa 14), .ref (qa 15), .ref (qa 16), .ref (qa 17), .ref (qa 18), .ref (qa 19), .ref (qa 20), .int 0, .int 0, .int 0, .int 0, .long 0, .long 0, .long 0, .long 0, .long 0, .ref (qa 21), .int 0, .int 0, .int 0, .int 0]))] H := hP
  have hD : va_D A [(h0, .inr (7, [.int 0, .int 0, .int 0, .int 0, .int 0, .int 0, .int (-1), .int (-1), .int 0, .int 0, .int 0, .int 0, .int 0, .int 0, .int 0, .int 0, .ref (qa 0), .ref (qa 1), .ref (qa 2), .ref (qa 3), .int 0, .ref (qa 4), .ref (qa 5), .ref (qa 6), .ref (qa 7), .ref (qa 8), .ref (qa 9), .ref (qa 10), .ref (qa 11), .ref (qa 12), .ref (qa 13), .ref (qa 14), .ref (qa 15), .ref (qa 16), .ref (qa 17), .ref (qa 18), .ref (qa 19), .ref (qa 20), .int 0, .int 0, .int 0, .int 0, .long 0, .long 0, .long 0, .long 0, .long 0, .ref (qa 21), .int 0, .int 0, .int 0, .int 0]))] := hD
  refine lv_iload_n hx hb d_Mo_fault_5 rfl (lv_at hl 1 rfl) ?_
  refine lv_if_lt (tgt := 14) hx hb d_Mo_fault_6 (by decide) (fun _ => ?_) (fun q9 => absurd h1 q9)
  refine lv_aload_n hx hb d_Mo_fault_14 rfl (lv_at hl 0 rfl) ?_
  refine lv_iconst (v := 1) hx hb d_Mo_fault_15 (by decide) ?_
  refine xc_V (As := [.int 1]) (rest := []) (n := 1) (wc := [(h0, .inr (7, [.int 0, .int 0, .int 0, .int 0, .int 0, .int 0, .int (-1), .int (-1), .int 0, .int 0, .int 0, .int 0, .int 0, .int 0, .int 0, .int 0, .ref (qa 0), .ref (qa 1), .ref (qa 2), .ref (qa 3), .int 0, .ref (qa 4), .ref (qa 5), .ref (qa 6), .ref (qa 7), .ref (qa 8), .ref (qa 9), .ref (qa 10), .ref (qa 11), .ref (qa 12), .ref (qa 13), .ref (qa 14), .ref (qa 15), .ref (qa 16), .ref (qa 17), .ref (qa 18), .ref (qa 19), .ref (qa 20), .int 0, .int 0, .int 0, .int 0, .long 0, .long 0, .long 0, .long 0, .long 0, .ref (qa 21), .int 0, .int 0, .int 0, .int 0]))]) (wr := []) (tc := []) (tr := []) ⟨hx, hb, hml, hown, hts⟩ (c_Mo_refuse_1 l D h0 qa H.size) rfl rfl w_452 w_450 w_451 w_557 w_8 (by decide +kernel) ⟨Nat.le_of_ble_eq_true rfl, Nat.le_of_ble_eq_true rfl⟩ hP hD hK hS hA hN hZ [0] [] rfl rfl (by decide) (by decide) (by decide) [] [] rfl rfl (ci := 7) (q0 := 0) (q := (R_Mo, F_Mo, 52)) rfl rfl rfl rfl hl.1 rfl (Nat.le_of_ble_eq_true rfl) d_Mo_fault_16 ⟨Nat.le_of_ble_eq_true rfl, Nat.le_of_ble_eq_true rfl⟩ (fun u1 H locs hP hD hK hS => ?_)
  have hP : va_P D cls [(h0, .inr (7, [.int 1, .int 0, .int 0, .int 0, .int 0, .int 0, .int (-1), .int (-1), .int 0, .int 0, .int 0, .int 0, .int 0, .int 0, .int 0, .int 0, .ref (qa 0), .ref (qa 1), .ref (qa 2), .ref (qa 3), .int 0, .ref (qa 4), .ref (qa 5), .ref (qa 6), .ref (qa 7), .ref (qa 8), .ref (qa 9), .ref (qa 10), .ref (qa 11), .ref (qa 12), .ref (qa 13), .ref (qa 14), .ref (qa 15), .ref (qa 16), .ref (qa 17), .ref (qa 18), .ref (qa 19), .ref (qa 20), .int 0, .int 0, .int 0, .int 0, .long 0, .long 0, .long 0, .long 0, .long 0, .ref (qa 21), .int 0, .int 0, .int 0, .int 0]))] H := hP
  have hD : va_D A [(h0, .inr (7, [.int 1, .int 0, .int 0, .int 0, .int 0, .int 0, .int (-1), .int (-1), .int 0, .int 0, .int 0, .int 0, .int 0, .int 0, .int 0, .int 0, .ref (qa 0), .ref (qa 1), .ref (qa 2), .ref (qa 3), .int 0, .ref (qa 4), .ref (qa 5), .ref (qa 6), .ref (qa 7), .ref (qa 8), .ref (qa 9), .ref (qa 10), .ref (qa 11), .ref (qa 12), .ref (qa 13), .ref (qa 14), .ref (qa 15), .ref (qa 16), .ref (qa 17), .ref (qa 18), .ref (qa 19), .ref (qa 20), .int 0, .int 0, .int 0, .int 0, .long 0, .long 0, .long 0, .long 0, .long 0, .ref (qa 21), .int 0, .int 0, .int 0, .int 0]))] := hD
  have hK : va_K D cls [] s := hK
  refine W.eq (g2 := F0 m 19 ls [.int 0]) rfl ?_
  exact xr_i hx hb hr hlocks hP hD hK hS (()) [0] rfl rfl (by decide) [] rfl rfl d_Mo_fault_19

set_option maxHeartbeats 4000000 in
set_option maxRecDepth 100000 in
theorem c_Mo_fault_b (l : Launch) (D : va_G) (h0 : Nat) (qa : Nat → Nat) (p0 : Int32) (h1 : ¬ p0 < 0) (h2 : ¬ p0 ≤ 4) (sz : Nat) : Met l y_Mo_fault (Cond.code y_Mo_fault b_Mo_fault 2 (some .int) :: bw) (xR 2 0 0) (va_Pc [.ref h0, .int p0] (xP D [] sz [(h0, .inr (7, [.int 0, .int 0, .int 0, .int 0, .int 0, .int 0, .int (-1), .int (-1), .int 0, .int 0, .int 0, .int 0, .int 0, .int 0, .int 0, .int 0, .ref (qa 0), .ref (qa 1), .ref (qa 2), .ref (qa 3), .int 0, .ref (qa 4), .ref (qa 5), .ref (qa 6), .ref (qa 7), .ref (qa 8), .ref (qa 9), .ref (qa 10), .ref (qa 11), .ref (qa 12), .ref (qa 13), .ref (qa 14), .ref (qa 15), .ref (qa 16), .ref (qa 17), .ref (qa 18), .ref (qa 19), .ref (qa 20), .int 0, .int 0, .int 0, .int 0, .long 0, .long 0, .long 0, .long 0, .long 0, .ref (qa 21), .int 0, .int 0, .int 0, .int 0]))])) (xQ (S := Unit) (fun _ => some (.int 0)) (fun _ => [(h0, .inr (7, [.int 1, .int 0, .int 0, .int 0, .int 0, .int 0, .int (-1), .int (-1), .int 0, .int 0, .int 0, .int 0, .int 0, .int 0, .int 0, .int 0, .ref (qa 0), .ref (qa 1), .ref (qa 2), .ref (qa 3), .int 0, .ref (qa 4), .ref (qa 5), .ref (qa 6), .ref (qa 7), .ref (qa 8), .ref (qa 9), .ref (qa 10), .ref (qa 11), .ref (qa 12), .ref (qa 13), .ref (qa 14), .ref (qa 15), .ref (qa 16), .ref (qa 17), .ref (qa 18), .ref (qa 19), .ref (qa 20), .int 0, .int 0, .int 0, .int 0, .long 0, .long 0, .long 0, .long 0, .long 0, .ref (qa 21), .int 0, .int 0, .int 0, .int 0]))]) (fun _ => []) D (va_A [(h0, .inr (7, [.int 0, .int 0, .int 0, .int 0, .int 0, .int 0, .int (-1), .int (-1), .int 0, .int 0, .int 0, .int 0, .int 0, .int 0, .int 0, .int 0, .ref (qa 0), .ref (qa 1), .ref (qa 2), .ref (qa 3), .int 0, .ref (qa 4), .ref (qa 5), .ref (qa 6), .ref (qa 7), .ref (qa 8), .ref (qa 9), .ref (qa 10), .ref (qa 11), .ref (qa 12), .ref (qa 13), .ref (qa 14), .ref (qa 15), .ref (qa 16), .ref (qa 17), .ref (qa 18), .ref (qa 19), .ref (qa 20), .int 0, .int 0, .int 0, .int 0, .long 0, .long 0, .long 0, .long 0, .long 0, .ref (qa 21), .int 0, .int 0, .int 0, .int 0]))] sz)) 0 0 (va_A [(h0, .inr (7, [.int 0, .int 0, .int 0, .int 0, .int 0, .int 0, .int (-1), .int (-1), .int 0, .int 0, .int 0, .int 0, .int 0, .int 0, .int 0, .int 0, .ref (qa 0), .ref (qa 1), .ref (qa 2), .ref (qa 3), .int 0, .ref (qa 4), .ref (qa 5), .ref (qa 6), .ref (qa 7), .ref (qa 8), .ref (qa 9), .ref (qa 10), .ref (qa 11), .ref (qa 12), .ref (qa 13), .ref (qa 14), .ref (qa 15), .ref (qa 16), .ref (qa 17), .ref (qa 18), .ref (qa 19), .ref (qa 20), .int 0, .int 0, .int 0, .int 0, .long 0, .long 0, .long 0, .long 0, .long 0, .ref (qa 21), .int 0, .int 0, .int 0, .int 0]))] sz) := by
  refine Met.ofW (cc := b_Mo_fault) (maxL := 2) (ret := (some .int)) (by decide) rfl ?_
  intro p e s m args below meth c s₁ B hml hv
  obtain ⟨rfl, hsz, hP, hK, hD0, hN, hZ⟩ := hv
  have hx := B.exec
  have hb := B.bytes
  have hr := B.returns
  have hlocks := B.notSynchronized
  have hts : ∀ w ∈ bw, w.before _ s = true := fun w h => atoms_spec (ws := Cond.code y_Mo_fault b_Mo_fault 2 (some .int) :: bw) B.pre w (List.mem_cons_of_mem _ h)
  have hown : s.vm.findClass "ObjectForgeModel" = some m.cls := findClass_of_methodNamed B.named
  subst hsz
  have hP0 := hP
  have hD := hD0.self (sz := s.heap.size)
  generalize hAe : va_A [(h0, .inr (7, [.int 0, .int 0, .int 0, .int 0, .int 0, .int 0, .int (-1), .int (-1), .int 0, .int 0, .int 0, .int 0, .int 0, .int 0, .int 0, .int 0, .ref (qa 0), .ref (qa 1), .ref (qa 2), .ref (qa 3), .int 0, .ref (qa 4), .ref (qa 5), .ref (qa 6), .ref (qa 7), .ref (qa 8), .ref (qa 9), .ref (qa 10), .ref (qa 11), .ref (qa 12), .ref (qa 13), .ref (qa 14), .ref (qa 15), .ref (qa 16), .ref (qa 17), .ref (qa 18), .ref (qa 19), .ref (qa 20), .int 0, .int 0, .int 0, .int 0, .long 0, .long 0, .long 0, .long 0, .long 0, .ref (qa 21), .int 0, .int 0, .int 0, .int 0]))] s.heap.size = A at hD hZ ⊢
  have hA : ∀ q : Nat, s.heap.size ≤ q → A q := fun q h => by rw [← hAe]; exact Or.inr h
  have hS : va_S A s.heap s.heap [] := va_S.rf
  have hl := lv_entry ([.ref h0, .int p0]) (n := 2) (Nat.le_of_ble_eq_true rfl)
  rw [lg_entry_eq]
  generalize (lg_sl ([.ref h0, .int p0]) ++ List.replicate (2 - (lg_sl ([.ref h0, .int p0])).length) Slot.unset).toArray = ls at hl ⊢
  have hl : lv_has ls 2 [(0, .ref h0), (1, .int p0)] := hl
  refine lv_aload_n hx hb d_Mo_fault_0 rfl (lv_at hl 0 rfl) ?_
  refine lv_iconst (v := 0) hx hb d_Mo_fault_1 (by decide) ?_
  refine va_put (D := D) (ci := 7) (v := .int 0) (ty := .int) (C := R_Mo) (T := F_Mo) (N := 52) hx hb hts i_Mo t_Mo t_Mo_ok n_Mo hown hK hP hD hS 0 rfl rfl 0 (by decide) (hts _ w_397) (fun _ h9 => h9) rfl (by decide +kernel) rfl rfl (Nat.le_of_ble_eq_true rfl) d_Mo_fault_2 (fun H locs hP hD hS => ?_)
  have hP : va_P D cls [(h0, .inr (7, [.int 0, .int 0, .int 0, .int 0, .int 0, .int 0, .int (-1), .int (-1), .int 0, .int 0, .int 0, .int 0, .int 0, .int 0, .int 0, .int 0, .ref (qa 0), .ref (qa 1), .ref (qa 2), .ref (qa 3), .int 0, .ref (qa 4), .ref (qa 5), .ref (qa 6), .ref (qa 7), .ref (qa 8), .ref (qa 9), .ref (qa 10), .ref (qa 11), .ref (qa 12), .ref (qa 13), .ref (qa 14), .ref (qa 15), .ref (qa 16), .ref (qa 17), .ref (qa 18), .ref (qa 19), .ref (qa 20), .int 0, .int 0, .int 0, .int 0, .long 0, .long 0, .long 0, .long 0, .long 0, .ref (qa 21), .int 0, .int 0, .int 0, .int 0]))] H := hP
  have hD : va_D A [(h0, .inr (7, [.int 0, .int 0, .int 0, .int 0, .int 0, .int 0, .int (-1), .int (-1), .int 0, .int 0, .int 0, .int 0, .int 0, .int 0, .int 0, .int 0, .ref (qa 0), .ref (qa 1), .ref (qa 2), .ref (qa 3), .int 0, .ref (qa 4), .ref (qa 5), .ref (qa 6), .ref (qa 7), .ref (qa 8), .ref (qa 9), .ref (qa 10), .ref (qa 11), .ref (qa 12), .ref (qa 13), .ref (qa 14), .ref (qa 15), .ref (qa 16), .ref (qa 17), .ref (qa 18), .ref (qa 19), .ref (qa 20), .int 0, .int 0, .int 0, .int 0, .long 0, .long 0, .long 0, .long 0, .long 0, .ref (qa 21), .int 0, .int 0, .int 0, .int 0]))] := hD
  refine lv_iload_n hx hb d_Mo_fault_5 rfl (lv_at hl 1 rfl) ?_
  refine lv_if_lt (tgt := 14) hx hb d_Mo_fault_6 (by decide) (fun q9 => absurd q9 h1) (fun _ => ?_)
  refine lv_iload_n hx hb d_Mo_fault_9 rfl (lv_at hl 1 rfl) ?_
  refine lv_iconst (v := 4) hx hb d_Mo_fault_10 (by decide) ?_
  refine lv_icmp_le (tgt := 20) hx hb d_Mo_fault_11 (by decide) (fun q9 => absurd q9 h2) (fun _ => ?_)
  refine lv_aload_n hx hb d_Mo_fault_14 rfl (lv_at hl 0 rfl) ?_
  refine lv_iconst (v := 1) hx hb d_Mo_fault_15 (by decide) ?_
  refine xc_V (As := [.int 1]) (rest := []) (n := 1) (wc := [(h0, .inr (7, [.int 0, .int 0, .int 0, .int 0, .int 0, .int 0, .int (-1), .int (-1), .int 0, .int 0, .int 0, .int 0, .int 0, .int 0, .int 0, .int 0, .ref (qa 0), .ref (qa 1), .ref (qa 2), .ref (qa 3), .int 0, .ref (qa 4), .ref (qa 5), .ref (qa 6), .ref (qa 7), .ref (qa 8), .ref (qa 9), .ref (qa 10), .ref (qa 11), .ref (qa 12), .ref (qa 13), .ref (qa 14), .ref (qa 15), .ref (qa 16), .ref (qa 17), .ref (qa 18), .ref (qa 19), .ref (qa 20), .int 0, .int 0, .int 0, .int 0, .long 0, .long 0, .long 0, .long 0, .long 0, .ref (qa 21), .int 0, .int 0, .int 0, .int 0]))]) (wr := []) (tc := []) (tr := []) ⟨hx, hb, hml, hown, hts⟩ (c_Mo_refuse_1 l D h0 qa H.size) rfl rfl w_452 w_450 w_451 w_557 w_8 (by decide +kernel) ⟨Nat.le_of_ble_eq_true rfl, Nat.le_of_ble_eq_true rfl⟩ hP hD hK hS hA hN hZ [0] [] rfl rfl (by decide) (by decide) (by decide) [] [] rfl rfl (ci := 7) (q0 := 0) (q := (R_Mo, F_Mo, 52)) rfl rfl rfl rfl hl.1 rfl (Nat.le_of_ble_eq_true rfl) d_Mo_fault_16 ⟨Nat.le_of_ble_eq_true rfl, Nat.le_of_ble_eq_true rfl⟩ (fun u1 H locs hP hD hK hS => ?_)
  have hP : va_P D cls [(h0, .inr (7, [.int 1, .int 0, .int 0, .int 0, .int 0, .int 0, .int (-1), .int (-1), .int 0, .int 0, .int 0, .int 0, .int 0, .int 0, .int 0, .int 0, .ref (qa 0), .ref (qa 1), .ref (qa 2), .ref (qa 3), .int 0, .ref (qa 4), .ref (qa 5), .ref (qa 6), .ref (qa 7), .ref (qa 8), .ref (qa 9), .ref (qa 10), .ref (qa 11), .ref (qa 12), .ref (qa 13), .ref (qa 14), .ref (qa 15), .ref (qa 16), .ref (qa 17), .ref (qa 18), .ref (qa 19), .ref (qa 20), .int 0, .int 0, .int 0, .int 0, .long 0, .long 0, .long 0, .long 0, .long 0, .ref (qa 21), .int 0, .int 0, .int 0, .int 0]))] H := hP
  have hD : va_D A [(h0, .inr (7, [.int 1, .int 0, .int 0, .int 0, .int 0, .int 0, .int (-1), .int (-1), .int 0, .int 0, .int 0, .int 0, .int 0, .int 0, .int 0, .int 0, .ref (qa 0), .ref (qa 1), .ref (qa 2), .ref (qa 3), .int 0, .ref (qa 4), .ref (qa 5), .ref (qa 6), .ref (qa 7), .ref (qa 8), .ref (qa 9), .ref (qa 10), .ref (qa 11), .ref (qa 12), .ref (qa 13), .ref (qa 14), .ref (qa 15), .ref (qa 16), .ref (qa 17), .ref (qa 18), .ref (qa 19), .ref (qa 20), .int 0, .int 0, .int 0, .int 0, .long 0, .long 0, .long 0, .long 0, .long 0, .ref (qa 21), .int 0, .int 0, .int 0, .int 0]))] := hD
  have hK : va_K D cls [] s := hK
  refine W.eq (g2 := F0 m 19 ls [.int 0]) rfl ?_
  exact xr_i hx hb hr hlocks hP hD hK hS (()) [0] rfl rfl (by decide) [] rfl rfl d_Mo_fault_19

theorem d_Mo_link_0 : decode b_Mo_link 0 = .ok (.aload_n 0, 1) := by decide +kernel
theorem d_Mo_link_1 : decode b_Mo_link 1 = .ok (.iconst 0, 1) := by decide +kernel
theorem d_Mo_link_2 : decode b_Mo_link 2 = .ok (.putfield 88, 3) := by decide +kernel
theorem d_Mo_link_5 : decode b_Mo_link 5 = .ok (.iload_n 1, 1) := by decide +kernel
theorem d_Mo_link_6 : decode b_Mo_link 6 = .ok (.bipush 7, 2) := by decide +kernel
theorem d_Mo_link_8 : decode b_Mo_link 8 = .ok (.iand, 1) := by decide +kernel
theorem d_Mo_link_9 : decode b_Mo_link 9 = .ok (.ifCond .eq 9, 3) := by decide +kernel
theorem d_Mo_link_12 : decode b_Mo_link 12 = .ok (.aload_n 0, 1) := by decide +kernel
theorem d_Mo_link_13 : decode b_Mo_link 13 = .ok (.iconst 1, 1) := by decide +kernel
theorem d_Mo_link_14 : decode b_Mo_link 14 = .ok (.invokevirtual 94, 3) := by decide +kernel
theorem d_Mo_link_17 : decode b_Mo_link 17 = .ok (.ireturn, 1) := by decide +kernel
set_option maxHeartbeats 4000000 in
set_option maxRecDepth 100000 in
theorem c_Mo_link_1 (l : Launch) (D : va_G) (h0 : Nat) (qa : Nat → Nat) (p0 : Int32) (h1 : ¬ (p0 &&& 7) = 0) (sz : Nat) : Met l y_Mo_link (Cond.code y_Mo_link b_Mo_link 7 (some .int) :: bw) (xR 2 0 0) (va_Pc [.ref h0, .int p0] (xP D [] sz [(h0, .inr (7, [.int 0, .int 0, .int 0, .int 0, .int 0, .int 0, .int (-1), .int (-1), .int 0, .int 0, .int 0, .int 0, .int 0, .int 0, .int 0, .int 0, .ref (qa 0), .ref (qa 1), .ref (qa 2), .ref (qa 3), .int 0, .ref (qa 4), .ref (qa 5), .ref (qa 6), .ref (qa 7), .ref (qa 8), .ref (qa 9), .ref (qa 10), .ref (qa 11), .ref (qa 12), .ref (qa 13), .ref (qa 14), .ref (qa 15), .ref (qa 16), .ref (qa 17), .ref (qa 18), .ref (qa 19), .ref (qa 20), .int 0, .int 0, .int 0, .int 0, .long 0, .long 0, .long 0, .long 0, .long 0, .ref (qa 21), .int 0, .int 0, .int 0, .int 0]))])) (xQ (S := Unit) (fun _ => some (.int 0)) (fun _ => [(h0, .inr (7, [.int 1, .int 0, .int 0, .int 0, .int 0, .int 0, .int (-1), .int (-1), .int 0, .int 0, .int 0, .int 0, .int 0, .int 0, .int 0, .int 0, .ref (qa 0), .ref (qa 1), .ref (qa 2), .ref (qa 3), .int 0, .ref (qa 4), .ref (qa 5), .ref (qa 6), .ref (qa 7), .ref (qa 8), .ref (qa 9), .ref (qa 10), .ref (qa 11), .ref (qa 12), .ref (qa 13), .ref (qa 14), .ref (qa 15), .ref (qa 16), .ref (qa 17), .ref (qa 18), .ref (qa 19), .ref (qa 20), .int 0, .int 0, .int 0, .int 0, .long 0, .long 0, .long 0, .long 0, .long 0, .ref (qa 21), .int 0, .int 0, .int 0, .int 0]))]) (fun _ => []) D (va_A [(h0, .inr (7, [.int 0, .int 0, .int 0, .int 0, .int 0, .int 0, .int (-1), .int (-1), .int 0, .int 0, .int 0, .int 0, .int 0, .int 0, .int 0, .int 0, .ref (qa 0), .ref (qa 1), .ref (qa 2), .ref (qa 3), .int 0, .ref (qa 4), .ref (qa 5), .ref (qa 6), .ref (qa 7), .ref (qa 8), .ref (qa 9), .ref (qa 10), .ref (qa 11), .ref (qa 12), .ref (qa 13), .ref (qa 14), .ref (qa 15), .ref (qa 16), .ref (qa 17), .ref (qa 18), .ref (qa 19), .ref (qa 20), .int 0, .int 0, .int 0, .int 0, .long 0, .long 0, .long 0, .long 0, .long 0, .ref (qa 21), .int 0, .int 0, .int 0, .int 0]))] sz)) 0 0 (va_A [(h0, .inr (7, [.int 0, .int 0, .int 0, .int 0, .int 0, .int 0, .int (-1), .int (-1), .int 0, .int 0, .int 0, .int 0, .int 0, .int 0, .int 0, .int 0, .ref (qa 0), .ref (qa 1), .ref (qa 2), .ref (qa 3), .int 0, .ref (qa 4), .ref (qa 5), .ref (qa 6), .ref (qa 7), .ref (qa 8), .ref (qa 9), .ref (qa 10), .ref (qa 11), .ref (qa 12), .ref (qa 13), .ref (qa 14), .ref (qa 15), .ref (qa 16), .ref (qa 17), .ref (qa 18), .ref (qa 19), .ref (qa 20), .int 0, .int 0, .int 0, .int 0, .long 0, .long 0, .long 0, .long 0, .long 0, .ref (qa 21), .int 0, .int 0, .int 0, .int 0]))] sz) := by
  refine Met.ofW (cc := b_Mo_link) (maxL := 7) (ret := (some .int)) (by decide) rfl ?_
  intro p e s m args below meth c s₁ B hml hv
  obtain ⟨rfl, hsz, hP, hK, hD0, hN, hZ⟩ := hv
  have hx := B.exec
  have hb := B.bytes
  have hr := B.returns
  have hlocks := B.notSynchronized
  have hts : ∀ w ∈ bw, w.before _ s = true := fun w h => atoms_spec (ws := Cond.code y_Mo_link b_Mo_link 7 (some .int) :: bw) B.pre w (List.mem_cons_of_mem _ h)
  have hown : s.vm.findClass "ObjectForgeModel" = some m.cls := findClass_of_methodNamed B.named
  subst hsz
  have hP0 := hP
  have hD := hD0.self (sz := s.heap.size)
  generalize hAe : va_A [(h0, .inr (7, [.int 0, .int 0, .int 0, .int 0, .int 0, .int 0, .int (-1), .int (-1), .int 0, .int 0, .int 0, .int 0, .int 0, .int 0, .int 0, .int 0, .ref (qa 0), .ref (qa 1), .ref (qa 2), .ref (qa 3), .int 0, .ref (qa 4), .ref (qa 5), .ref (qa 6), .ref (qa 7), .ref (qa 8), .ref (qa 9), .ref (qa 10), .ref (qa 11), .ref (qa 12), .ref (qa 13), .ref (qa 14), .ref (qa 15), .ref (qa 16), .ref (qa 17), .ref (qa 18), .ref (qa 19), .ref (qa 20), .int 0, .int 0, .int 0, .int 0, .long 0, .long 0, .long 0, .long 0, .long 0, .ref (qa 21), .int 0, .int 0, .int 0, .int 0]))] s.heap.size = A at hD hZ ⊢
  have hA : ∀ q : Nat, s.heap.size ≤ q → A q := fun q h => by rw [← hAe]; exact Or.inr h
  have hS : va_S A s.heap s.heap [] := va_S.rf
  have hl := lv_entry ([.ref h0, .int p0]) (n := 7) (Nat.le_of_ble_eq_true rfl)
  rw [lg_entry_eq]
  generalize (lg_sl ([.ref h0, .int p0]) ++ List.replicate (7 - (lg_sl ([.ref h0, .int p0])).length) Slot.unset).toArray = ls at hl ⊢
  have hl : lv_has ls 7 [(0, .ref h0), (1, .int p0)] := hl
  refine lv_aload_n hx hb d_Mo_link_0 rfl (lv_at hl 0 rfl) ?_
  refine lv_iconst (v := 0) hx hb d_Mo_link_1 (by decide) ?_
  refine va_put (D := D) (ci := 7) (v := .int 0) (ty := .int) (C := R_Mo) (T := F_Mo) (N := 52) hx hb hts i_Mo t_Mo t_Mo_ok n_Mo hown hK hP hD hS 0 rfl rfl 0 (by decide) (hts _ w_397) (fun _ h9 => h9) rfl (by decide +kernel) rfl rfl (Nat.le_of_ble_eq_true rfl) d_Mo_link_2 (fun H locs hP hD hS => ?_)
  have hP : va_P D cls [(h0, .inr (7, [.int 0, .int 0, .int 0, .int 0, .int 0, .int 0, .int (-1), .int (-1), .int 0, .int 0, .int 0, .int 0, .int 0, .int 0, .int 0, .int 0, .ref (qa 0), .ref (qa 1), .ref (qa 2), .ref (qa 3), .int 0, .ref (qa 4), .ref (qa 5), .ref (qa 6), .ref (qa 7), .ref (qa 8), .ref (qa 9), .ref (qa 10), .ref (qa 11), .ref (qa 12), .ref (qa 13), .ref (qa 14), .ref (qa 15), .ref (qa 16), .ref (qa 17), .ref (qa 18), .ref (qa 19), .ref (qa 20), .int 0, .int 0, .int 0, .int 0, .long 0, .long 0, .long 0, .long 0, .long 0, .ref (qa 21), .int 0, .int 0, .int 0, .int 0]))] H := hP
  have hD : va_D A [(h0, .inr (7, [.int 0, .int 0, .int 0, .int 0, .int 0, .int 0, .int (-1), .int (-1), .int 0, .int 0, .int 0, .int 0, .int 0, .int 0, .int 0, .int 0, .ref (qa 0), .ref (qa 1), .ref (qa 2), .ref (qa 3), .int 0, .ref (qa 4), .ref (qa 5), .ref (qa 6), .ref (qa 7), .ref (qa 8), .ref (qa 9), .ref (qa 10), .ref (qa 11), .ref (qa 12), .ref (qa 13), .ref (qa 14), .ref (qa 15), .ref (qa 16), .ref (qa 17), .ref (qa 18), .ref (qa 19), .ref (qa 20), .int 0, .int 0, .int 0, .int 0, .long 0, .long 0, .long 0, .long 0, .long 0, .ref (qa 21), .int 0, .int 0, .int 0, .int 0]))] := hD
  refine lv_iload_n hx hb d_Mo_link_5 rfl (lv_at hl 1 rfl) ?_
  refine lv_bipush (v := 7) hx hb d_Mo_link_6 (by decide) ?_
  refine lv_iand hx hb d_Mo_link_8 ?_
  refine lv_if_eq (tgt := 18) hx hb d_Mo_link_9 (by decide) (fun q9 => absurd q9 h1) (fun _ => ?_)
  refine lv_aload_n hx hb d_Mo_link_12 rfl (lv_at hl 0 rfl) ?_
  refine lv_iconst (v := 1) hx hb d_Mo_link_13 (by decide) ?_
  refine xc_V (As := [.int 1]) (rest := []) (n := 1) (wc := [(h0, .inr (7, [.int 0, .int 0, .int 0, .int 0, .int 0, .int 0, .int (-1), .int (-1), .int 0, .int 0, .int 0, .int 0, .int 0, .int 0, .int 0, .int 0, .ref (qa 0), .ref (qa 1), .ref (qa 2), .ref (qa 3), .int 0, .ref (qa 4), .ref (qa 5), .ref (qa 6), .ref (qa 7), .ref (qa 8), .ref (qa 9), .ref (qa 10), .ref (qa 11), .ref (qa 12), .ref (qa 13), .ref (qa 14), .ref (qa 15), .ref (qa 16), .ref (qa 17), .ref (qa 18), .ref (qa 19), .ref (qa 20), .int 0, .int 0, .int 0, .int 0, .long 0, .long 0, .long 0, .long 0, .long 0, .ref (qa 21), .int 0, .int 0, .int 0, .int 0]))]) (wr := []) (tc := []) (tr := []) ⟨hx, hb, hml, hown, hts⟩ (c_Mo_refuse_1 l D h0 qa H.size) rfl rfl w_452 w_450 w_451 w_557 w_8 (by decide +kernel) ⟨Nat.le_of_ble_eq_true rfl, Nat.le_of_ble_eq_true rfl⟩ hP hD hK hS hA hN hZ [0] [] rfl rfl (by decide) (by decide) (by decide) [] [] rfl rfl (ci := 7) (q0 := 0) (q := (R_Mo, F_Mo, 52)) rfl rfl rfl rfl hl.1 rfl (Nat.le_of_ble_eq_true rfl) d_Mo_link_14 ⟨Nat.le_of_ble_eq_true rfl, Nat.le_of_ble_eq_true rfl⟩ (fun u1 H locs hP hD hK hS => ?_)
  have hP : va_P D cls [(h0, .inr (7, [.int 1, .int 0, .int 0, .int 0, .int 0, .int 0, .int (-1), .int (-1), .int 0, .int 0, .int 0, .int 0, .int 0, .int 0, .int 0, .int 0, .ref (qa 0), .ref (qa 1), .ref (qa 2), .ref (qa 3), .int 0, .ref (qa 4), .ref (qa 5), .ref (qa 6), .ref (qa 7), .ref (qa 8), .ref (qa 9), .ref (qa 10), .ref (qa 11), .ref (qa 12), .ref (qa 13), .ref (qa 14), .ref (qa 15), .ref (qa 16), .ref (qa 17), .ref (qa 18), .ref (qa 19), .ref (qa 20), .int 0, .int 0, .int 0, .int 0, .long 0, .long 0, .long 0, .long 0, .long 0, .ref (qa 21), .int 0, .int 0, .int 0, .int 0]))] H := hP
  have hD : va_D A [(h0, .inr (7, [.int 1, .int 0, .int 0, .int 0, .int 0, .int 0, .int (-1), .int (-1), .int 0, .int 0, .int 0, .int 0, .int 0, .int 0, .int 0, .int 0, .ref (qa 0), .ref (qa 1), .ref (qa 2), .ref (qa 3), .int 0, .ref (qa 4), .ref (qa 5), .ref (qa 6), .ref (qa 7), .ref (qa 8), .ref (qa 9), .ref (qa 10), .ref (qa 11), .ref (qa 12), .ref (qa 13), .ref (qa 14), .ref (qa 15), .ref (qa 16), .ref (qa 17), .ref (qa 18), .ref (qa 19), .ref (qa 20), .int 0, .int 0, .int 0, .int 0, .long 0, .long 0, .long 0, .long 0, .long 0, .ref (qa 21), .int 0, .int 0, .int 0, .int 0]))] := hD
  have hK : va_K D cls [] s := hK
  refine W.eq (g2 := F0 m 17 ls [.int 0]) rfl ?_
  exact xr_i hx hb hr hlocks hP hD hK hS (()) [0] rfl rfl (by decide) [] rfl rfl d_Mo_link_17

theorem d_Mo_link_18 : decode b_Mo_link 18 = .ok (.aload_n 0, 1) := by decide +kernel
theorem d_Mo_link_19 : decode b_Mo_link 19 = .ok (.getfield 1010, 3) := by decide +kernel
theorem d_Mo_link_22 : decode b_Mo_link 22 = .ok (.ifCond .ne 9, 3) := by decide +kernel
theorem d_Mo_link_25 : decode b_Mo_link 25 = .ok (.aload_n 0, 1) := by decide +kernel
theorem d_Mo_link_26 : decode b_Mo_link 26 = .ok (.iconst 2, 1) := by decide +kernel
theorem d_Mo_link_27 : decode b_Mo_link 27 = .ok (.invokevirtual 94, 3) := by decide +kernel
theorem d_Mo_link_30 : decode b_Mo_link 30 = .ok (.ireturn, 1) := by decide +kernel
set_option maxHeartbeats 4000000 in
set_option maxRecDepth 100000 in
theorem c_Mo_link_2 (l : Launch) (D : va_G) (h0 : Nat) (qa : Nat → Nat) (p0 : Int32) (h1 : (p0 &&& 7) = 0) (sz : Nat) : Met l y_Mo_link (Cond.code y_Mo_link b_Mo_link 7 (some .int) :: bw) (xR 2 0 0) (va_Pc [.ref h0, .int p0] (xP D [] sz [(h0, .inr (7, [.int 0, .int 0, .int 0, .int 0, .int 0, .int 0, .int (-1), .int (-1), .int 0, .int 0, .int 0, .int 0, .int 0, .int 0, .int 0, .int 0, .ref (qa 0), .ref (qa 1), .ref (qa 2), .ref (qa 3), .int 0, .ref (qa 4), .ref (qa 5), .ref (qa 6), .ref (qa 7), .ref (qa 8), .ref (qa 9), .ref (qa 10), .ref (qa 11), .ref (qa 12), .ref (qa 13), .ref (qa 14), .ref (qa 15), .ref (qa 16), .ref (qa 17), .ref (qa 18), .ref (qa 19), .ref (qa 20), .int 0, .int 0, .int 0, .int 0, .long 0, .long 0, .long 0, .long 0, .long 0, .ref (qa 21), .int 0, .int 0, .int 0, .int 0]))])) (xQ (S := Unit) (fun _ => some (.int 0)) (fun _ => [(h0, .inr (7, [.int 2, .int 0, .int 0, .int 0, .int 0, .int 0, .int (-1), .int (-1), .int 0, .int 0, .int 0, .int 0, .int 0, .int 0, .int 0, .int 0, .ref (qa 0), .ref (qa 1), .ref (qa 2), .ref (qa 3), .int 0, .ref (qa 4), .ref (qa 5), .ref (qa 6), .ref (qa 7), .ref (qa 8), .ref (qa 9), .ref (qa 10), .ref (qa 11), .ref (qa 12), .ref (qa 13), .ref (qa 14), .ref (qa 15), .ref (qa 16), .ref (qa 17), .ref (qa 18), .ref (qa 19), .ref (qa 20), .int 0, .int 0, .int 0, .int 0, .long 0, .long 0, .long 0, .long 0, .long 0, .ref (qa 21), .int 0, .int 0, .int 0, .int 0]))]) (fun _ => []) D (va_A [(h0, .inr (7, [.int 0, .int 0, .int 0, .int 0, .int 0, .int 0, .int (-1), .int (-1), .int 0, .int 0, .int 0, .int 0, .int 0, .int 0, .int 0, .int 0, .ref (qa 0), .ref (qa 1), .ref (qa 2), .ref (qa 3), .int 0, .ref (qa 4), .ref (qa 5), .ref (qa 6), .ref (qa 7), .ref (qa 8), .ref (qa 9), .ref (qa 10), .ref (qa 11), .ref (qa 12), .ref (qa 13), .ref (qa 14), .ref (qa 15), .ref (qa 16), .ref (qa 17), .ref (qa 18), .ref (qa 19), .ref (qa 20), .int 0, .int 0, .int 0, .int 0, .long 0, .long 0, .long 0, .long 0, .long 0, .ref (qa 21), .int 0, .int 0, .int 0, .int 0]))] sz)) 0 0 (va_A [(h0, .inr (7, [.int 0, .int 0, .int 0, .int 0, .int 0, .int 0, .int (-1), .int (-1), .int 0, .int 0, .int 0, .int 0, .int 0, .int 0, .int 0, .int 0, .ref (qa 0), .ref (qa 1), .ref (qa 2), .ref (qa 3), .int 0, .ref (qa 4), .ref (qa 5), .ref (qa 6), .ref (qa 7), .ref (qa 8), .ref (qa 9), .ref (qa 10), .ref (qa 11), .ref (qa 12), .ref (qa 13), .ref (qa 14), .ref (qa 15), .ref (qa 16), .ref (qa 17), .ref (qa 18), .ref (qa 19), .ref (qa 20), .int 0, .int 0, .int 0, .int 0, .long 0, .long 0, .long 0, .long 0, .long 0, .ref (qa 21), .int 0, .int 0, .int 0, .int 0]))] sz) := by
  refine Met.ofW (cc := b_Mo_link) (maxL := 7) (ret := (some .int)) (by decide) rfl ?_
  intro p e s m args below meth c s₁ B hml hv
  obtain ⟨rfl, hsz, hP, hK, hD0, hN, hZ⟩ := hv
  have hx := B.exec
  have hb := B.bytes
  have hr := B.returns
  have hlocks := B.notSynchronized
  have hts : ∀ w ∈ bw, w.before _ s = true := fun w h => atoms_spec (ws := Cond.code y_Mo_link b_Mo_link 7 (some .int) :: bw) B.pre w (List.mem_cons_of_mem _ h)
  have hown : s.vm.findClass "ObjectForgeModel" = some m.cls := findClass_of_methodNamed B.named
  subst hsz
  have hP0 := hP
  have hD := hD0.self (sz := s.heap.size)
  generalize hAe : va_A [(h0, .inr (7, [.int 0, .int 0, .int 0, .int 0, .int 0, .int 0, .int (-1), .int (-1), .int 0, .int 0, .int 0, .int 0, .int 0, .int 0, .int 0, .int 0, .ref (qa 0), .ref (qa 1), .ref (qa 2), .ref (qa 3), .int 0, .ref (qa 4), .ref (qa 5), .ref (qa 6), .ref (qa 7), .ref (qa 8), .ref (qa 9), .ref (qa 10), .ref (qa 11), .ref (qa 12), .ref (qa 13), .ref (qa 14), .ref (qa 15), .ref (qa 16), .ref (qa 17), .ref (qa 18), .ref (qa 19), .ref (qa 20), .int 0, .int 0, .int 0, .int 0, .long 0, .long 0, .long 0, .long 0, .long 0, .ref (qa 21), .int 0, .int 0, .int 0, .int 0]))] s.heap.size = A at hD hZ ⊢
  have hA : ∀ q : Nat, s.heap.size ≤ q → A q := fun q h => by rw [← hAe]; exact Or.inr h
  have hS : va_S A s.heap s.heap [] := va_S.rf
  have hl := lv_entry ([.ref h0, .int p0]) (n := 7) (Nat.le_of_ble_eq_true rfl)
  rw [lg_entry_eq]
  generalize (lg_sl ([.ref h0, .int p0]) ++ List.replicate (7 - (lg_sl ([.ref h0, .int p0])).length) Slot.unset).toArray = ls at hl ⊢
  have hl : lv_has ls 7 [(0, .ref h0), (1, .int p0)] := hl
  refine lv_aload_n hx hb d_Mo_link_0 rfl (lv_at hl 0 rfl) ?_
  refine lv_iconst (v := 0) hx hb d_Mo_link_1 (by decide) ?_
  refine va_put (D := D) (ci := 7) (v := .int 0) (ty := .int) (C := R_Mo) (T := F_Mo) (N := 52) hx hb hts i_Mo t_Mo t_Mo_ok n_Mo hown hK hP hD hS 0 rfl rfl 0 (by decide) (hts _ w_397) (fun _ h9 => h9) rfl (by decide +kernel) rfl rfl (Nat.le_of_ble_eq_true rfl) d_Mo_link_2 (fun H locs hP hD hS => ?_)
  have hP : va_P D cls [(h0, .inr (7, [.int 0, .int 0, .int 0, .int 0, .int 0, .int 0, .int (-1), .int (-1), .int 0, .int 0, .int 0, .int 0, .int 0, .int 0, .int 0, .int 0, .ref (qa 0), .ref (qa 1), .ref (qa 2), .ref (qa 3), .int 0, .ref (qa 4), .ref (qa 5), .ref (qa 6), .ref (qa 7), .ref (qa 8), .ref (qa 9), .ref (qa 10), .ref (qa 11), .ref (qa 12), .ref (qa 13), .ref (qa 14), .ref (qa 15), .ref (qa 16), .ref (qa 17), .ref (qa 18), .ref (qa 19), .ref (qa 20), .int 0, .int 0, .int 0, .int 0, .long 0, .long 0, .long 0, .long 0, .long 0, .ref (qa 21), .int 0, .int 0, .int 0, .int 0]))] H := hP
  have hD : va_D A [(h0, .inr (7, [.int 0, .int 0, .int 0, .int 0, .int 0, .int 0, .int (-1), .int (-1), .int 0, .int 0, .int 0, .int 0, .int 0, .int 0, .int 0, .int 0, .ref (qa 0), .ref (qa 1), .ref (qa 2), .ref (qa 3), .int 0, .ref (qa 4), .ref (qa 5), .ref (qa 6), .ref (qa 7), .ref (qa 8), .ref (qa 9), .ref (qa 10), .ref (qa 11), .ref (qa 12), .ref (qa 13), .ref (qa 14), .ref (qa 15), .ref (qa 16), .ref (qa 17), .ref (qa 18), .ref (qa 19), .ref (qa 20), .int 0, .int 0, .int 0, .int 0, .long 0, .long 0, .long 0, .long 0, .long 0, .ref (qa 21), .int 0, .int 0, .int 0, .int 0]))] := hD
  refine lv_iload_n hx hb d_Mo_link_5 rfl (lv_at hl 1 rfl) ?_
  refine lv_bipush (v := 7) hx hb d_Mo_link_6 (by decide) ?_
  refine lv_iand hx hb d_Mo_link_8 ?_
  refine lv_if_eq (tgt := 18) hx hb d_Mo_link_9 (by decide) (fun _ => ?_) (fun q9 => absurd h1 q9)
  refine lv_aload_n hx hb d_Mo_link_18 rfl (lv_at hl 0 rfl) ?_
  refine va_get (D := D) (ci := 7) (v := .int 0) (C := R_Mo) (T := F_Mo) (N := 52) hx hb hts i_Mo hown hK hP 0 rfl rfl 2 (by decide) (hts _ w_400) (fun _ h9 => h9) rfl d_Mo_link_19 ?_
  refine lv_if_ne (tgt := 31) hx hb d_Mo_link_22 (by decide) (fun q9 => absurd (by decide : ((0 : Int32) = 0)) q9) (fun _ => ?_)
  refine lv_aload_n hx hb d_Mo_link_25 rfl (lv_at hl 0 rfl) ?_
  refine lv_iconst (v := 2) hx hb d_Mo_link_26 (by decide) ?_
  refine xc_V (As := [.int 2]) (rest := []) (n := 1) (wc := [(h0, .inr (7, [.int 0, .int 0, .int 0, .int 0, .int 0, .int 0, .int (-1), .int (-1), .int 0, .int 0, .int 0, .int 0, .int 0, .int 0, .int 0, .int 0, .ref (qa 0), .ref (qa 1), .ref (qa 2), .ref (qa 3), .int 0, .ref (qa 4), .ref (qa 5), .ref (qa 6), .ref (qa 7), .ref (qa 8), .ref (qa 9), .ref (qa 10), .ref (qa 11), .ref (qa 12), .ref (qa 13), .ref (qa 14), .ref (qa 15), .ref (qa 16), .ref (qa 17), .ref (qa 18), .ref (qa 19), .ref (qa 20), .int 0, .int 0, .int 0, .int 0, .long 0, .long 0, .long 0, .long 0, .long 0, .ref (qa 21), .int 0, .int 0, .int 0, .int 0]))]) (wr := []) (tc := []) (tr := []) ⟨hx, hb, hml, hown, hts⟩ (c_Mo_refuse_2 l D h0 qa H.size) rfl rfl w_452 w_450 w_451 w_557 w_8 (by decide +kernel) ⟨Nat.le_of_ble_eq_true rfl, Nat.le_of_ble_eq_true rfl⟩ hP hD hK hS hA hN hZ [0] [] rfl rfl (by decide) (by decide) (by decide) [] [] rfl rfl (ci := 7) (q0 := 0) (q := (R_Mo, F_Mo, 52)) rfl rfl rfl rfl hl.1 rfl (Nat.le_of_ble_eq_true rfl) d_Mo_link_27 ⟨Nat.le_of_ble_eq_true rfl, Nat.le_of_ble_eq_true rfl⟩ (fun u1 H locs hP hD hK hS => ?_)
  have hP : va_P D cls [(h0, .inr (7, [.int 2, .int 0, .int 0, .int 0, .int 0, .int 0, .int (-1), .int (-1), .int 0, .int 0, .int 0, .int 0, .int 0, .int 0, .int 0, .int 0, .ref (qa 0), .ref (qa 1), .ref (qa 2), .ref (qa 3), .int 0, .ref (qa 4), .ref (qa 5), .ref (qa 6), .ref (qa 7), .ref (qa 8), .ref (qa 9), .ref (qa 10), .ref (qa 11), .ref (qa 12), .ref (qa 13), .ref (qa 14), .ref (qa 15), .ref (qa 16), .ref (qa 17), .ref (qa 18), .ref (qa 19), .ref (qa 20), .int 0, .int 0, .int 0, .int 0, .long 0, .long 0, .long 0, .long 0, .long 0, .ref (qa 21), .int 0, .int 0, .int 0, .int 0]))] H := hP
  have hD : va_D A [(h0, .inr (7, [.int 2, .int 0, .int 0, .int 0, .int 0, .int 0, .int (-1), .int (-1), .int 0, .int 0, .int 0, .int 0, .int 0, .int 0, .int 0, .int 0, .ref (qa 0), .ref (qa 1), .ref (qa 2), .ref (qa 3), .int 0, .ref (qa 4), .ref (qa 5), .ref (qa 6), .ref (qa 7), .ref (qa 8), .ref (qa 9), .ref (qa 10), .ref (qa 11), .ref (qa 12), .ref (qa 13), .ref (qa 14), .ref (qa 15), .ref (qa 16), .ref (qa 17), .ref (qa 18), .ref (qa 19), .ref (qa 20), .int 0, .int 0, .int 0, .int 0, .long 0, .long 0, .long 0, .long 0, .long 0, .ref (qa 21), .int 0, .int 0, .int 0, .int 0]))] := hD
  have hK : va_K D cls [] s := hK
  refine W.eq (g2 := F0 m 30 ls [.int 0]) rfl ?_
  exact xr_i hx hb hr hlocks hP hD hK hS (()) [0] rfl rfl (by decide) [] rfl rfl d_Mo_link_30

theorem d_Mo_word_0 : decode b_Mo_word 0 = .ok (.aload_n 0, 1) := by decide +kernel
theorem d_Mo_word_1 : decode b_Mo_word 1 = .ok (.iconst 0, 1) := by decide +kernel
theorem d_Mo_word_2 : decode b_Mo_word 2 = .ok (.putfield 88, 3) := by decide +kernel
theorem d_Mo_word_5 : decode b_Mo_word 5 = .ok (.iload_n 1, 1) := by decide +kernel
theorem d_Mo_word_6 : decode b_Mo_word 6 = .ok (.aload_n 0, 1) := by decide +kernel
theorem d_Mo_word_7 : decode b_Mo_word 7 = .ok (.getfield 1188, 3) := by decide +kernel
theorem d_Mo_word_10 : decode b_Mo_word 10 = .ok (.isub, 1) := by decide +kernel
theorem d_Mo_word_11 : decode b_Mo_word 11 = .ok (.istore_n 2, 1) := by decide +kernel
theorem d_Mo_word_12 : decode b_Mo_word 12 = .ok (.aload_n 0, 1) := by decide +kernel
theorem d_Mo_word_13 : decode b_Mo_word 13 = .ok (.getfield 1191, 3) := by decide +kernel
theorem d_Mo_word_16 : decode b_Mo_word 16 = .ok (.ifCond .eq 23, 3) := by decide +kernel
theorem d_Mo_word_39 : decode b_Mo_word 39 = .ok (.aload_n 0, 1) := by decide +kernel
theorem d_Mo_word_40 : decode b_Mo_word 40 = .ok (.iconst 1, 1) := by decide +kernel
theorem d_Mo_word_41 : decode b_Mo_word 41 = .ok (.invokevirtual 94, 3) := by decide +kernel
theorem d_Mo_word_44 : decode b_Mo_word 44 = .ok (.ireturn, 1) := by decide +kernel
set_option maxHeartbeats 4000000 in
set_option maxRecDepth 100000 in
theorem c_Mo_word (l : Launch) (D : va_G) (h0 : Nat) (qa : Nat → Nat) (p0 : Int32) (sz : Nat) : Met l y_Mo_word (Cond.code y_Mo_word b_Mo_word 3 (some .int) :: bw) (xR 2 0 0) (va_Pc [.ref h0, .int p0] (xP D [] sz [(h0, .inr (7, [.int 0, .int 0, .int 0, .int 0, .int 0, .int 0, .int (-1), .int (-1), .int 0, .int 0, .int 0, .int 0, .int 0, .int 0, .int 0, .int 0, .ref (qa 0), .ref (qa 1), .ref (qa 2), .ref (qa 3), .int 0, .ref (qa 4), .ref (qa 5), .ref (qa 6), .ref (qa 7), .ref (qa 8), .ref (qa 9), .ref (qa 10), .ref (qa 11), .ref (qa 12), .ref (qa 13), .ref (qa 14), .ref (qa 15), .ref (qa 16), .ref (qa 17), .ref (qa 18), .ref (qa 19), .ref (qa 20), .int 0, .int 0, .int 0, .int 0, .long 0, .long 0, .long 0, .long 0, .long 0, .ref (qa 21), .int 0, .int 0, .int 0, .int 0]))])) (xQ (S := Unit) (fun _ => some (.int 0)) (fun _ => [(h0, .inr (7, [.int 1, .int 0, .int 0, .int 0, .int 0, .int 0, .int (-1), .int (-1), .int 0, .int 0, .int 0, .int 0, .int 0, .int 0, .int 0, .int 0, .ref (qa 0), .ref (qa 1), .ref (qa 2), .ref (qa 3), .int 0, .ref (qa 4), .ref (qa 5), .ref (qa 6), .ref (qa 7), .ref (qa 8), .ref (qa 9), .ref (qa 10), .ref (qa 11), .ref (qa 12), .ref (qa 13), .ref (qa 14), .ref (qa 15), .ref (qa 16), .ref (qa 17), .ref (qa 18), .ref (qa 19), .ref (qa 20), .int 0, .int 0, .int 0, .int 0, .long 0, .long 0, .long 0, .long 0, .long 0, .ref (qa 21), .int 0, .int 0, .int 0, .int 0]))]) (fun _ => []) D (va_A [(h0, .inr (7, [.int 0, .int 0, .int 0, .int 0, .int 0, .int 0, .int (-1), .int (-1), .int 0, .int 0, .int 0, .int 0, .int 0, .int 0, .int 0, .int 0, .ref (qa 0), .ref (qa 1), .ref (qa 2), .ref (qa 3), .int 0, .ref (qa 4), .ref (qa 5), .ref (qa 6), .ref (qa 7), .ref (qa 8), .ref (qa 9), .ref (qa 10), .ref (qa 11), .ref (qa 12), .ref (qa 13), .ref (qa 14), .ref (qa 15), .ref (qa 16), .ref (qa 17), .ref (qa 18), .ref (qa 19), .ref (qa 20), .int 0, .int 0, .int 0, .int 0, .long 0, .long 0, .long 0, .long 0, .long 0, .ref (qa 21), .int 0, .int 0, .int 0, .int 0]))] sz)) 0 0 (va_A [(h0, .inr (7, [.int 0, .int 0, .int 0, .int 0, .int 0, .int 0, .int (-1), .int (-1), .int 0, .int 0, .int 0, .int 0, .int 0, .int 0, .int 0, .int 0, .ref (qa 0), .ref (qa 1), .ref (qa 2), .ref (qa 3), .int 0, .ref (qa 4), .ref (qa 5), .ref (qa 6), .ref (qa 7), .ref (qa 8), .ref (qa 9), .ref (qa 10), .ref (qa 11), .ref (qa 12), .ref (qa 13), .ref (qa 14), .ref (qa 15), .ref (qa 16), .ref (qa 17), .ref (qa 18), .ref (qa 19), .ref (qa 20), .int 0, .int 0, .int 0, .int 0, .long 0, .long 0, .long 0, .long 0, .long 0, .ref (qa 21), .int 0, .int 0, .int 0, .int 0]))] sz) := by
  refine Met.ofW (cc := b_Mo_word) (maxL := 3) (ret := (some .int)) (by decide) rfl ?_
  intro p e s m args below meth c s₁ B hml hv
  obtain ⟨rfl, hsz, hP, hK, hD0, hN, hZ⟩ := hv
  have hx := B.exec
  have hb := B.bytes
  have hr := B.returns
  have hlocks := B.notSynchronized
  have hts : ∀ w ∈ bw, w.before _ s = true := fun w h => atoms_spec (ws := Cond.code y_Mo_word b_Mo_word 3 (some .int) :: bw) B.pre w (List.mem_cons_of_mem _ h)
  have hown : s.vm.findClass "ObjectForgeModel" = some m.cls := findClass_of_methodNamed B.named
  subst hsz
  have hP0 := hP
  have hD := hD0.self (sz := s.heap.size)
  generalize hAe : va_A [(h0, .inr (7, [.int 0, .int 0, .int 0, .int 0, .int 0, .int 0, .int (-1), .int (-1), .int 0, .int 0, .int 0, .int 0, .int 0, .int 0, .int 0, .int 0, .ref (qa 0), .ref (qa 1), .ref (qa 2), .ref (qa 3), .int 0, .ref (qa 4), .ref (qa 5), .ref (qa 6), .ref (qa 7), .ref (qa 8), .ref (qa 9), .ref (qa 10), .ref (qa 11), .ref (qa 12), .ref (qa 13), .ref (qa 14), .ref (qa 15), .ref (qa 16), .ref (qa 17), .ref (qa 18), .ref (qa 19), .ref (qa 20), .int 0, .int 0, .int 0, .int 0, .long 0, .long 0, .long 0, .long 0, .long 0, .ref (qa 21), .int 0, .int 0, .int 0, .int 0]))] s.heap.size = A at hD hZ ⊢
  have hA : ∀ q : Nat, s.heap.size ≤ q → A q := fun q h => by rw [← hAe]; exact Or.inr h
  have hS : va_S A s.heap s.heap [] := va_S.rf
  have hl := lv_entry ([.ref h0, .int p0]) (n := 3) (Nat.le_of_ble_eq_true rfl)
  rw [lg_entry_eq]
  generalize (lg_sl ([.ref h0, .int p0]) ++ List.replicate (3 - (lg_sl ([.ref h0, .int p0])).length) Slot.unset).toArray = ls at hl ⊢
  have hl : lv_has ls 3 [(0, .ref h0), (1, .int p0)] := hl
  refine lv_aload_n hx hb d_Mo_word_0 rfl (lv_at hl 0 rfl) ?_
  refine lv_iconst (v := 0) hx hb d_Mo_word_1 (by decide) ?_
  refine va_put (D := D) (ci := 7) (v := .int 0) (ty := .int) (C := R_Mo) (T := F_Mo) (N := 52) hx hb hts i_Mo t_Mo t_Mo_ok n_Mo hown hK hP hD hS 0 rfl rfl 0 (by decide) (hts _ w_397) (fun _ h9 => h9) rfl (by decide +kernel) rfl rfl (Nat.le_of_ble_eq_true rfl) d_Mo_word_2 (fun H locs hP hD hS => ?_)
  have hP : va_P D cls [(h0, .inr (7, [.int 0, .int 0, .int 0, .int 0, .int 0, .int 0, .int (-1), .int (-1), .int 0, .int 0, .int 0, .int 0, .int 0, .int 0, .int 0, .int 0, .ref (qa 0), .ref (qa 1), .ref (qa 2), .ref (qa 3), .int 0, .ref (qa 4), .ref (qa 5), .ref (qa 6), .ref (qa 7), .ref (qa 8), .ref (qa 9), .ref (qa 10), .ref (qa 11), .ref (qa 12), .ref (qa 13), .ref (qa 14), .ref (qa 15), .ref (qa 16), .ref (qa 17), .ref (qa 18), .ref (qa 19), .ref (qa 20), .int 0, .int 0, .int 0, .int 0, .long 0, .long 0, .long 0, .long 0, .long 0, .ref (qa 21), .int 0, .int 0, .int 0, .int 0]))] H := hP
  have hD : va_D A [(h0, .inr (7, [.int 0, .int 0, .int 0, .int 0, .int 0, .int 0, .int (-1), .int (-1), .int 0, .int 0, .int 0, .int 0, .int 0, .int 0, .int 0, .int 0, .ref (qa 0), .ref (qa 1), .ref (qa 2), .ref (qa 3), .int 0, .ref (qa 4), .ref (qa 5), .ref (qa 6), .ref (qa 7), .ref (qa 8), .ref (qa 9), .ref (qa 10), .ref (qa 11), .ref (qa 12), .ref (qa 13), .ref (qa 14), .ref (qa 15), .ref (qa 16), .ref (qa 17), .ref (qa 18), .ref (qa 19), .ref (qa 20), .int 0, .int 0, .int 0, .int 0, .long 0, .long 0, .long 0, .long 0, .long 0, .ref (qa 21), .int 0, .int 0, .int 0, .int 0]))] := hD
  refine lv_iload_n hx hb d_Mo_word_5 rfl (lv_at hl 1 rfl) ?_
  refine lv_aload_n hx hb d_Mo_word_6 rfl (lv_at hl 0 rfl) ?_
  refine va_get (D := D) (ci := 7) (v := .int 0) (C := R_Mo) (T := F_Mo) (N := 52) hx hb hts i_Mo hown hK hP 0 rfl rfl 9 (by decide) (hts _ w_425) (fun _ h9 => h9) rfl d_Mo_word_7 ?_
  refine lv_isub hx hb d_Mo_word_10 ?_
  refine lv_istore_n (lv' := [(2, .int (p0 - 0)), (0, .ref h0), (1, .int p0)]) hx hb d_Mo_word_11 rfl hl (by decide) rfl (fun ls hl => ?_)
  refine lv_aload_n hx hb d_Mo_word_12 rfl (lv_at hl 1 rfl) ?_
  refine va_get (D := D) (ci := 7) (v := .int 0) (C := R_Mo) (T := F_Mo) (N := 52) hx hb hts i_Mo hown hK hP 0 rfl rfl 8 (by decide) (hts _ w_424) (fun _ h9 => h9) rfl d_Mo_word_13 ?_
  refine lv_if_eq (tgt := 39) hx hb d_Mo_word_16 (by decide) (fun _ => ?_) (fun q9 => absurd (by decide : ((0 : Int32) = 0)) q9)
  refine lv_aload_n hx hb d_Mo_word_39 rfl (lv_at hl 1 rfl) ?_
  refine lv_iconst (v := 1) hx hb d_Mo_word_40 (by decide) ?_
  refine xc_V (As := [.int 1]) (rest := []) (n := 1) (wc := [(h0, .inr (7, [.int 0, .int 0, .int 0, .int 0, .int 0, .int 0, .int (-1), .int (-1), .int 0, .int 0, .int 0, .int 0, .int 0, .int 0, .int 0, .int 0, .ref (qa 0), .ref (qa 1), .ref (qa 2), .ref (qa 3), .int 0, .ref (qa 4), .ref (qa 5), .ref (qa 6), .ref (qa 7), .ref (qa 8), .ref (qa 9), .ref (qa 10), .ref (qa 11), .ref (qa 12), .ref (qa 13), .ref (qa 14), .ref (qa 15), .ref (qa 16), .ref (qa 17), .ref (qa 18), .ref (qa 19), .ref (qa 20), .int 0, .int 0, .int 0, .int 0, .long 0, .long 0, .long 0, .long 0, .long 0, .ref (qa 21), .int 0, .int 0, .int 0, .int 0]))]) (wr := []) (tc := []) (tr := []) ⟨hx, hb, hml, hown, hts⟩ (c_Mo_refuse_1 l D h0 qa H.size) rfl rfl w_452 w_450 w_451 w_557 w_8 (by decide +kernel) ⟨Nat.le_of_ble_eq_true rfl, Nat.le_of_ble_eq_true rfl⟩ hP hD hK hS hA hN hZ [0] [] rfl rfl (by decide) (by decide) (by decide) [] [] rfl rfl (ci := 7) (q0 := 0) (q := (R_Mo, F_Mo, 52)) rfl rfl rfl rfl hl.1 rfl (Nat.le_of_ble_eq_true rfl) d_Mo_word_41 ⟨Nat.le_of_ble_eq_true rfl, Nat.le_of_ble_eq_true rfl⟩ (fun u1 H locs hP hD hK hS => ?_)
  have hP : va_P D cls [(h0, .inr (7, [.int 1, .int 0, .int 0, .int 0, .int 0, .int 0, .int (-1), .int (-1), .int 0, .int 0, .int 0, .int 0, .int 0, .int 0, .int 0, .int 0, .ref (qa 0), .ref (qa 1), .ref (qa 2), .ref (qa 3), .int 0, .ref (qa 4), .ref (qa 5), .ref (qa 6), .ref (qa 7), .ref (qa 8), .ref (qa 9), .ref (qa 10), .ref (qa 11), .ref (qa 12), .ref (qa 13), .ref (qa 14), .ref (qa 15), .ref (qa 16), .ref (qa 17), .ref (qa 18), .ref (qa 19), .ref (qa 20), .int 0, .int 0, .int 0, .int 0, .long 0, .long 0, .long 0, .long 0, .long 0, .ref (qa 21), .int 0, .int 0, .int 0, .int 0]))] H := hP
  have hD : va_D A [(h0, .inr (7, [.int 1, .int 0, .int 0, .int 0, .int 0, .int 0, .int (-1), .int (-1), .int 0, .int 0, .int 0, .int 0, .int 0, .int 0, .int 0, .int 0, .ref (qa 0), .ref (qa 1), .ref (qa 2), .ref (qa 3), .int 0, .ref (qa 4), .ref (qa 5), .ref (qa 6), .ref (qa 7), .ref (qa 8), .ref (qa 9), .ref (qa 10), .ref (qa 11), .ref (qa 12), .ref (qa 13), .ref (qa 14), .ref (qa 15), .ref (qa 16), .ref (qa 17), .ref (qa 18), .ref (qa 19), .ref (qa 20), .int 0, .int 0, .int 0, .int 0, .long 0, .long 0, .long 0, .long 0, .long 0, .ref (qa 21), .int 0, .int 0, .int 0, .int 0]))] := hD
  have hK : va_K D cls [] s := hK
  refine W.eq (g2 := F0 m 44 ls [.int 0]) rfl ?_
  exact xr_i hx hb hr hlocks hP hD hK hS (()) [0] rfl rfl (by decide) [] rfl rfl d_Mo_word_44

theorem d_Mo_clear_0 : decode b_Mo_clear 0 = .ok (.aload_n 0, 1) := by decide +kernel
theorem d_Mo_clear_1 : decode b_Mo_clear 1 = .ok (.iconst 0, 1) := by decide +kernel
theorem d_Mo_clear_2 : decode b_Mo_clear 2 = .ok (.putfield 88, 3) := by decide +kernel
theorem d_Mo_clear_5 : decode b_Mo_clear 5 = .ok (.aload_n 0, 1) := by decide +kernel
theorem d_Mo_clear_6 : decode b_Mo_clear 6 = .ok (.getfield 1010, 3) := by decide +kernel
theorem d_Mo_clear_9 : decode b_Mo_clear 9 = .ok (.istore_n 1, 1) := by decide +kernel
theorem d_Mo_clear_10 : decode b_Mo_clear 10 = .ok (.aload_n 0, 1) := by decide +kernel
theorem d_Mo_clear_11 : decode b_Mo_clear 11 = .ok (.iconst 0, 1) := by decide +kernel
theorem d_Mo_clear_12 : decode b_Mo_clear 12 = .ok (.putfield 1010, 3) := by decide +kernel
theorem d_Mo_clear_15 : decode b_Mo_clear 15 = .ok (.aload_n 0, 1) := by decide +kernel
theorem d_Mo_clear_16 : decode b_Mo_clear 16 = .ok (.iconst 0, 1) := by decide +kernel
theorem d_Mo_clear_17 : decode b_Mo_clear 17 = .ok (.putfield 1191, 3) := by decide +kernel
theorem d_Mo_clear_20 : decode b_Mo_clear 20 = .ok (.iload_n 1, 1) := by decide +kernel
theorem d_Mo_clear_21 : decode b_Mo_clear 21 = .ok (.ireturn, 1) := by decide +kernel
set_option maxHeartbeats 4000000 in
set_option maxRecDepth 100000 in
theorem c_Mo_clear (l : Launch) (D : va_G) (h0 : Nat) (qa : Nat → Nat) (sz : Nat) : Met l y_Mo_clear (Cond.code y_Mo_clear b_Mo_clear 2 (some .int) :: bw) (xR 1 0 0) (va_Pc [.ref h0] (xP D [] sz [(h0, .inr (7, [.int 0, .int 0, .int 0, .int 0, .int 0, .int 0, .int (-1), .int (-1), .int 0, .int 0, .int 0, .int 0, .int 0, .int 0, .int 0, .int 0, .ref (qa 0), .ref (qa 1), .ref (qa 2), .ref (qa 3), .int 0, .ref (qa 4), .ref (qa 5), .ref (qa 6), .ref (qa 7), .ref (qa 8), .ref (qa 9), .ref (qa 10), .ref (qa 11), .ref (qa 12), .ref (qa 13), .ref (qa 14), .ref (qa 15), .ref (qa 16), .ref (qa 17), .ref (qa 18), .ref (qa 19), .ref (qa 20), .int 0, .int 0, .int 0, .int 0, .long 0, .long 0, .long 0, .long 0, .long 0, .ref (qa 21), .int 0, .int 0, .int 0, .int 0]))])) (xQ (S := Unit) (fun _ => some (.int 0)) (fun _ => [(h0, .inr (7, [.int 0, .int 0, .int 0, .int 0, .int 0, .int 0, .int (-1), .int (-1), .int 0, .int 0, .int 0, .int 0, .int 0, .int 0, .int 0, .int 0, .ref (qa 0), .ref (qa 1), .ref (qa 2), .ref (qa 3), .int 0, .ref (qa 4), .ref (qa 5), .ref (qa 6), .ref (qa 7), .ref (qa 8), .ref (qa 9), .ref (qa 10), .ref (qa 11), .ref (qa 12), .ref (qa 13), .ref (qa 14), .ref (qa 15), .ref (qa 16), .ref (qa 17), .ref (qa 18), .ref (qa 19), .ref (qa 20), .int 0, .int 0, .int 0, .int 0, .long 0, .long 0, .long 0, .long 0, .long 0, .ref (qa 21), .int 0, .int 0, .int 0, .int 0]))]) (fun _ => []) D (va_A [(h0, .inr (7, [.int 0, .int 0, .int 0, .int 0, .int 0, .int 0, .int (-1), .int (-1), .int 0, .int 0, .int 0, .int 0, .int 0, .int 0, .int 0, .int 0, .ref (qa 0), .ref (qa 1), .ref (qa 2), .ref (qa 3), .int 0, .ref (qa 4), .ref (qa 5), .ref (qa 6), .ref (qa 7), .ref (qa 8), .ref (qa 9), .ref (qa 10), .ref (qa 11), .ref (qa 12), .ref (qa 13), .ref (qa 14), .ref (qa 15), .ref (qa 16), .ref (qa 17), .ref (qa 18), .ref (qa 19), .ref (qa 20), .int 0, .int 0, .int 0, .int 0, .long 0, .long 0, .long 0, .long 0, .long 0, .ref (qa 21), .int 0, .int 0, .int 0, .int 0]))] sz)) 0 0 (va_A [(h0, .inr (7, [.int 0, .int 0, .int 0, .int 0, .int 0, .int 0, .int (-1), .int (-1), .int 0, .int 0, .int 0, .int 0, .int 0, .int 0, .int 0, .int 0, .ref (qa 0), .ref (qa 1), .ref (qa 2), .ref (qa 3), .int 0, .ref (qa 4), .ref (qa 5), .ref (qa 6), .ref (qa 7), .ref (qa 8), .ref (qa 9), .ref (qa 10), .ref (qa 11), .ref (qa 12), .ref (qa 13), .ref (qa 14), .ref (qa 15), .ref (qa 16), .ref (qa 17), .ref (qa 18), .ref (qa 19), .ref (qa 20), .int 0, .int 0, .int 0, .int 0, .long 0, .long 0, .long 0, .long 0, .long 0, .ref (qa 21), .int 0, .int 0, .int 0, .int 0]))] sz) := by
  refine Met.ofW (cc := b_Mo_clear) (maxL := 2) (ret := (some .int)) (by decide) rfl ?_
  intro p e s m args below meth c s₁ B hml hv
  obtain ⟨rfl, hsz, hP, hK, hD0, hN, hZ⟩ := hv
  have hx := B.exec
  have hb := B.bytes
  have hr := B.returns
  have hlocks := B.notSynchronized
  have hts : ∀ w ∈ bw, w.before _ s = true := fun w h => atoms_spec (ws := Cond.code y_Mo_clear b_Mo_clear 2 (some .int) :: bw) B.pre w (List.mem_cons_of_mem _ h)
  have hown : s.vm.findClass "ObjectForgeModel" = some m.cls := findClass_of_methodNamed B.named
  subst hsz
  have hP0 := hP
  have hD := hD0.self (sz := s.heap.size)
  generalize hAe : va_A [(h0, .inr (7, [.int 0, .int 0, .int 0, .int 0, .int 0, .int 0, .int (-1), .int (-1), .int 0, .int 0, .int 0, .int 0, .int 0, .int 0, .int 0, .int 0, .ref (qa 0), .ref (qa 1), .ref (qa 2), .ref (qa 3), .int 0, .ref (qa 4), .ref (qa 5), .ref (qa 6), .ref (qa 7), .ref (qa 8), .ref (qa 9), .ref (qa 10), .ref (qa 11), .ref (qa 12), .ref (qa 13), .ref (qa 14), .ref (qa 15), .ref (qa 16), .ref (qa 17), .ref (qa 18), .ref (qa 19), .ref (qa 20), .int 0, .int 0, .int 0, .int 0, .long 0, .long 0, .long 0, .long 0, .long 0, .ref (qa 21), .int 0, .int 0, .int 0, .int 0]))] s.heap.size = A at hD hZ ⊢
  have hA : ∀ q : Nat, s.heap.size ≤ q → A q := fun q h => by rw [← hAe]; exact Or.inr h
  have hS : va_S A s.heap s.heap [] := va_S.rf
  have hl := lv_entry ([.ref h0]) (n := 2) (Nat.le_of_ble_eq_true rfl)
  rw [lg_entry_eq]
  generalize (lg_sl ([.ref h0]) ++ List.replicate (2 - (lg_sl ([.ref h0])).length) Slot.unset).toArray = ls at hl ⊢
  have hl : lv_has ls 2 [(0, .ref h0)] := hl
  refine lv_aload_n hx hb d_Mo_clear_0 rfl (lv_at hl 0 rfl) ?_
  refine lv_iconst (v := 0) hx hb d_Mo_clear_1 (by decide) ?_
  refine va_put (D := D) (ci := 7) (v := .int 0) (ty := .int) (C := R_Mo) (T := F_Mo) (N := 52) hx hb hts i_Mo t_Mo t_Mo_ok n_Mo hown hK hP hD hS 0 rfl rfl 0 (by decide) (hts _ w_397) (fun _ h9 => h9) rfl (by decide +kernel) rfl rfl (Nat.le_of_ble_eq_true rfl) d_Mo_clear_2 (fun H locs hP hD hS => ?_)
  have hP : va_P D cls [(h0, .inr (7, [.int 0, .int 0, .int 0, .int 0, .int 0, .int 0, .int (-1), .int (-1), .int 0, .int 0, .int 0, .int 0, .int 0, .int 0, .int 0, .int 0, .ref (qa 0), .ref (qa 1), .ref (qa 2), .ref (qa 3), .int 0, .ref (qa 4), .ref (qa 5), .ref (qa 6), .ref (qa 7), .ref (qa 8), .ref (qa 9), .ref (qa 10), .ref (qa 11), .ref (qa 12), .ref (qa 13), .ref (qa 14), .ref (qa 15), .ref (qa 16), .ref (qa 17), .ref (qa 18), .ref (qa 19), .ref (qa 20), .int 0, .int 0, .int 0, .int 0, .long 0, .long 0, .long 0, .long 0, .long 0, .ref (qa 21), .int 0, .int 0, .int 0, .int 0]))] H := hP
  have hD : va_D A [(h0, .inr (7, [.int 0, .int 0, .int 0, .int 0, .int 0, .int 0, .int (-1), .int (-1), .int 0, .int 0, .int 0, .int 0, .int 0, .int 0, .int 0, .int 0, .ref (qa 0), .ref (qa 1), .ref (qa 2), .ref (qa 3), .int 0, .ref (qa 4), .ref (qa 5), .ref (qa 6), .ref (qa 7), .ref (qa 8), .ref (qa 9), .ref (qa 10), .ref (qa 11), .ref (qa 12), .ref (qa 13), .ref (qa 14), .ref (qa 15), .ref (qa 16), .ref (qa 17), .ref (qa 18), .ref (qa 19), .ref (qa 20), .int 0, .int 0, .int 0, .int 0, .long 0, .long 0, .long 0, .long 0, .long 0, .ref (qa 21), .int 0, .int 0, .int 0, .int 0]))] := hD
  refine lv_aload_n hx hb d_Mo_clear_5 rfl (lv_at hl 0 rfl) ?_
  refine va_get (D := D) (ci := 7) (v := .int 0) (C := R_Mo) (T := F_Mo) (N := 52) hx hb hts i_Mo hown hK hP 0 rfl rfl 2 (by decide) (hts _ w_400) (fun _ h9 => h9) rfl d_Mo_clear_6 ?_
  refine lv_istore_n (lv' := [(1, .int 0), (0, .ref h0)]) hx hb d_Mo_clear_9 rfl hl (by decide) rfl (fun ls hl => ?_)
  refine lv_aload_n hx hb d_Mo_clear_10 rfl (lv_at hl 1 rfl) ?_
  refine lv_iconst (v := 0) hx hb d_Mo_clear_11 (by decide) ?_
  refine va_put (D := D) (ci := 7) (v := .int 0) (ty := .int) (C := R_Mo) (T := F_Mo) (N := 52) hx hb hts i_Mo t_Mo t_Mo_ok n_Mo hown hK hP hD hS 0 rfl rfl 2 (by decide) (hts _ w_400) (fun _ h9 => h9) rfl (by decide +kernel) rfl rfl (Nat.le_of_ble_eq_true rfl) d_Mo_clear_12 (fun H locs hP hD hS => ?_)
  have hP : va_P D cls [(h0, .inr (7, [.int 0, .int 0, .int 0, .int 0, .int 0, .int 0, .int (-1), .int (-1), .int 0, .int 0, .int 0, .int 0, .int 0, .int 0, .int 0, .int 0, .ref (qa 0), .ref (qa 1), .ref (qa 2), .ref (qa 3), .int 0, .ref (qa 4), .ref (qa 5), .ref (qa 6), .ref (qa 7), .ref (qa 8), .ref (qa 9), .ref (qa 10), .ref (qa 11), .ref (qa 12), .ref (qa 13), .ref (qa 14), .ref (qa 15), .ref (qa 16), .ref (qa 17), .ref (qa 18), .ref (qa 19), .ref (qa 20), .int 0, .int 0, .int 0, .int 0, .long 0, .long 0, .long 0, .long 0, .long 0, .ref (qa 21), .int 0, .int 0, .int 0, .int 0]))] H := hP
  have hD : va_D A [(h0, .inr (7, [.int 0, .int 0, .int 0, .int 0, .int 0, .int 0, .int (-1), .int (-1), .int 0, .int 0, .int 0, .int 0, .int 0, .int 0, .int 0, .int 0, .ref (qa 0), .ref (qa 1), .ref (qa 2), .ref (qa 3), .int 0, .ref (qa 4), .ref (qa 5), .ref (qa 6), .ref (qa 7), .ref (qa 8), .ref (qa 9), .ref (qa 10), .ref (qa 11), .ref (qa 12), .ref (qa 13), .ref (qa 14), .ref (qa 15), .ref (qa 16), .ref (qa 17), .ref (qa 18), .ref (qa 19), .ref (qa 20), .int 0, .int 0, .int 0, .int 0, .long 0, .long 0, .long 0, .long 0, .long 0, .ref (qa 21), .int 0, .int 0, .int 0, .int 0]))] := hD
  refine lv_aload_n hx hb d_Mo_clear_15 rfl (lv_at hl 1 rfl) ?_
  refine lv_iconst (v := 0) hx hb d_Mo_clear_16 (by decide) ?_
  refine va_put (D := D) (ci := 7) (v := .int 0) (ty := .boolean) (C := R_Mo) (T := F_Mo) (N := 52) hx hb hts i_Mo t_Mo t_Mo_ok n_Mo hown hK hP hD hS 0 rfl rfl 8 (by decide) (hts _ w_424) (fun _ h9 => h9) rfl (by decide +kernel) rfl rfl (Nat.le_of_ble_eq_true rfl) d_Mo_clear_17 (fun H locs hP hD hS => ?_)
  have hP : va_P D cls [(h0, .inr (7, [.int 0, .int 0, .int 0, .int 0, .int 0, .int 0, .int (-1), .int (-1), .int 0, .int 0, .int 0, .int 0, .int 0, .int 0, .int 0, .int 0, .ref (qa 0), .ref (qa 1), .ref (qa 2), .ref (qa 3), .int 0, .ref (qa 4), .ref (qa 5), .ref (qa 6), .ref (qa 7), .ref (qa 8), .ref (qa 9), .ref (qa 10), .ref (qa 11), .ref (qa 12), .ref (qa 13), .ref (qa 14), .ref (qa 15), .ref (qa 16), .ref (qa 17), .ref (qa 18), .ref (qa 19), .ref (qa 20), .int 0, .int 0, .int 0, .int 0, .long 0, .long 0, .long 0, .long 0, .long 0, .ref (qa 21), .int 0, .int 0, .int 0, .int 0]))] H := hP
  have hD : va_D A [(h0, .inr (7, [.int 0, .int 0, .int 0, .int 0, .int 0, .int 0, .int (-1), .int (-1), .int 0, .int 0, .int 0, .int 0, .int 0, .int 0, .int 0, .int 0, .ref (qa 0), .ref (qa 1), .ref (qa 2), .ref (qa 3), .int 0, .ref (qa 4), .ref (qa 5), .ref (qa 6), .ref (qa 7), .ref (qa 8), .ref (qa 9), .ref (qa 10), .ref (qa 11), .ref (qa 12), .ref (qa 13), .ref (qa 14), .ref (qa 15), .ref (qa 16), .ref (qa 17), .ref (qa 18), .ref (qa 19), .ref (qa 20), .int 0, .int 0, .int 0, .int 0, .long 0, .long 0, .long 0, .long 0, .long 0, .ref (qa 21), .int 0, .int 0, .int 0, .int 0]))] := hD
  refine lv_iload_n hx hb d_Mo_clear_20 rfl (lv_at hl 0 rfl) ?_
  exact xr_i hx hb hr hlocks hP hD hK hS (()) [0] rfl rfl (by decide) [] rfl rfl d_Mo_clear_21

theorem d_Mo_count_0 : decode b_Mo_count 0 = .ok (.aload_n 0, 1) := by decide +kernel
theorem d_Mo_count_1 : decode b_Mo_count 1 = .ok (.iconst 0, 1) := by decide +kernel
theorem d_Mo_count_2 : decode b_Mo_count 2 = .ok (.putfield 88, 3) := by decide +kernel
theorem d_Mo_count_5 : decode b_Mo_count 5 = .ok (.iload_n 1, 1) := by decide +kernel
theorem d_Mo_count_6 : decode b_Mo_count 6 = .ok (.iconst 4, 1) := by decide +kernel
theorem d_Mo_count_7 : decode b_Mo_count 7 = .ok (.invokestatic 1181, 3) := by decide +kernel
theorem d_Mo_count_10 : decode b_Mo_count 10 = .ok (.ifCond .eq 19, 3) := by decide +kernel
theorem d_Mo_count_13 : decode b_Mo_count 13 = .ok (.iload_n 1, 1) := by decide +kernel
theorem d_Mo_count_14 : decode b_Mo_count 14 = .ok (.iconst 1, 1) := by decide +kernel
theorem d_Mo_count_15 : decode b_Mo_count 15 = .ok (.if_icmp .le 20, 3) := by decide +kernel
theorem d_Mo_count_35 : decode b_Mo_count 35 = .ok (.iload_n 1, 1) := by decide +kernel
theorem d_Mo_count_36 : decode b_Mo_count 36 = .ok (.ifCond .ne 10, 3) := by decide +kernel
theorem d_Mo_count_39 : decode b_Mo_count 39 = .ok (.aload_n 0, 1) := by decide +kernel
theorem d_Mo_count_40 : decode b_Mo_count 40 = .ok (.getfield 91, 3) := by decide +kernel
theorem d_Mo_count_43 : decode b_Mo_count 43 = .ok (.goto 35, 3) := by decide +kernel
theorem d_Mo_count_78 : decode b_Mo_count 78 = .ok (.ireturn, 1) := by decide +kernel
set_option maxHeartbeats 4000000 in
set_option maxRecDepth 100000 in
theorem c_Mo_count_0 (l : Launch) (D : va_G) (h0 : Nat) (qa : Nat → Nat) (p1 : Int32) (sz : Nat) : Met l y_Mo_count (Cond.code y_Mo_count b_Mo_count 3 (some .int) :: bw) (xR 2 0 0) (va_Pc [.ref h0, .int 0, .int p1] (xP D [] sz [(h0, .inr (7, [.int 0, .int 0, .int 0, .int 0, .int 0, .int 0, .int (-1), .int (-1), .int 0, .int 0, .int 0, .int 0, .int 0, .int 0, .int 0, .int 0, .ref (qa 0), .ref (qa 1), .ref (qa 2), .ref (qa 3), .int 0, .ref (qa 4), .ref (qa 5), .ref (qa 6), .ref (qa 7), .ref (qa 8), .ref (qa 9), .ref (qa 10), .ref (qa 11), .ref (qa 12), .ref (qa 13), .ref (qa 14), .ref (qa 15), .ref (qa 16), .ref (qa 17), .ref (qa 18), .ref (qa 19), .ref (qa 20), .int 0, .int 0, .int 0, .int 0, .long 0, .long 0, .long 0, .long 0, .long 0, .ref (qa 21), .int 0, .int 0, .int 0, .int 0]))])) (xQ (S := Unit) (fun _ => some (.int 0)) (fun _ => [(h0, .inr (7, [.int 0, .int 0, .int 0, .int 0, .int 0, .int 0, .int (-1), .int (-1), .int 0, .int 0, .int 0, .int 0, .int 0, .int 0, .int 0, .int 0, .ref (qa 0), .ref (qa 1), .ref (qa 2), .ref (qa 3), .int 0, .ref (qa 4), .ref (qa 5), .ref (qa 6), .ref (qa 7), .ref (qa 8), .ref (qa 9), .ref (qa 10), .ref (qa 11), .ref (qa 12), .ref (qa 13), .ref (qa 14), .ref (qa 15), .ref (qa 16), .ref (qa 17), .ref (qa 18), .ref (qa 19), .ref (qa 20), .int 0, .int 0, .int 0, .int 0, .long 0, .long 0, .long 0, .long 0, .long 0, .ref (qa 21), .int 0, .int 0, .int 0, .int 0]))]) (fun _ => []) D (va_A [(h0, .inr (7, [.int 0, .int 0, .int 0, .int 0, .int 0, .int 0, .int (-1), .int (-1), .int 0, .int 0, .int 0, .int 0, .int 0, .int 0, .int 0, .int 0, .ref (qa 0), .ref (qa 1), .ref (qa 2), .ref (qa 3), .int 0, .ref (qa 4), .ref (qa 5), .ref (qa 6), .ref (qa 7), .ref (qa 8), .ref (qa 9), .ref (qa 10), .ref (qa 11), .ref (qa 12), .ref (qa 13), .ref (qa 14), .ref (qa 15), .ref (qa 16), .ref (qa 17), .ref (qa 18), .ref (qa 19), .ref (qa 20), .int 0, .int 0, .int 0, .int 0, .long 0, .long 0, .long 0, .long 0, .long 0, .ref (qa 21), .int 0, .int 0, .int 0, .int 0]))] sz)) 0 0 (va_A [(h0, .inr (7, [.int 0, .int 0, .int 0, .int 0, .int 0, .int 0, .int (-1), .int (-1), .int 0, .int 0, .int 0, .int 0, .int 0, .int 0, .int 0, .int 0, .ref (qa 0), .ref (qa 1), .ref (qa 2), .ref (qa 3), .int 0, .ref (qa 4), .ref (qa 5), .ref (qa 6), .ref (qa 7), .ref (qa 8), .ref (qa 9), .ref (qa 10), .ref (qa 11), .ref (qa 12), .ref (qa 13), .ref (qa 14), .ref (qa 15), .ref (qa 16), .ref (qa 17), .ref (qa 18), .ref (qa 19), .ref (qa 20), .int 0, .int 0, .int 0, .int 0, .long 0, .long 0, .long 0, .long 0, .long 0, .ref (qa 21), .int 0, .int 0, .int 0, .int 0]))] sz) := by
  refine Met.ofW (cc := b_Mo_count) (maxL := 3) (ret := (some .int)) (by decide) rfl ?_
  intro p e s m args below meth c s₁ B hml hv
  obtain ⟨rfl, hsz, hP, hK, hD0, hN, hZ⟩ := hv
  have hx := B.exec
  have hb := B.bytes
  have hr := B.returns
  have hlocks := B.notSynchronized
  have hts : ∀ w ∈ bw, w.before _ s = true := fun w h => atoms_spec (ws := Cond.code y_Mo_count b_Mo_count 3 (some .int) :: bw) B.pre w (List.mem_cons_of_mem _ h)
  have hown : s.vm.findClass "ObjectForgeModel" = some m.cls := findClass_of_methodNamed B.named
  subst hsz
  have hP0 := hP
  have hD := hD0.self (sz := s.heap.size)
  generalize hAe : va_A [(h0, .inr (7, [.int 0, .int 0, .int 0, .int 0, .int 0, .int 0, .int (-1), .int (-1), .int 0, .int 0, .int 0, .int 0, .int 0, .int 0, .int 0, .int 0, .ref (qa 0), .ref (qa 1), .ref (qa 2), .ref (qa 3), .int 0, .ref (qa 4), .ref (qa 5), .ref (qa 6), .ref (qa 7), .ref (qa 8), .ref (qa 9), .ref (qa 10), .ref (qa 11), .ref (qa 12), .ref (qa 13), .ref (qa 14), .ref (qa 15), .ref (qa 16), .ref (qa 17), .ref (qa 18), .ref (qa 19), .ref (qa 20), .int 0, .int 0, .int 0, .int 0, .long 0, .long 0, .long 0, .long 0, .long 0, .ref (qa 21), .int 0, .int 0, .int 0, .int 0]))] s.heap.size = A at hD hZ ⊢
  have hA : ∀ q : Nat, s.heap.size ≤ q → A q := fun q h => by rw [← hAe]; exact Or.inr h
  have hS : va_S A s.heap s.heap [] := va_S.rf
  have hl := lv_entry ([.ref h0, .int 0, .int p1]) (n := 3) (Nat.le_of_ble_eq_true rfl)
  rw [lg_entry_eq]
  generalize (lg_sl ([.ref h0, .int 0, .int p1]) ++ List.replicate (3 - (lg_sl ([.ref h0, .int 0, .int p1])).length) Slot.unset).toArray = ls at hl ⊢
  have hl : lv_has ls 3 [(0, .ref h0), (1, .int 0), (2, .int p1)] := hl
  refine lv_aload_n hx hb d_Mo_count_0 rfl (lv_at hl 0 rfl) ?_
  refine lv_iconst (v := 0) hx hb d_Mo_count_1 (by decide) ?_
  refine va_put (D := D) (ci := 7) (v := .int 0) (ty := .int) (C := R_Mo) (T := F_Mo) (N := 52) hx hb hts i_Mo t_Mo t_Mo_ok n_Mo hown hK hP hD hS 0 rfl rfl 0 (by decide) (hts _ w_397) (fun _ h9 => h9) rfl (by decide +kernel) rfl rfl (Nat.le_of_ble_eq_true rfl) d_Mo_count_2 (fun H locs hP hD hS => ?_)
  have hP : va_P D cls [(h0, .inr (7, [.int 0, .int 0, .int 0, .int 0, .int 0, .int 0, .int (-1), .int (-1), .int 0, .int 0, .int 0, .int 0, .int 0, .int 0, .int 0, .int 0, .ref (qa 0), .ref (qa 1), .ref (qa 2), .ref (qa 3), .int 0, .ref (qa 4), .ref (qa 5), .ref (qa 6), .ref (qa 7), .ref (qa 8), .ref (qa 9), .ref (qa 10), .ref (qa 11), .ref (qa 12), .ref (qa 13), .ref (qa 14), .ref (qa 15), .ref (qa 16), .ref (qa 17), .ref (qa 18), .ref (qa 19), .ref (qa 20), .int 0, .int 0, .int 0, .int 0, .long 0, .long 0, .long 0, .long 0, .long 0, .ref (qa 21), .int 0, .int 0, .int 0, .int 0]))] H := hP
  have hD : va_D A [(h0, .inr (7, [.int 0, .int 0, .int 0, .int 0, .int 0, .int 0, .int (-1), .int (-1), .int 0, .int 0, .int 0, .int 0, .int 0, .int 0, .int 0, .int 0, .ref (qa 0), .ref (qa 1), .ref (qa 2), .ref (qa 3), .int 0, .ref (qa 4), .ref (qa 5), .ref (qa 6), .ref (qa 7), .ref (qa 8), .ref (qa 9), .ref (qa 10), .ref (qa 11), .ref (qa 12), .ref (qa 13), .ref (qa 14), .ref (qa 15), .ref (qa 16), .ref (qa 17), .ref (qa 18), .ref (qa 19), .ref (qa 20), .int 0, .int 0, .int 0, .int 0, .long 0, .long 0, .long 0, .long 0, .long 0, .ref (qa 21), .int 0, .int 0, .int 0, .int 0]))] := hD
  refine lv_iload_n hx hb d_Mo_count_5 rfl (lv_at hl 1 rfl) ?_
  refine lv_iconst (v := 4) hx hb d_Mo_count_6 (by decide) ?_
  refine xc_S (As := [.int 0, .int 4]) (rest := []) (n := 2) (wc := []) (wr := [(h0, .inr (7, [.int 0, .int 0, .int 0, .int 0, .int 0, .int 0, .int (-1), .int (-1), .int 0, .int 0, .int 0, .int 0, .int 0, .int 0, .int 0, .int 0, .ref (qa 0), .ref (qa 1), .ref (qa 2), .ref (qa 3), .int 0, .ref (qa 4), .ref (qa 5), .ref (qa 6), .ref (qa 7), .ref (qa 8), .ref (qa 9), .ref (qa 10), .ref (qa 11), .ref (qa 12), .ref (qa 13), .ref (qa 14), .ref (qa 15), .ref (qa 16), .ref (qa 17), .ref (qa 18), .ref (qa 19), .ref (qa 20), .int 0, .int 0, .int 0, .int 0, .long 0, .long 0, .long 0, .long 0, .long 0, .ref (qa 21), .int 0, .int 0, .int 0, .int 0]))]) (tc := []) (tr := []) ⟨hx, hb, hml, hown, hts⟩ (c_Mo_within_0 l D H.size) rfl rfl w_510 w_508 w_509 w_8 (by decide +kernel) ⟨Nat.le_of_ble_eq_true rfl, Nat.le_of_ble_eq_true rfl⟩ hP hD hK hS hA hN hZ [] [0] rfl rfl (by decide) (by decide) (by decide) [] [] rfl rfl rfl hl.1 rfl (Nat.le_of_ble_eq_true rfl) d_Mo_count_7 ⟨Nat.le_of_ble_eq_true rfl, Nat.le_of_ble_eq_true rfl⟩ (fun u1 H locs hP hD hK hS => ?_)
  have hP : va_P D cls [(h0, .inr (7, [.int 0, .int 0, .int 0, .int 0, .int 0, .int 0, .int (-1), .int (-1), .int 0, .int 0, .int 0, .int 0, .int 0, .int 0, .int 0, .int 0, .ref (qa 0), .ref (qa 1), .ref (qa 2), .ref (qa 3), .int 0, .ref (qa 4), .ref (qa 5), .ref (qa 6), .ref (qa 7), .ref (qa 8), .ref (qa 9), .ref (qa 10), .ref (qa 11), .ref (qa 12), .ref (qa 13), .ref (qa 14), .ref (qa 15), .ref (qa 16), .ref (qa 17), .ref (qa 18), .ref (qa 19), .ref (qa 20), .int 0, .int 0, .int 0, .int 0, .long 0, .long 0, .long 0, .long 0, .long 0, .ref (qa 21), .int 0, .int 0, .int 0, .int 0]))] H := hP
  have hD : va_D A [(h0, .inr (7, [.int 0, .int 0, .int 0, .int 0, .int 0, .int 0, .int (-1), .int (-1), .int 0, .int 0, .int 0, .int 0, .int 0, .int 0, .int 0, .int 0, .ref (qa 0), .ref (qa 1), .ref (qa 2), .ref (qa 3), .int 0, .ref (qa 4), .ref (qa 5), .ref (qa 6), .ref (qa 7), .ref (qa 8), .ref (qa 9), .ref (qa 10), .ref (qa 11), .ref (qa 12), .ref (qa 13), .ref (qa 14), .ref (qa 15), .ref (qa 16), .ref (qa 17), .ref (qa 18), .ref (qa 19), .ref (qa 20), .int 0, .int 0, .int 0, .int 0, .long 0, .long 0, .long 0, .long 0, .long 0, .ref (qa 21), .int 0, .int 0, .int 0, .int 0]))] := hD
  have hK : va_K D cls [] s := hK
  refine W.eq (g2 := F0 m 10 ls [.int 1]) rfl ?_
  refine lv_if_eq (tgt := 29) hx hb d_Mo_count_10 (by decide) (fun q9 => absurd q9 (by decide : ¬ ((1 : Int32) = 0))) (fun _ => ?_)
  refine lv_iload_n hx hb d_Mo_count_13 rfl (lv_at hl 1 rfl) ?_
  refine lv_iconst (v := 1) hx hb d_Mo_count_14 (by decide) ?_
  refine lv_icmp_le (tgt := 35) hx hb d_Mo_count_15 (by decide) (fun _ => ?_) (fun q9 => absurd (by decide : ((0 : Int32) ≤ 1)) q9)
  refine lv_iload_n hx hb d_Mo_count_35 rfl (lv_at hl 1 rfl) ?_
  refine lv_if_ne (tgt := 46) hx hb d_Mo_count_36 (by decide) (fun q9 => absurd (by decide : ((0 : Int32) = 0)) q9) (fun _ => ?_)
  refine lv_aload_n hx hb d_Mo_count_39 rfl (lv_at hl 0 rfl) ?_
  refine va_get (D := D) (ci := 7) (v := .int 0) (C := R_Mo) (T := F_Mo) (N := 52) hx hb hts i_Mo hown hK hP 0 rfl rfl 1 (by decide) (hts _ w_398) (fun _ h9 => h9) rfl d_Mo_count_40 ?_
  refine lv_goto (tgt := 78) hx hb d_Mo_count_43 (by decide) ?_
  exact xr_i hx hb hr hlocks hP hD hK hS (()) [0] rfl rfl (by decide) [] rfl rfl d_Mo_count_78

theorem d_Mo_count_46 : decode b_Mo_count 46 = .ok (.iload_n 1, 1) := by decide +kernel
theorem d_Mo_count_47 : decode b_Mo_count 47 = .ok (.iconst 1, 1) := by decide +kernel
theorem d_Mo_count_48 : decode b_Mo_count 48 = .ok (.if_icmp .ne 10, 3) := by decide +kernel
theorem d_Mo_count_51 : decode b_Mo_count 51 = .ok (.aload_n 0, 1) := by decide +kernel
theorem d_Mo_count_52 : decode b_Mo_count 52 = .ok (.getfield 1010, 3) := by decide +kernel
theorem d_Mo_count_55 : decode b_Mo_count 55 = .ok (.goto 23, 3) := by decide +kernel
set_option maxHeartbeats 4000000 in
set_option maxRecDepth 100000 in
theorem c_Mo_count_1 (l : Launch) (D : va_G) (h0 : Nat) (qa : Nat → Nat) (p1 : Int32) (sz : Nat) : Met l y_Mo_count (Cond.code y_Mo_count b_Mo_count 3 (some .int) :: bw) (xR 2 0 0) (va_Pc [.ref h0, .int 1, .int p1] (xP D [] sz [(h0, .inr (7, [.int 0, .int 0, .int 0, .int 0, .int 0, .int 0, .int (-1), .int (-1), .int 0, .int 0, .int 0, .int 0, .int 0, .int 0, .int 0, .int 0, .ref (qa 0), .ref (qa 1), .ref (qa 2), .ref (qa 3), .int 0, .ref (qa 4), .ref (qa 5), .ref (qa 6), .ref (qa 7), .ref (qa 8), .ref (qa 9), .ref (qa 10), .ref (qa 11), .ref (qa 12), .ref (qa 13), .ref (qa 14), .ref (qa 15), .ref (qa 16), .ref (qa 17), .ref (qa 18), .ref (qa 19), .ref (qa 20), .int 0, .int 0, .int 0, .int 0, .long 0, .long 0, .long 0, .long 0, .long 0, .ref (qa 21), .int 0, .int 0, .int 0, .int 0]))])) (xQ (S := Unit) (fun _ => some (.int 0)) (fun _ => [(h0, .inr (7, [.int 0, .int 0, .int 0, .int 0, .int 0, .int 0, .int (-1), .int (-1), .int 0, .int 0, .int 0, .int 0, .int 0, .int 0, .int 0, .int 0, .ref (qa 0), .ref (qa 1), .ref (qa 2), .ref (qa 3), .int 0, .ref (qa 4), .ref (qa 5), .ref (qa 6), .ref (qa 7), .ref (qa 8), .ref (qa 9), .ref (qa 10), .ref (qa 11), .ref (qa 12), .ref (qa 13), .ref (qa 14), .ref (qa 15), .ref (qa 16), .ref (qa 17), .ref (qa 18), .ref (qa 19), .ref (qa 20), .int 0, .int 0, .int 0, .int 0, .long 0, .long 0, .long 0, .long 0, .long 0, .ref (qa 21), .int 0, .int 0, .int 0, .int 0]))]) (fun _ => []) D (va_A [(h0, .inr (7, [.int 0, .int 0, .int 0, .int 0, .int 0, .int 0, .int (-1), .int (-1), .int 0, .int 0, .int 0, .int 0, .int 0, .int 0, .int 0, .int 0, .ref (qa 0), .ref (qa 1), .ref (qa 2), .ref (qa 3), .int 0, .ref (qa 4), .ref (qa 5), .ref (qa 6), .ref (qa 7), .ref (qa 8), .ref (qa 9), .ref (qa 10), .ref (qa 11), .ref (qa 12), .ref (qa 13), .ref (qa 14), .ref (qa 15), .ref (qa 16), .ref (qa 17), .ref (qa 18), .ref (qa 19), .ref (qa 20), .int 0, .int 0, .int 0, .int 0, .long 0, .long 0, .long 0, .long 0, .long 0, .ref (qa 21), .int 0, .int 0, .int 0, .int 0]))] sz)) 0 0 (va_A [(h0, .inr (7, [.int 0, .int 0, .int 0, .int 0, .int 0, .int 0, .int (-1), .int (-1), .int 0, .int 0, .int 0, .int 0, .int 0, .int 0, .int 0, .int 0, .ref (qa 0), .ref (qa 1), .ref (qa 2), .ref (qa 3), .int 0, .ref (qa 4), .ref (qa 5), .ref (qa 6), .ref (qa 7), .ref (qa 8), .ref (qa 9), .ref (qa 10), .ref (qa 11), .ref (qa 12), .ref (qa 13), .ref (qa 14), .ref (qa 15), .ref (qa 16), .ref (qa 17), .ref (qa 18), .ref (qa 19), .ref (qa 20), .int 0, .int 0, .int 0, .int 0, .long 0, .long 0, .long 0, .long 0, .long 0, .ref (qa 21), .int 0, .int 0, .int 0, .int 0]))] sz) := by
  refine Met.ofW (cc := b_Mo_count) (maxL := 3) (ret := (some .int)) (by decide) rfl ?_
  intro p e s m args below meth c s₁ B hml hv
  obtain ⟨rfl, hsz, hP, hK, hD0, hN, hZ⟩ := hv
  have hx := B.exec
  have hb := B.bytes
  have hr := B.returns
  have hlocks := B.notSynchronized
  have hts : ∀ w ∈ bw, w.before _ s = true := fun w h => atoms_spec (ws := Cond.code y_Mo_count b_Mo_count 3 (some .int) :: bw) B.pre w (List.mem_cons_of_mem _ h)
  have hown : s.vm.findClass "ObjectForgeModel" = some m.cls := findClass_of_methodNamed B.named
  subst hsz
  have hP0 := hP
  have hD := hD0.self (sz := s.heap.size)
  generalize hAe : va_A [(h0, .inr (7, [.int 0, .int 0, .int 0, .int 0, .int 0, .int 0, .int (-1), .int (-1), .int 0, .int 0, .int 0, .int 0, .int 0, .int 0, .int 0, .int 0, .ref (qa 0), .ref (qa 1), .ref (qa 2), .ref (qa 3), .int 0, .ref (qa 4), .ref (qa 5), .ref (qa 6), .ref (qa 7), .ref (qa 8), .ref (qa 9), .ref (qa 10), .ref (qa 11), .ref (qa 12), .ref (qa 13), .ref (qa 14), .ref (qa 15), .ref (qa 16), .ref (qa 17), .ref (qa 18), .ref (qa 19), .ref (qa 20), .int 0, .int 0, .int 0, .int 0, .long 0, .long 0, .long 0, .long 0, .long 0, .ref (qa 21), .int 0, .int 0, .int 0, .int 0]))] s.heap.size = A at hD hZ ⊢
  have hA : ∀ q : Nat, s.heap.size ≤ q → A q := fun q h => by rw [← hAe]; exact Or.inr h
  have hS : va_S A s.heap s.heap [] := va_S.rf
  have hl := lv_entry ([.ref h0, .int 1, .int p1]) (n := 3) (Nat.le_of_ble_eq_true rfl)
  rw [lg_entry_eq]
  generalize (lg_sl ([.ref h0, .int 1, .int p1]) ++ List.replicate (3 - (lg_sl ([.ref h0, .int 1, .int p1])).length) Slot.unset).toArray = ls at hl ⊢
  have hl : lv_has ls 3 [(0, .ref h0), (1, .int 1), (2, .int p1)] := hl
  refine lv_aload_n hx hb d_Mo_count_0 rfl (lv_at hl 0 rfl) ?_
  refine lv_iconst (v := 0) hx hb d_Mo_count_1 (by decide) ?_
  refine va_put (D := D) (ci := 7) (v := .int 0) (ty := .int) (C := R_Mo) (T := F_Mo) (N := 52) hx hb hts i_Mo t_Mo t_Mo_ok n_Mo hown hK hP hD hS 0 rfl rfl 0 (by decide) (hts _ w_397) (fun _ h9 => h9) rfl (by decide +kernel) rfl rfl (Nat.le_of_ble_eq_true rfl) d_Mo_count_2 (fun H locs hP hD hS => ?_)
  have hP : va_P D cls [(h0, .inr (7, [.int 0, .int 0, .int 0, .int 0, .int 0, .int 0, .int (-1), .int (-1), .int 0, .int 0, .int 0, .int 0, .int 0, .int 0, .int 0, .int 0, .ref (qa 0), .ref (qa 1), .ref (qa 2), .ref (qa 3), .int 0, .ref (qa 4), .ref (qa 5), .ref (qa 6), .ref (qa 7), .ref (qa 8), .ref (qa 9), .ref (qa 10), .ref (qa 11), .ref (qa 12), .ref (qa 13), .ref (qa 14), .ref (qa 15), .ref (qa 16), .ref (qa 17), .ref (qa 18), .ref (qa 19), .ref (qa 20), .int 0, .int 0, .int 0, .int 0, .long 0, .long 0, .long 0, .long 0, .long 0, .ref (qa 21), .int 0, .int 0, .int 0, .int 0]))] H := hP
  have hD : va_D A [(h0, .inr (7, [.int 0, .int 0, .int 0, .int 0, .int 0, .int 0, .int (-1), .int (-1), .int 0, .int 0, .int 0, .int 0, .int 0, .int 0, .int 0, .int 0, .ref (qa 0), .ref (qa 1), .ref (qa 2), .ref (qa 3), .int 0, .ref (qa 4), .ref (qa 5), .ref (qa 6), .ref (qa 7), .ref (qa 8), .ref (qa 9), .ref (qa 10), .ref (qa 11), .ref (qa 12), .ref (qa 13), .ref (qa 14), .ref (qa 15), .ref (qa 16), .ref (qa 17), .ref (qa 18), .ref (qa 19), .ref (qa 20), .int 0, .int 0, .int 0, .int 0, .long 0, .long 0, .long 0, .long 0, .long 0, .ref (qa 21), .int 0, .int 0, .int 0, .int 0]))] := hD
  refine lv_iload_n hx hb d_Mo_count_5 rfl (lv_at hl 1 rfl) ?_
  refine lv_iconst (v := 4) hx hb d_Mo_count_6 (by decide) ?_
  refine xc_S (As := [.int 1, .int 4]) (rest := []) (n := 2) (wc := []) (wr := [(h0, .inr (7, [.int 0, .int 0, .int 0, .int 0, .int 0, .int 0, .int (-1), .int (-1), .int 0, .int 0, .int 0, .int 0, .int 0, .int 0, .int 0, .int 0, .ref (qa 0), .ref (qa 1), .ref (qa 2), .ref (qa 3), .int 0, .ref (qa 4), .ref (qa 5), .ref (qa 6), .ref (qa 7), .ref (qa 8), .ref (qa 9), .ref (qa 10), .ref (qa 11), .ref (qa 12), .ref (qa 13), .ref (qa 14), .ref (qa 15), .ref (qa 16), .ref (qa 17), .ref (qa 18), .ref (qa 19), .ref (qa 20), .int 0, .int 0, .int 0, .int 0, .long 0, .long 0, .long 0, .long 0, .long 0, .ref (qa 21), .int 0, .int 0, .int 0, .int 0]))]) (tc := []) (tr := []) ⟨hx, hb, hml, hown, hts⟩ (c_Mo_within_1 l D H.size) rfl rfl w_510 w_508 w_509 w_8 (by decide +kernel) ⟨Nat.le_of_ble_eq_true rfl, Nat.le_of_ble_eq_true rfl⟩ hP hD hK hS hA hN hZ [] [0] rfl rfl (by decide) (by decide) (by decide) [] [] rfl rfl rfl hl.1 rfl (Nat.le_of_ble_eq_true rfl) d_Mo_count_7 ⟨Nat.le_of_ble_eq_true rfl, Nat.le_of_ble_eq_true rfl⟩ (fun u1 H locs hP hD hK hS => ?_)
  have hP : va_P D cls [(h0, .inr (7, [.int 0, .int 0, .int 0, .int 0, .int 0, .int 0, .int (-1), .int (-1), .int 0, .int 0, .int 0, .int 0, .int 0, .int 0, .int 0, .int 0, .ref (qa 0), .ref (qa 1), .ref (qa 2), .ref (qa 3), .int 0, .ref (qa 4), .ref (qa 5), .ref (qa 6), .ref (qa 7), .ref (qa 8), .ref (qa 9), .ref (qa 10), .ref (qa 11), .ref (qa 12), .ref (qa 13), .ref (qa 14), .ref (qa 15), .ref (qa 16), .ref (qa 17), .ref (qa 18), .ref (qa 19), .ref (qa 20), .int 0, .int 0, .int 0, .int 0, .long 0, .long 0, .long 0, .long 0, .long 0, .ref (qa 21), .int 0, .int 0, .int 0, .int 0]))] H := hP
  have hD : va_D A [(h0, .inr (7, [.int 0, .int 0, .int 0, .int 0, .int 0, .int 0, .int (-1), .int (-1), .int 0, .int 0, .int 0, .int 0, .int 0, .int 0, .int 0, .int 0, .ref (qa 0), .ref (qa 1), .ref (qa 2), .ref (qa 3), .int 0, .ref (qa 4), .ref (qa 5), .ref (qa 6), .ref (qa 7), .ref (qa 8), .ref (qa 9), .ref (qa 10), .ref (qa 11), .ref (qa 12), .ref (qa 13), .ref (qa 14), .ref (qa 15), .ref (qa 16), .ref (qa 17), .ref (qa 18), .ref (qa 19), .ref (qa 20), .int 0, .int 0, .int 0, .int 0, .long 0, .long 0, .long 0, .long 0, .long 0, .ref (qa 21), .int 0, .int 0, .int 0, .int 0]))] := hD
  have hK : va_K D cls [] s := hK
  refine W.eq (g2 := F0 m 10 ls [.int 1]) rfl ?_
  refine lv_if_eq (tgt := 29) hx hb d_Mo_count_10 (by decide) (fun q9 => absurd q9 (by decide : ¬ ((1 : Int32) = 0))) (fun _ => ?_)
  refine lv_iload_n hx hb d_Mo_count_13 rfl (lv_at hl 1 rfl) ?_
  refine lv_iconst (v := 1) hx hb d_Mo_count_14 (by decide) ?_
  refine lv_icmp_le (tgt := 35) hx hb d_Mo_count_15 (by decide) (fun _ => ?_) (fun q9 => absurd (by decide : ((1 : Int32) ≤ 1)) q9)
  refine lv_iload_n hx hb d_Mo_count_35 rfl (lv_at hl 1 rfl) ?_
  refine lv_if_ne (tgt := 46) hx hb d_Mo_count_36 (by decide) (fun _ => ?_) (fun q9 => absurd q9 (by decide : ¬ ((1 : Int32) = 0)))
  refine lv_iload_n hx hb d_Mo_count_46 rfl (lv_at hl 1 rfl) ?_
  refine lv_iconst (v := 1) hx hb d_Mo_count_47 (by decide) ?_
  refine lv_icmp_ne (tgt := 58) hx hb d_Mo_count_48 (by decide) (fun q9 => absurd (by decide : ((1 : Int32) = 1)) q9) (fun _ => ?_)
  refine lv_aload_n hx hb d_Mo_count_51 rfl (lv_at hl 0 rfl) ?_
  refine va_get (D := D) (ci := 7) (v := .int 0) (C := R_Mo) (T := F_Mo) (N := 52) hx hb hts i_Mo hown hK hP 0 rfl rfl 2 (by decide) (hts _ w_400) (fun _ h9 => h9) rfl d_Mo_count_52 ?_
  refine lv_goto (tgt := 78) hx hb d_Mo_count_55 (by decide) ?_
  exact xr_i hx hb hr hlocks hP hD hK hS (()) [0] rfl rfl (by decide) [] rfl rfl d_Mo_count_78

theorem d_Mo_count_18 : decode b_Mo_count 18 = .ok (.iload_n 2, 1) := by decide +kernel
theorem d_Mo_count_19 : decode b_Mo_count 19 = .ok (.aload_n 0, 1) := by decide +kernel
theorem d_Mo_count_20 : decode b_Mo_count 20 = .ok (.getfield 1010, 3) := by decide +kernel
theorem d_Mo_count_23 : decode b_Mo_count 23 = .ok (.invokestatic 1181, 3) := by decide +kernel
theorem d_Mo_count_26 : decode b_Mo_count 26 = .ok (.ifCond .ne 9, 3) := by decide +kernel
theorem d_Mo_count_29 : decode b_Mo_count 29 = .ok (.aload_n 0, 1) := by decide +kernel
theorem d_Mo_count_30 : decode b_Mo_count 30 = .ok (.iconst 1, 1) := by decide +kernel
theorem d_Mo_count_31 : decode b_Mo_count 31 = .ok (.invokevirtual 94, 3) := by decide +kernel
theorem d_Mo_count_34 : decode b_Mo_count 34 = .ok (.ireturn, 1) := by decide +kernel
set_option maxHeartbeats 4000000 in
set_option maxRecDepth 100000 in
theorem c_Mo_count_2_n (l : Launch) (D : va_G) (h0 : Nat) (qa : Nat → Nat) (p1 : Int32) (hk : p1 < 0) (sz : Nat) : Met l y_Mo_count (Cond.code y_Mo_count b_Mo_count 3 (some .int) :: bw) (xR 2 0 0) (va_Pc [.ref h0, .int 2, .int p1] (xP D [] sz [(h0, .inr (7, [.int 0, .int 0, .int 0, .int 0, .int 0, .int 0, .int (-1), .int (-1), .int 0, .int 0, .int 0, .int 0, .int 0, .int 0, .int 0, .int 0, .ref (qa 0), .ref (qa 1), .ref (qa 2), .ref (qa 3), .int 0, .ref (qa 4), .ref (qa 5), .ref (qa 6), .ref (qa 7), .ref (qa 8), .ref (qa 9), .ref (qa 10), .ref (qa 11), .ref (qa 12), .ref (qa 13), .ref (qa 14), .ref (qa 15), .ref (qa 16), .ref (qa 17), .ref (qa 18), .ref (qa 19), .ref (qa 20), .int 0, .int 0, .int 0, .int 0, .long 0, .long 0, .long 0, .long 0, .long 0, .ref (qa 21), .int 0, .int 0, .int 0, .int 0]))])) (xQ (S := Unit) (fun _ => some (.int 0)) (fun _ => [(h0, .inr (7, [.int 1, .int 0, .int 0, .int 0, .int 0, .int 0, .int (-1), .int (-1), .int 0, .int 0, .int 0, .int 0, .int 0, .int 0, .int 0, .int 0, .ref (qa 0), .ref (qa 1), .ref (qa 2), .ref (qa 3), .int 0, .ref (qa 4), .ref (qa 5), .ref (qa 6), .ref (qa 7), .ref (qa 8), .ref (qa 9), .ref (qa 10), .ref (qa 11), .ref (qa 12), .ref (qa 13), .ref (qa 14), .ref (qa 15), .ref (qa 16), .ref (qa 17), .ref (qa 18), .ref (qa 19), .ref (qa 20), .int 0, .int 0, .int 0, .int 0, .long 0, .long 0, .long 0, .long 0, .long 0, .ref (qa 21), .int 0, .int 0, .int 0, .int 0]))]) (fun _ => []) D (va_A [(h0, .inr (7, [.int 0, .int 0, .int 0, .int 0, .int 0, .int 0, .int (-1), .int (-1), .int 0, .int 0, .int 0, .int 0, .int 0, .int 0, .int 0, .int 0, .ref (qa 0), .ref (qa 1), .ref (qa 2), .ref (qa 3), .int 0, .ref (qa 4), .ref (qa 5), .ref (qa 6), .ref (qa 7), .ref (qa 8), .ref (qa 9), .ref (qa 10), .ref (qa 11), .ref (qa 12), .ref (qa 13), .ref (qa 14), .ref (qa 15), .ref (qa 16), .ref (qa 17), .ref (qa 18), .ref (qa 19), .ref (qa 20), .int 0, .int 0, .int 0, .int 0, .long 0, .long 0, .long 0, .long 0, .long 0, .ref (qa 21), .int 0, .int 0, .int 0, .int 0]))] sz)) 0 0 (va_A [(h0, .inr (7, [.int 0, .int 0, .int 0, .int 0, .int 0, .int 0, .int (-1), .int (-1), .int 0, .int 0, .int 0, .int 0, .int 0, .int 0, .int 0, .int 0, .ref (qa 0), .ref (qa 1), .ref (qa 2), .ref (qa 3), .int 0, .ref (qa 4), .ref (qa 5), .ref (qa 6), .ref (qa 7), .ref (qa 8), .ref (qa 9), .ref (qa 10), .ref (qa 11), .ref (qa 12), .ref (qa 13), .ref (qa 14), .ref (qa 15), .ref (qa 16), .ref (qa 17), .ref (qa 18), .ref (qa 19), .ref (qa 20), .int 0, .int 0, .int 0, .int 0, .long 0, .long 0, .long 0, .long 0, .long 0, .ref (qa 21), .int 0, .int 0, .int 0, .int 0]))] sz) := by
  refine Met.ofW (cc := b_Mo_count) (maxL := 3) (ret := (some .int)) (by decide) rfl ?_
  intro p e s m args below meth c s₁ B hml hv
  obtain ⟨rfl, hsz, hP, hK, hD0, hN, hZ⟩ := hv
  have hx := B.exec
  have hb := B.bytes
  have hr := B.returns
  have hlocks := B.notSynchronized
  have hts : ∀ w ∈ bw, w.before _ s = true := fun w h => atoms_spec (ws := Cond.code y_Mo_count b_Mo_count 3 (some .int) :: bw) B.pre w (List.mem_cons_of_mem _ h)
  have hown : s.vm.findClass "ObjectForgeModel" = some m.cls := findClass_of_methodNamed B.named
  subst hsz
  have hP0 := hP
  have hD := hD0.self (sz := s.heap.size)
  generalize hAe : va_A [(h0, .inr (7, [.int 0, .int 0, .int 0, .int 0, .int 0, .int 0, .int (-1), .int (-1), .int 0, .int 0, .int 0, .int 0, .int 0, .int 0, .int 0, .int 0, .ref (qa 0), .ref (qa 1), .ref (qa 2), .ref (qa 3), .int 0, .ref (qa 4), .ref (qa 5), .ref (qa 6), .ref (qa 7), .ref (qa 8), .ref (qa 9), .ref (qa 10), .ref (qa 11), .ref (qa 12), .ref (qa 13), .ref (qa 14), .ref (qa 15), .ref (qa 16), .ref (qa 17), .ref (qa 18), .ref (qa 19), .ref (qa 20), .int 0, .int 0, .int 0, .int 0, .long 0, .long 0, .long 0, .long 0, .long 0, .ref (qa 21), .int 0, .int 0, .int 0, .int 0]))] s.heap.size = A at hD hZ ⊢
  have hA : ∀ q : Nat, s.heap.size ≤ q → A q := fun q h => by rw [← hAe]; exact Or.inr h
  have hS : va_S A s.heap s.heap [] := va_S.rf
  have hl := lv_entry ([.ref h0, .int 2, .int p1]) (n := 3) (Nat.le_of_ble_eq_true rfl)
  rw [lg_entry_eq]
  generalize (lg_sl ([.ref h0, .int 2, .int p1]) ++ List.replicate (3 - (lg_sl ([.ref h0, .int 2, .int p1])).length) Slot.unset).toArray = ls at hl ⊢
  have hl : lv_has ls 3 [(0, .ref h0), (1, .int 2), (2, .int p1)] := hl
  refine lv_aload_n hx hb d_Mo_count_0 rfl (lv_at hl 0 rfl) ?_
  refine lv_iconst (v := 0) hx hb d_Mo_count_1 (by decide) ?_
  refine va_put (D := D) (ci := 7) (v := .int 0) (ty := .int) (C := R_Mo) (T := F_Mo) (N := 52) hx hb hts i_Mo t_Mo t_Mo_ok n_Mo hown hK hP hD hS 0 rfl rfl 0 (by decide) (hts _ w_397) (fun _ h9 => h9) rfl (by decide +kernel) rfl rfl (Nat.le_of_ble_eq_true rfl) d_Mo_count_2 (fun H locs hP hD hS => ?_)
  have hP : va_P D cls [(h0, .inr (7, [.int 0, .int 0, .int 0, .int 0, .int 0, .int 0, .int (-1), .int (-1), .int 0, .int 0, .int 0, .int 0, .int 0, .int 0, .int 0, .int 0, .ref (qa 0), .ref (qa 1), .ref (qa 2), .ref (qa 3), .int 0, .ref (qa 4), .ref (qa 5), .ref (qa 6), .ref (qa 7), .ref (qa 8), .ref (qa 9), .ref (qa 10), .ref (qa 11), .ref (qa 12), .ref (qa 13), .ref (qa 14), .ref (qa 15), .ref (qa 16), .ref (qa 17), .ref (qa 18), .ref (qa 19), .ref (qa 20), .int 0, .int 0, .int 0, .int 0, .long 0, .long 0, .long 0, .long 0, .long 0, .ref (qa 21), .int 0, .int 0, .int 0, .int 0]))] H := hP
  have hD : va_D A [(h0, .inr (7, [.int 0, .int 0, .int 0, .int 0, .int 0, .int 0, .int (-1), .int (-1), .int 0, .int 0, .int 0, .int 0, .int 0, .int 0, .int 0, .int 0, .ref (qa 0), .ref (qa 1), .ref (qa 2), .ref (qa 3), .int 0, .ref (qa 4), .ref (qa 5), .ref (qa 6), .ref (qa 7), .ref (qa 8), .ref (qa 9), .ref (qa 10), .ref (qa 11), .ref (qa 12), .ref (qa 13), .ref (qa 14), .ref (qa 15), .ref (qa 16), .ref (qa 17), .ref (qa 18), .ref (qa 19), .ref (qa 20), .int 0, .int 0, .int 0, .int 0, .long 0, .long 0, .long 0, .long 0, .long 0, .ref (qa 21), .int 0, .int 0, .int 0, .int 0]))] := hD
  refine lv_iload_n hx hb d_Mo_count_5 rfl (lv_at hl 1 rfl) ?_
  refine lv_iconst (v := 4) hx hb d_Mo_count_6 (by decide) ?_
  refine xc_S (As := [.int 2, .int 4]) (rest := []) (n := 2) (wc := []) (wr := [(h0, .inr (7, [.int 0, .int 0, .int 0, .int 0, .int 0, .int 0, .int (-1), .int (-1), .int 0, .int 0, .int 0, .int 0, .int 0, .int 0, .int 0, .int 0, .ref (qa 0), .ref (qa 1), .ref (qa 2), .ref (qa 3), .int 0, .ref (qa 4), .ref (qa 5), .ref (qa 6), .ref (qa 7), .ref (qa 8), .ref (qa 9), .ref (qa 10), .ref (qa 11), .ref (qa 12), .ref (qa 13), .ref (qa 14), .ref (qa 15), .ref (qa 16), .ref (qa 17), .ref (qa 18), .ref (qa 19), .ref (qa 20), .int 0, .int 0, .int 0, .int 0, .long 0, .long 0, .long 0, .long 0, .long 0, .ref (qa 21), .int 0, .int 0, .int 0, .int 0]))]) (tc := []) (tr := []) ⟨hx, hb, hml, hown, hts⟩ (c_Mo_within_2 l D H.size) rfl rfl w_510 w_508 w_509 w_8 (by decide +kernel) ⟨Nat.le_of_ble_eq_true rfl, Nat.le_of_ble_eq_true rfl⟩ hP hD hK hS hA hN hZ [] [0] rfl rfl (by decide) (by decide) (by decide) [] [] rfl rfl rfl hl.1 rfl (Nat.le_of_ble_eq_true rfl) d_Mo_count_7 ⟨Nat.le_of_ble_eq_true rfl, Nat.le_of_ble_eq_true rfl⟩ (fun u1 H locs hP hD hK hS => ?_)
  have hP : va_P D cls [(h0, .inr (7, [.int 0, .int 0, .int 0, .int 0, .int 0, .int 0, .int (-1), .int (-1), .int 0, .int 0, .int 0, .int 0, .int 0, .int 0, .int 0, .int 0, .ref (qa 0), .ref (qa 1), .ref (qa 2), .ref (qa 3), .int 0, .ref (qa 4), .ref (qa 5), .ref (qa 6), .ref (qa 7), .ref (qa 8), .ref (qa 9), .ref (qa 10), .ref (qa 11), .ref (qa 12), .ref (qa 13), .ref (qa 14), .ref (qa 15), .ref (qa 16), .ref (qa 17), .ref (qa 18), .ref (qa 19), .ref (qa 20), .int 0, .int 0, .int 0, .int 0, .long 0, .long 0, .long 0, .long 0, .long 0, .ref (qa 21), .int 0, .int 0, .int 0, .int 0]))] H := hP
  have hD : va_D A [(h0, .inr (7, [.int 0, .int 0, .int 0, .int 0, .int 0, .int 0, .int (-1), .int (-1), .int 0, .int 0, .int 0, .int 0, .int 0, .int 0, .int 0, .int 0, .ref (qa 0), .ref (qa 1), .ref (qa 2), .ref (qa 3), .int 0, .ref (qa 4), .ref (qa 5), .ref (qa 6), .ref (qa 7), .ref (qa 8), .ref (qa 9), .ref (qa 10), .ref (qa 11), .ref (qa 12), .ref (qa 13), .ref (qa 14), .ref (qa 15), .ref (qa 16), .ref (qa 17), .ref (qa 18), .ref (qa 19), .ref (qa 20), .int 0, .int 0, .int 0, .int 0, .long 0, .long 0, .long 0, .long 0, .long 0, .ref (qa 21), .int 0, .int 0, .int 0, .int 0]))] := hD
  have hK : va_K D cls [] s := hK
  refine W.eq (g2 := F0 m 10 ls [.int 1]) rfl ?_
  refine lv_if_eq (tgt := 29) hx hb d_Mo_count_10 (by decide) (fun q9 => absurd q9 (by decide : ¬ ((1 : Int32) = 0))) (fun _ => ?_)
  refine lv_iload_n hx hb d_Mo_count_13 rfl (lv_at hl 1 rfl) ?_
  refine lv_iconst (v := 1) hx hb d_Mo_count_14 (by decide) ?_
  refine lv_icmp_le (tgt := 35) hx hb d_Mo_count_15 (by decide) (fun q9 => absurd q9 (by decide : ¬ ((2 : Int32) ≤ 1))) (fun _ => ?_)
  refine lv_iload_n hx hb d_Mo_count_18 rfl (lv_at hl 2 rfl) ?_
  refine lv_aload_n hx hb d_Mo_count_19 rfl (lv_at hl 0 rfl) ?_
  refine va_get (D := D) (ci := 7) (v := .int 0) (C := R_Mo) (T := F_Mo) (N := 52) hx hb hts i_Mo hown hK hP 0 rfl rfl 2 (by decide) (hts _ w_400) (fun _ h9 => h9) rfl d_Mo_count_20 ?_
  refine xc_S (As := [.int p1, .int 0]) (rest := []) (n := 2) (wc := []) (wr := [(h0, .inr (7, [.int 0, .int 0, .int 0, .int 0, .int 0, .int 0, .int (-1), .int (-1), .int 0, .int 0, .int 0, .int 0, .int 0, .int 0, .int 0, .int 0, .ref (qa 0), .ref (qa 1), .ref (qa 2), .ref (qa 3), .int 0, .ref (qa 4), .ref (qa 5), .ref (qa 6), .ref (qa 7), .ref (qa 8), .ref (qa 9), .ref (qa 10), .ref (qa 11), .ref (qa 12), .ref (qa 13), .ref (qa 14), .ref (qa 15), .ref (qa 16), .ref (qa 17), .ref (qa 18), .ref (qa 19), .ref (qa 20), .int 0, .int 0, .int 0, .int 0, .long 0, .long 0, .long 0, .long 0, .long 0, .ref (qa 21), .int 0, .int 0, .int 0, .int 0]))]) (tc := []) (tr := []) ⟨hx, hb, hml, hown, hts⟩ (c_Mo_within_n l D p1 0 hk H.size) rfl rfl w_510 w_508 w_509 w_8 (by decide +kernel) ⟨Nat.le_of_ble_eq_true rfl, Nat.le_of_ble_eq_true rfl⟩ hP hD hK hS hA hN hZ [] [0] rfl rfl (by decide) (by decide) (by decide) [] [] rfl rfl rfl hl.1 rfl (Nat.le_of_ble_eq_true rfl) d_Mo_count_23 ⟨Nat.le_of_ble_eq_true rfl, Nat.le_of_ble_eq_true rfl⟩ (fun u2 H locs hP hD hK hS => ?_)
  have hP : va_P D cls [(h0, .inr (7, [.int 0, .int 0, .int 0, .int 0, .int 0, .int 0, .int (-1), .int (-1), .int 0, .int 0, .int 0, .int 0, .int 0, .int 0, .int 0, .int 0, .ref (qa 0), .ref (qa 1), .ref (qa 2), .ref (qa 3), .int 0, .ref (qa 4), .ref (qa 5), .ref (qa 6), .ref (qa 7), .ref (qa 8), .ref (qa 9), .ref (qa 10), .ref (qa 11), .ref (qa 12), .ref (qa 13), .ref (qa 14), .ref (qa 15), .ref (qa 16), .ref (qa 17), .ref (qa 18), .ref (qa 19), .ref (qa 20), .int 0, .int 0, .int 0, .int 0, .long 0, .long 0, .long 0, .long 0, .long 0, .ref (qa 21), .int 0, .int 0, .int 0, .int 0]))] H := hP
  have hD : va_D A [(h0, .inr (7, [.int 0, .int 0, .int 0, .int 0, .int 0, .int 0, .int (-1), .int (-1), .int 0, .int 0, .int 0, .int 0, .int 0, .int 0, .int 0, .int 0, .ref (qa 0), .ref (qa 1), .ref (qa 2), .ref (qa 3), .int 0, .ref (qa 4), .ref (qa 5), .ref (qa 6), .ref (qa 7), .ref (qa 8), .ref (qa 9), .ref (qa 10), .ref (qa 11), .ref (qa 12), .ref (qa 13), .ref (qa 14), .ref (qa 15), .ref (qa 16), .ref (qa 17), .ref (qa 18), .ref (qa 19), .ref (qa 20), .int 0, .int 0, .int 0, .int 0, .long 0, .long 0, .long 0, .long 0, .long 0, .ref (qa 21), .int 0, .int 0, .int 0, .int 0]))] := hD
  have hK : va_K D cls [] s := hK
  refine W.eq (g2 := F0 m 26 ls [.int 0]) rfl ?_
  refine lv_if_ne (tgt := 35) hx hb d_Mo_count_26 (by decide) (fun q9 => absurd (by decide : ((0 : Int32) = 0)) q9) (fun _ => ?_)
  refine lv_aload_n hx hb d_Mo_count_29 rfl (lv_at hl 0 rfl) ?_
  refine lv_iconst (v := 1) hx hb d_Mo_count_30 (by decide) ?_
  refine xc_V (As := [.int 1]) (rest := []) (n := 1) (wc := [(h0, .inr (7, [.int 0, .int 0, .int 0, .int 0, .int 0, .int 0, .int (-1), .int (-1), .int 0, .int 0, .int 0, .int 0, .int 0, .int 0, .int 0, .int 0, .ref (qa 0), .ref (qa 1), .ref (qa 2), .ref (qa 3), .int 0, .ref (qa 4), .ref (qa 5), .ref (qa 6), .ref (qa 7), .ref (qa 8), .ref (qa 9), .ref (qa 10), .ref (qa 11), .ref (qa 12), .ref (qa 13), .ref (qa 14), .ref (qa 15), .ref (qa 16), .ref (qa 17), .ref (qa 18), .ref (qa 19), .ref (qa 20), .int 0, .int 0, .int 0, .int 0, .long 0, .long 0, .long 0, .long 0, .long 0, .ref (qa 21), .int 0, .int 0, .int 0, .int 0]))]) (wr := []) (tc := []) (tr := []) ⟨hx, hb, hml, hown, hts⟩ (c_Mo_refuse_1 l D h0 qa H.size) rfl rfl w_452 w_450 w_451 w_557 w_8 (by decide +kernel) ⟨Nat.le_of_ble_eq_true rfl, Nat.le_of_ble_eq_true rfl⟩ hP hD hK hS hA hN hZ [0] [] rfl rfl (by decide) (by decide) (by decide) [] [] rfl rfl (ci := 7) (q0 := 0) (q := (R_Mo, F_Mo, 52)) rfl rfl rfl rfl hl.1 rfl (Nat.le_of_ble_eq_true rfl) d_Mo_count_31 ⟨Nat.le_of_ble_eq_true rfl, Nat.le_of_ble_eq_true rfl⟩ (fun u3 H locs hP hD hK hS => ?_)
  have hP : va_P D cls [(h0, .inr (7, [.int 1, .int 0, .int 0, .int 0, .int 0, .int 0, .int (-1), .int (-1), .int 0, .int 0, .int 0, .int 0, .int 0, .int 0, .int 0, .int 0, .ref (qa 0), .ref (qa 1), .ref (qa 2), .ref (qa 3), .int 0, .ref (qa 4), .ref (qa 5), .ref (qa 6), .ref (qa 7), .ref (qa 8), .ref (qa 9), .ref (qa 10), .ref (qa 11), .ref (qa 12), .ref (qa 13), .ref (qa 14), .ref (qa 15), .ref (qa 16), .ref (qa 17), .ref (qa 18), .ref (qa 19), .ref (qa 20), .int 0, .int 0, .int 0, .int 0, .long 0, .long 0, .long 0, .long 0, .long 0, .ref (qa 21), .int 0, .int 0, .int 0, .int 0]))] H := hP
  have hD : va_D A [(h0, .inr (7, [.int 1, .int 0, .int 0, .int 0, .int 0, .int 0, .int (-1), .int (-1), .int 0, .int 0, .int 0, .int 0, .int 0, .int 0, .int 0, .int 0, .ref (qa 0), .ref (qa 1), .ref (qa 2), .ref (qa 3), .int 0, .ref (qa 4), .ref (qa 5), .ref (qa 6), .ref (qa 7), .ref (qa 8), .ref (qa 9), .ref (qa 10), .ref (qa 11), .ref (qa 12), .ref (qa 13), .ref (qa 14), .ref (qa 15), .ref (qa 16), .ref (qa 17), .ref (qa 18), .ref (qa 19), .ref (qa 20), .int 0, .int 0, .int 0, .int 0, .long 0, .long 0, .long 0, .long 0, .long 0, .ref (qa 21), .int 0, .int 0, .int 0, .int 0]))] := hD
  have hK : va_K D cls [] s := hK
  refine W.eq (g2 := F0 m 34 ls [.int 0]) rfl ?_
  exact xr_i hx hb hr hlocks hP hD hK hS (()) [0] rfl rfl (by decide) [] rfl rfl d_Mo_count_34

set_option maxHeartbeats 4000000 in
set_option maxRecDepth 100000 in
theorem c_Mo_count_2_g (l : Launch) (D : va_G) (h0 : Nat) (qa : Nat → Nat) (p1 : Int32) (hk : ¬ p1 < 0) (hg : 0 ≤ p1) (sz : Nat) : Met l y_Mo_count (Cond.code y_Mo_count b_Mo_count 3 (some .int) :: bw) (xR 2 0 0) (va_Pc [.ref h0, .int 2, .int p1] (xP D [] sz [(h0, .inr (7, [.int 0, .int 0, .int 0, .int 0, .int 0, .int 0, .int (-1), .int (-1), .int 0, .int 0, .int 0, .int 0, .int 0, .int 0, .int 0, .int 0, .ref (qa 0), .ref (qa 1), .ref (qa 2), .ref (qa 3), .int 0, .ref (qa 4), .ref (qa 5), .ref (qa 6), .ref (qa 7), .ref (qa 8), .ref (qa 9), .ref (qa 10), .ref (qa 11), .ref (qa 12), .ref (qa 13), .ref (qa 14), .ref (qa 15), .ref (qa 16), .ref (qa 17), .ref (qa 18), .ref (qa 19), .ref (qa 20), .int 0, .int 0, .int 0, .int 0, .long 0, .long 0, .long 0, .long 0, .long 0, .ref (qa 21), .int 0, .int 0, .int 0, .int 0]))])) (xQ (S := Unit) (fun _ => some (.int 0)) (fun _ => [(h0, .inr (7, [.int 1, .int 0, .int 0, .int 0, .int 0, .int 0, .int (-1), .int (-1), .int 0, .int 0, .int 0, .int 0, .int 0, .int 0, .int 0, .int 0, .ref (qa 0), .ref (qa 1), .ref (qa 2), .ref (qa 3), .int 0, .ref (qa 4), .ref (qa 5), .ref (qa 6), .ref (qa 7), .ref (qa 8), .ref (qa 9), .ref (qa 10), .ref (qa 11), .ref (qa 12), .ref (qa 13), .ref (qa 14), .ref (qa 15), .ref (qa 16), .ref (qa 17), .ref (qa 18), .ref (qa 19), .ref (qa 20), .int 0, .int 0, .int 0, .int 0, .long 0, .long 0, .long 0, .long 0, .long 0, .ref (qa 21), .int 0, .int 0, .int 0, .int 0]))]) (fun _ => []) D (va_A [(h0, .inr (7, [.int 0, .int 0, .int 0, .int 0, .int 0, .int 0, .int (-1), .int (-1), .int 0, .int 0, .int 0, .int 0, .int 0, .int 0, .int 0, .int 0, .ref (qa 0), .ref (qa 1), .ref (qa 2), .ref (qa 3), .int 0, .ref (qa 4), .ref (qa 5), .ref (qa 6), .ref (qa 7), .ref (qa 8), .ref (qa 9), .ref (qa 10), .ref (qa 11), .ref (qa 12), .ref (qa 13), .ref (qa 14), .ref (qa 15), .ref (qa 16), .ref (qa 17), .ref (qa 18), .ref (qa 19), .ref (qa 20), .int 0, .int 0, .int 0, .int 0, .long 0, .long 0, .long 0, .long 0, .long 0, .ref (qa 21), .int 0, .int 0, .int 0, .int 0]))] sz)) 0 0 (va_A [(h0, .inr (7, [.int 0, .int 0, .int 0, .int 0, .int 0, .int 0, .int (-1), .int (-1), .int 0, .int 0, .int 0, .int 0, .int 0, .int 0, .int 0, .int 0, .ref (qa 0), .ref (qa 1), .ref (qa 2), .ref (qa 3), .int 0, .ref (qa 4), .ref (qa 5), .ref (qa 6), .ref (qa 7), .ref (qa 8), .ref (qa 9), .ref (qa 10), .ref (qa 11), .ref (qa 12), .ref (qa 13), .ref (qa 14), .ref (qa 15), .ref (qa 16), .ref (qa 17), .ref (qa 18), .ref (qa 19), .ref (qa 20), .int 0, .int 0, .int 0, .int 0, .long 0, .long 0, .long 0, .long 0, .long 0, .ref (qa 21), .int 0, .int 0, .int 0, .int 0]))] sz) := by
  refine Met.ofW (cc := b_Mo_count) (maxL := 3) (ret := (some .int)) (by decide) rfl ?_
  intro p e s m args below meth c s₁ B hml hv
  obtain ⟨rfl, hsz, hP, hK, hD0, hN, hZ⟩ := hv
  have hx := B.exec
  have hb := B.bytes
  have hr := B.returns
  have hlocks := B.notSynchronized
  have hts : ∀ w ∈ bw, w.before _ s = true := fun w h => atoms_spec (ws := Cond.code y_Mo_count b_Mo_count 3 (some .int) :: bw) B.pre w (List.mem_cons_of_mem _ h)
  have hown : s.vm.findClass "ObjectForgeModel" = some m.cls := findClass_of_methodNamed B.named
  subst hsz
  have hP0 := hP
  have hD := hD0.self (sz := s.heap.size)
  generalize hAe : va_A [(h0, .inr (7, [.int 0, .int 0, .int 0, .int 0, .int 0, .int 0, .int (-1), .int (-1), .int 0, .int 0, .int 0, .int 0, .int 0, .int 0, .int 0, .int 0, .ref (qa 0), .ref (qa 1), .ref (qa 2), .ref (qa 3), .int 0, .ref (qa 4), .ref (qa 5), .ref (qa 6), .ref (qa 7), .ref (qa 8), .ref (qa 9), .ref (qa 10), .ref (qa 11), .ref (qa 12), .ref (qa 13), .ref (qa 14), .ref (qa 15), .ref (qa 16), .ref (qa 17), .ref (qa 18), .ref (qa 19), .ref (qa 20), .int 0, .int 0, .int 0, .int 0, .long 0, .long 0, .long 0, .long 0, .long 0, .ref (qa 21), .int 0, .int 0, .int 0, .int 0]))] s.heap.size = A at hD hZ ⊢
  have hA : ∀ q : Nat, s.heap.size ≤ q → A q := fun q h => by rw [← hAe]; exact Or.inr h
  have hS : va_S A s.heap s.heap [] := va_S.rf
  have hl := lv_entry ([.ref h0, .int 2, .int p1]) (n := 3) (Nat.le_of_ble_eq_true rfl)
  rw [lg_entry_eq]
  generalize (lg_sl ([.ref h0, .int 2, .int p1]) ++ List.replicate (3 - (lg_sl ([.ref h0, .int 2, .int p1])).length) Slot.unset).toArray = ls at hl ⊢
  have hl : lv_has ls 3 [(0, .ref h0), (1, .int 2), (2, .int p1)] := hl
  refine lv_aload_n hx hb d_Mo_count_0 rfl (lv_at hl 0 rfl) ?_
  refine lv_iconst (v := 0) hx hb d_Mo_count_1 (by decide) ?_
  refine va_put (D := D) (ci := 7) (v := .int 0) (ty := .int) (C := R_Mo) (T := F_Mo) (N := 52) hx hb hts i_Mo t_Mo t_Mo_ok n_Mo hown hK hP hD hS 0 rfl rfl 0 (by decide) (hts _ w_397) (fun _ h9 => h9) rfl (by decide +kernel) rfl rfl (Nat.le_of_ble_eq_true rfl) d_Mo_count_2 (fun H locs hP hD hS => ?_)
  have hP : va_P D cls [(h0, .inr (7, [.int 0, .int 0, .int 0, .int 0, .int 0, .int 0, .int (-1), .int (-1), .int 0, .int 0, .int 0, .int 0, .int 0, .int 0, .int 0, .int 0, .ref (qa 0), .ref (qa 1), .ref (qa 2), .ref (qa 3), .int 0, .ref (qa 4), .ref (qa 5), .ref (qa 6), .ref (qa 7), .ref (qa 8), .ref (qa 9), .ref (qa 10), .ref (qa 11), .ref (qa 12), .ref (qa 13), .ref (qa 14), .ref (qa 15), .ref (qa 16), .ref (qa 17), .ref (qa 18), .ref (qa 19), .ref (qa 20), .int 0, .int 0, .int 0, .int 0, .long 0, .long 0, .long 0, .long 0, .long 0, .ref (qa 21), .int 0, .int 0, .int 0, .int 0]))] H := hP
  have hD : va_D A [(h0, .inr (7, [.int 0, .int 0, .int 0, .int 0, .int 0, .int 0, .int (-1), .int (-1), .int 0, .int 0, .int 0, .int 0, .int 0, .int 0, .int 0, .int 0, .ref (qa 0), .ref (qa 1), .ref (qa 2), .ref (qa 3), .int 0, .ref (qa 4), .ref (qa 5), .ref (qa 6), .ref (qa 7), .ref (qa 8), .ref (qa 9), .ref (qa 10), .ref (qa 11), .ref (qa 12), .ref (qa 13), .ref (qa 14), .ref (qa 15), .ref (qa 16), .ref (qa 17), .ref (qa 18), .ref (qa 19), .ref (qa 20), .int 0, .int 0, .int 0, .int 0, .long 0, .long 0, .long 0, .long 0, .long 0, .ref (qa 21), .int 0, .int 0, .int 0, .int 0]))] := hD
  refine lv_iload_n hx hb d_Mo_count_5 rfl (lv_at hl 1 rfl) ?_
  refine lv_iconst (v := 4) hx hb d_Mo_count_6 (by decide) ?_
  refine xc_S (As := [.int 2, .int 4]) (rest := []) (n := 2) (wc := []) (wr := [(h0, .inr (7, [.int 0, .int 0, .int 0, .int 0, .int 0, .int 0, .int (-1), .int (-1), .int 0, .int 0, .int 0, .int 0, .int 0, .int 0, .int 0, .int 0, .ref (qa 0), .ref (qa 1), .ref (qa 2), .ref (qa 3), .int 0, .ref (qa 4), .ref (qa 5), .ref (qa 6), .ref (qa 7), .ref (qa 8), .ref (qa 9), .ref (qa 10), .ref (qa 11), .ref (qa 12), .ref (qa 13), .ref (qa 14), .ref (qa 15), .ref (qa 16), .ref (qa 17), .ref (qa 18), .ref (qa 19), .ref (qa 20), .int 0, .int 0, .int 0, .int 0, .long 0, .long 0, .long 0, .long 0, .long 0, .ref (qa 21), .int 0, .int 0, .int 0, .int 0]))]) (tc := []) (tr := []) ⟨hx, hb, hml, hown, hts⟩ (c_Mo_within_2 l D H.size) rfl rfl w_510 w_508 w_509 w_8 (by decide +kernel) ⟨Nat.le_of_ble_eq_true rfl, Nat.le_of_ble_eq_true rfl⟩ hP hD hK hS hA hN hZ [] [0] rfl rfl (by decide) (by decide) (by decide) [] [] rfl rfl rfl hl.1 rfl (Nat.le_of_ble_eq_true rfl) d_Mo_count_7 ⟨Nat.le_of_ble_eq_true rfl, Nat.le_of_ble_eq_true rfl⟩ (fun u1 H locs hP hD hK hS => ?_)
  have hP : va_P D cls [(h0, .inr (7, [.int 0, .int 0, .int 0, .int 0, .int 0, .int 0, .int (-1), .int (-1), .int 0, .int 0, .int 0, .int 0, .int 0, .int 0, .int 0, .int 0, .ref (qa 0), .ref (qa 1), .ref (qa 2), .ref (qa 3), .int 0, .ref (qa 4), .ref (qa 5), .ref (qa 6), .ref (qa 7), .ref (qa 8), .ref (qa 9), .ref (qa 10), .ref (qa 11), .ref (qa 12), .ref (qa 13), .ref (qa 14), .ref (qa 15), .ref (qa 16), .ref (qa 17), .ref (qa 18), .ref (qa 19), .ref (qa 20), .int 0, .int 0, .int 0, .int 0, .long 0, .long 0, .long 0, .long 0, .long 0, .ref (qa 21), .int 0, .int 0, .int 0, .int 0]))] H := hP
  have hD : va_D A [(h0, .inr (7, [.int 0, .int 0, .int 0, .int 0, .int 0, .int 0, .int (-1), .int (-1), .int 0, .int 0, .int 0, .int 0, .int 0, .int 0, .int 0, .int 0, .ref (qa 0), .ref (qa 1), .ref (qa 2), .ref (qa 3), .int 0, .ref (qa 4), .ref (qa 5), .ref (qa 6), .ref (qa 7), .ref (qa 8), .ref (qa 9), .ref (qa 10), .ref (qa 11), .ref (qa 12), .ref (qa 13), .ref (qa 14), .ref (qa 15), .ref (qa 16), .ref (qa 17), .ref (qa 18), .ref (qa 19), .ref (qa 20), .int 0, .int 0, .int 0, .int 0, .long 0, .long 0, .long 0, .long 0, .long 0, .ref (qa 21), .int 0, .int 0, .int 0, .int 0]))] := hD
  have hK : va_K D cls [] s := hK
  refine W.eq (g2 := F0 m 10 ls [.int 1]) rfl ?_
  refine lv_if_eq (tgt := 29) hx hb d_Mo_count_10 (by decide) (fun q9 => absurd q9 (by decide : ¬ ((1 : Int32) = 0))) (fun _ => ?_)
  refine lv_iload_n hx hb d_Mo_count_13 rfl (lv_at hl 1 rfl) ?_
  refine lv_iconst (v := 1) hx hb d_Mo_count_14 (by decide) ?_
  refine lv_icmp_le (tgt := 35) hx hb d_Mo_count_15 (by decide) (fun q9 => absurd q9 (by decide : ¬ ((2 : Int32) ≤ 1))) (fun _ => ?_)
  refine lv_iload_n hx hb d_Mo_count_18 rfl (lv_at hl 2 rfl) ?_
  refine lv_aload_n hx hb d_Mo_count_19 rfl (lv_at hl 0 rfl) ?_
  refine va_get (D := D) (ci := 7) (v := .int 0) (C := R_Mo) (T := F_Mo) (N := 52) hx hb hts i_Mo hown hK hP 0 rfl rfl 2 (by decide) (hts _ w_400) (fun _ h9 => h9) rfl d_Mo_count_20 ?_
  refine xc_S (As := [.int p1, .int 0]) (rest := []) (n := 2) (wc := []) (wr := [(h0, .inr (7, [.int 0, .int 0, .int 0, .int 0, .int 0, .int 0, .int (-1), .int (-1), .int 0, .int 0, .int 0, .int 0, .int 0, .int 0, .int 0, .int 0, .ref (qa 0), .ref (qa 1), .ref (qa 2), .ref (qa 3), .int 0, .ref (qa 4), .ref (qa 5), .ref (qa 6), .ref (qa 7), .ref (qa 8), .ref (qa 9), .ref (qa 10), .ref (qa 11), .ref (qa 12), .ref (qa 13), .ref (qa 14), .ref (qa 15), .ref (qa 16), .ref (qa 17), .ref (qa 18), .ref (qa 19), .ref (qa 20), .int 0, .int 0, .int 0, .int 0, .long 0, .long 0, .long 0, .long 0, .long 0, .ref (qa 21), .int 0, .int 0, .int 0, .int 0]))]) (tc := []) (tr := []) ⟨hx, hb, hml, hown, hts⟩ (c_Mo_within_g l D p1 0 hk hg H.size) rfl rfl w_510 w_508 w_509 w_8 (by decide +kernel) ⟨Nat.le_of_ble_eq_true rfl, Nat.le_of_ble_eq_true rfl⟩ hP hD hK hS hA hN hZ [] [0] rfl rfl (by decide) (by decide) (by decide) [] [] rfl rfl rfl hl.1 rfl (Nat.le_of_ble_eq_true rfl) d_Mo_count_23 ⟨Nat.le_of_ble_eq_true rfl, Nat.le_of_ble_eq_true rfl⟩ (fun u2 H locs hP hD hK hS => ?_)
  have hP : va_P D cls [(h0, .inr (7, [.int 0, .int 0, .int 0, .int 0, .int 0, .int 0, .int (-1), .int (-1), .int 0, .int 0, .int 0, .int 0, .int 0, .int 0, .int 0, .int 0, .ref (qa 0), .ref (qa 1), .ref (qa 2), .ref (qa 3), .int 0, .ref (qa 4), .ref (qa 5), .ref (qa 6), .ref (qa 7), .ref (qa 8), .ref (qa 9), .ref (qa 10), .ref (qa 11), .ref (qa 12), .ref (qa 13), .ref (qa 14), .ref (qa 15), .ref (qa 16), .ref (qa 17), .ref (qa 18), .ref (qa 19), .ref (qa 20), .int 0, .int 0, .int 0, .int 0, .long 0, .long 0, .long 0, .long 0, .long 0, .ref (qa 21), .int 0, .int 0, .int 0, .int 0]))] H := hP
  have hD : va_D A [(h0, .inr (7, [.int 0, .int 0, .int 0, .int 0, .int 0, .int 0, .int (-1), .int (-1), .int 0, .int 0, .int 0, .int 0, .int 0, .int 0, .int 0, .int 0, .ref (qa 0), .ref (qa 1), .ref (qa 2), .ref (qa 3), .int 0, .ref (qa 4), .ref (qa 5), .ref (qa 6), .ref (qa 7), .ref (qa 8), .ref (qa 9), .ref (qa 10), .ref (qa 11), .ref (qa 12), .ref (qa 13), .ref (qa 14), .ref (qa 15), .ref (qa 16), .ref (qa 17), .ref (qa 18), .ref (qa 19), .ref (qa 20), .int 0, .int 0, .int 0, .int 0, .long 0, .long 0, .long 0, .long 0, .long 0, .ref (qa 21), .int 0, .int 0, .int 0, .int 0]))] := hD
  have hK : va_K D cls [] s := hK
  refine W.eq (g2 := F0 m 26 ls [.int 0]) rfl ?_
  refine lv_if_ne (tgt := 35) hx hb d_Mo_count_26 (by decide) (fun q9 => absurd (by decide : ((0 : Int32) = 0)) q9) (fun _ => ?_)
  refine lv_aload_n hx hb d_Mo_count_29 rfl (lv_at hl 0 rfl) ?_
  refine lv_iconst (v := 1) hx hb d_Mo_count_30 (by decide) ?_
  refine xc_V (As := [.int 1]) (rest := []) (n := 1) (wc := [(h0, .inr (7, [.int 0, .int 0, .int 0, .int 0, .int 0, .int 0, .int (-1), .int (-1), .int 0, .int 0, .int 0, .int 0, .int 0, .int 0, .int 0, .int 0, .ref (qa 0), .ref (qa 1), .ref (qa 2), .ref (qa 3), .int 0, .ref (qa 4), .ref (qa 5), .ref (qa 6), .ref (qa 7), .ref (qa 8), .ref (qa 9), .ref (qa 10), .ref (qa 11), .ref (qa 12), .ref (qa 13), .ref (qa 14), .ref (qa 15), .ref (qa 16), .ref (qa 17), .ref (qa 18), .ref (qa 19), .ref (qa 20), .int 0, .int 0, .int 0, .int 0, .long 0, .long 0, .long 0, .long 0, .long 0, .ref (qa 21), .int 0, .int 0, .int 0, .int 0]))]) (wr := []) (tc := []) (tr := []) ⟨hx, hb, hml, hown, hts⟩ (c_Mo_refuse_1 l D h0 qa H.size) rfl rfl w_452 w_450 w_451 w_557 w_8 (by decide +kernel) ⟨Nat.le_of_ble_eq_true rfl, Nat.le_of_ble_eq_true rfl⟩ hP hD hK hS hA hN hZ [0] [] rfl rfl (by decide) (by decide) (by decide) [] [] rfl rfl (ci := 7) (q0 := 0) (q := (R_Mo, F_Mo, 52)) rfl rfl rfl rfl hl.1 rfl (Nat.le_of_ble_eq_true rfl) d_Mo_count_31 ⟨Nat.le_of_ble_eq_true rfl, Nat.le_of_ble_eq_true rfl⟩ (fun u3 H locs hP hD hK hS => ?_)
  have hP : va_P D cls [(h0, .inr (7, [.int 1, .int 0, .int 0, .int 0, .int 0, .int 0, .int (-1), .int (-1), .int 0, .int 0, .int 0, .int 0, .int 0, .int 0, .int 0, .int 0, .ref (qa 0), .ref (qa 1), .ref (qa 2), .ref (qa 3), .int 0, .ref (qa 4), .ref (qa 5), .ref (qa 6), .ref (qa 7), .ref (qa 8), .ref (qa 9), .ref (qa 10), .ref (qa 11), .ref (qa 12), .ref (qa 13), .ref (qa 14), .ref (qa 15), .ref (qa 16), .ref (qa 17), .ref (qa 18), .ref (qa 19), .ref (qa 20), .int 0, .int 0, .int 0, .int 0, .long 0, .long 0, .long 0, .long 0, .long 0, .ref (qa 21), .int 0, .int 0, .int 0, .int 0]))] H := hP
  have hD : va_D A [(h0, .inr (7, [.int 1, .int 0, .int 0, .int 0, .int 0, .int 0, .int (-1), .int (-1), .int 0, .int 0, .int 0, .int 0, .int 0, .int 0, .int 0, .int 0, .ref (qa 0), .ref (qa 1), .ref (qa 2), .ref (qa 3), .int 0, .ref (qa 4), .ref (qa 5), .ref (qa 6), .ref (qa 7), .ref (qa 8), .ref (qa 9), .ref (qa 10), .ref (qa 11), .ref (qa 12), .ref (qa 13), .ref (qa 14), .ref (qa 15), .ref (qa 16), .ref (qa 17), .ref (qa 18), .ref (qa 19), .ref (qa 20), .int 0, .int 0, .int 0, .int 0, .long 0, .long 0, .long 0, .long 0, .long 0, .ref (qa 21), .int 0, .int 0, .int 0, .int 0]))] := hD
  have hK : va_K D cls [] s := hK
  refine W.eq (g2 := F0 m 34 ls [.int 0]) rfl ?_
  exact xr_i hx hb hr hlocks hP hD hK hS (()) [0] rfl rfl (by decide) [] rfl rfl d_Mo_count_34

set_option maxHeartbeats 4000000 in
set_option maxRecDepth 100000 in
theorem c_Mo_count_3_n (l : Launch) (D : va_G) (h0 : Nat) (qa : Nat → Nat) (p1 : Int32) (hk : p1 < 0) (sz : Nat) : Met l y_Mo_count (Cond.code y_Mo_count b_Mo_count 3 (some .int) :: bw) (xR 2 0 0) (va_Pc [.ref h0, .int 3, .int p1] (xP D [] sz [(h0, .inr (7, [.int 0, .int 0, .int 0, .int 0, .int 0, .int 0, .int (-1), .int (-1), .int 0, .int 0, .int 0, .int 0, .int 0, .int 0, .int 0, .int 0, .ref (qa 0), .ref (qa 1), .ref (qa 2), .ref (qa 3), .int 0, .ref (qa 4), .ref (qa 5), .ref (qa 6), .ref (qa 7), .ref (qa 8), .ref (qa 9), .ref (qa 10), .ref (qa 11), .ref (qa 12), .ref (qa 13), .ref (qa 14), .ref (qa 15), .ref (qa 16), .ref (qa 17), .ref (qa 18), .ref (qa 19), .ref (qa 20), .int 0, .int 0, .int 0, .int 0, .long 0, .long 0, .long 0, .long 0, .long 0, .ref (qa 21), .int 0, .int 0, .int 0, .int 0]))])) (xQ (S := Unit) (fun _ => some (.int 0)) (fun _ => [(h0, .inr (7, [.int 1, .int 0, .int 0, .int 0, .int 0, .int 0, .int (-1), .int (-1), .int 0, .int 0, .int 0, .int 0, .int 0, .int 0, .int 0, .int 0, .ref (qa 0), .ref (qa 1), .ref (qa 2), .ref (qa 3), .int 0, .ref (qa 4), .ref (qa 5), .ref (qa 6), .ref (qa 7), .ref (qa 8), .ref (qa 9), .ref (qa 10), .ref (qa 11), .ref (qa 12), .ref (qa 13), .ref (qa 14), .ref (qa 15), .ref (qa 16), .ref (qa 17), .ref (qa 18), .ref (qa 19), .ref (qa 20), .int 0, .int 0, .int 0, .int 0, .long 0, .long 0, .long 0, .long 0, .long 0, .ref (qa 21), .int 0, .int 0, .int 0, .int 0]))]) (fun _ => []) D (va_A [(h0, .inr (7, [.int 0, .int 0, .int 0, .int 0, .int 0, .int 0, .int (-1), .int (-1), .int 0, .int 0, .int 0, .int 0, .int 0, .int 0, .int 0, .int 0, .ref (qa 0), .ref (qa 1), .ref (qa 2), .ref (qa 3), .int 0, .ref (qa 4), .ref (qa 5), .ref (qa 6), .ref (qa 7), .ref (qa 8), .ref (qa 9), .ref (qa 10), .ref (qa 11), .ref (qa 12), .ref (qa 13), .ref (qa 14), .ref (qa 15), .ref (qa 16), .ref (qa 17), .ref (qa 18), .ref (qa 19), .ref (qa 20), .int 0, .int 0, .int 0, .int 0, .long 0, .long 0, .long 0, .long 0, .long 0, .ref (qa 21), .int 0, .int 0, .int 0, .int 0]))] sz)) 0 0 (va_A [(h0, .inr (7, [.int 0, .int 0, .int 0, .int 0, .int 0, .int 0, .int (-1), .int (-1), .int 0, .int 0, .int 0, .int 0, .int 0, .int 0, .int 0, .int 0, .ref (qa 0), .ref (qa 1), .ref (qa 2), .ref (qa 3), .int 0, .ref (qa 4), .ref (qa 5), .ref (qa 6), .ref (qa 7), .ref (qa 8), .ref (qa 9), .ref (qa 10), .ref (qa 11), .ref (qa 12), .ref (qa 13), .ref (qa 14), .ref (qa 15), .ref (qa 16), .ref (qa 17), .ref (qa 18), .ref (qa 19), .ref (qa 20), .int 0, .int 0, .int 0, .int 0, .long 0, .long 0, .long 0, .long 0, .long 0, .ref (qa 21), .int 0, .int 0, .int 0, .int 0]))] sz) := by
  refine Met.ofW (cc := b_Mo_count) (maxL := 3) (ret := (some .int)) (by decide) rfl ?_
  intro p e s m args below meth c s₁ B hml hv
  obtain ⟨rfl, hsz, hP, hK, hD0, hN, hZ⟩ := hv
  have hx := B.exec
  have hb := B.bytes
  have hr := B.returns
  have hlocks := B.notSynchronized
  have hts : ∀ w ∈ bw, w.before _ s = true := fun w h => atoms_spec (ws := Cond.code y_Mo_count b_Mo_count 3 (some .int) :: bw) B.pre w (List.mem_cons_of_mem _ h)
  have hown : s.vm.findClass "ObjectForgeModel" = some m.cls := findClass_of_methodNamed B.named
  subst hsz
  have hP0 := hP
  have hD := hD0.self (sz := s.heap.size)
  generalize hAe : va_A [(h0, .inr (7, [.int 0, .int 0, .int 0, .int 0, .int 0, .int 0, .int (-1), .int (-1), .int 0, .int 0, .int 0, .int 0, .int 0, .int 0, .int 0, .int 0, .ref (qa 0), .ref (qa 1), .ref (qa 2), .ref (qa 3), .int 0, .ref (qa 4), .ref (qa 5), .ref (qa 6), .ref (qa 7), .ref (qa 8), .ref (qa 9), .ref (qa 10), .ref (qa 11), .ref (qa 12), .ref (qa 13), .ref (qa 14), .ref (qa 15), .ref (qa 16), .ref (qa 17), .ref (qa 18), .ref (qa 19), .ref (qa 20), .int 0, .int 0, .int 0, .int 0, .long 0, .long 0, .long 0, .long 0, .long 0, .ref (qa 21), .int 0, .int 0, .int 0, .int 0]))] s.heap.size = A at hD hZ ⊢
  have hA : ∀ q : Nat, s.heap.size ≤ q → A q := fun q h => by rw [← hAe]; exact Or.inr h
  have hS : va_S A s.heap s.heap [] := va_S.rf
  have hl := lv_entry ([.ref h0, .int 3, .int p1]) (n := 3) (Nat.le_of_ble_eq_true rfl)
  rw [lg_entry_eq]
  generalize (lg_sl ([.ref h0, .int 3, .int p1]) ++ List.replicate (3 - (lg_sl ([.ref h0, .int 3, .int p1])).length) Slot.unset).toArray = ls at hl ⊢
  have hl : lv_has ls 3 [(0, .ref h0), (1, .int 3), (2, .int p1)] := hl
  refine lv_aload_n hx hb d_Mo_count_0 rfl (lv_at hl 0 rfl) ?_
  refine lv_iconst (v := 0) hx hb d_Mo_count_1 (by decide) ?_
  refine va_put (D := D) (ci := 7) (v := .int 0) (ty := .int) (C := R_Mo) (T := F_Mo) (N := 52) hx hb hts i_Mo t_Mo t_Mo_ok n_Mo hown hK hP hD hS 0 rfl rfl 0 (by decide) (hts _ w_397) (fun _ h9 => h9) rfl (by decide +kernel) rfl rfl (Nat.le_of_ble_eq_true rfl) d_Mo_count_2 (fun H locs hP hD hS => ?_)
  have hP : va_P D cls [(h0, .inr (7, [.int 0, .int 0, .int 0, .int 0, .int 0, .int 0, .int (-1), .int (-1), .int 0, .int 0, .int 0, .int 0, .int 0, .int 0, .int 0, .int 0, .ref (qa 0), .ref (qa 1), .ref (qa 2), .ref (qa 3), .int 0, .ref (qa 4), .ref (qa 5), .ref (qa 6), .ref (qa 7), .ref (qa 8), .ref (qa 9), .ref (qa 10), .ref (qa 11), .ref (qa 12), .ref (qa 13), .ref (qa 14), .ref (qa 15), .ref (qa 16), .ref (qa 17), .ref (qa 18), .ref (qa 19), .ref (qa 20), .int 0, .int 0, .int 0, .int 0, .long 0, .long 0, .long 0, .long 0, .long 0, .ref (qa 21), .int 0, .int 0, .int 0, .int 0]))] H := hP
  have hD : va_D A [(h0, .inr (7, [.int 0, .int 0, .int 0, .int 0, .int 0, .int 0, .int (-1), .int (-1), .int 0, .int 0, .int 0, .int 0, .int 0, .int 0, .int 0, .int 0, .ref (qa 0), .ref (qa 1), .ref (qa 2), .ref (qa 3), .int 0, .ref (qa 4), .ref (qa 5), .ref (qa 6), .ref (qa 7), .ref (qa 8), .ref (qa 9), .ref (qa 10), .ref (qa 11), .ref (qa 12), .ref (qa 13), .ref (qa 14), .ref (qa 15), .ref (qa 16), .ref (qa 17), .ref (qa 18), .ref (qa 19), .ref (qa 20), .int 0, .int 0, .int 0, .int 0, .long 0, .long 0, .long 0, .long 0, .long 0, .ref (qa 21), .int 0, .int 0, .int 0, .int 0]))] := hD
  refine lv_iload_n hx hb d_Mo_count_5 rfl (lv_at hl 1 rfl) ?_
  refine lv_iconst (v := 4) hx hb d_Mo_count_6 (by decide) ?_
  refine xc_S (As := [.int 3, .int 4]) (rest := []) (n := 2) (wc := []) (wr := [(h0, .inr (7, [.int 0, .int 0, .int 0, .int 0, .int 0, .int 0, .int (-1), .int (-1), .int 0, .int 0, .int 0, .int 0, .int 0, .int 0, .int 0, .int 0, .ref (qa 0), .ref (qa 1), .ref (qa 2), .ref (qa 3), .int 0, .ref (qa 4), .ref (qa 5), .ref (qa 6), .ref (qa 7), .ref (qa 8), .ref (qa 9), .ref (qa 10), .ref (qa 11), .ref (qa 12), .ref (qa 13), .ref (qa 14), .ref (qa 15), .ref (qa 16), .ref (qa 17), .ref (qa 18), .ref (qa 19), .ref (qa 20), .int 0, .int 0, .int 0, .int 0, .long 0, .long 0, .long 0, .long 0, .long 0, .ref (qa 21), .int 0, .int 0, .int 0, .int 0]))]) (tc := []) (tr := []) ⟨hx, hb, hml, hown, hts⟩ (c_Mo_within_3 l D H.size) rfl rfl w_510 w_508 w_509 w_8 (by decide +kernel) ⟨Nat.le_of_ble_eq_true rfl, Nat.le_of_ble_eq_true rfl⟩ hP hD hK hS hA hN hZ [] [0] rfl rfl (by decide) (by decide) (by decide) [] [] rfl rfl rfl hl.1 rfl (Nat.le_of_ble_eq_true rfl) d_Mo_count_7 ⟨Nat.le_of_ble_eq_true rfl, Nat.le_of_ble_eq_true rfl⟩ (fun u1 H locs hP hD hK hS => ?_)
  have hP : va_P D cls [(h0, .inr (7, [.int 0, .int 0, .int 0, .int 0, .int 0, .int 0, .int (-1), .int (-1), .int 0, .int 0, .int 0, .int 0, .int 0, .int 0, .int 0, .int 0, .ref (qa 0), .ref (qa 1), .ref (qa 2), .ref (qa 3), .int 0, .ref (qa 4), .ref (qa 5), .ref (qa 6), .ref (qa 7), .ref (qa 8), .ref (qa 9), .ref (qa 10), .ref (qa 11), .ref (qa 12), .ref (qa 13), .ref (qa 14), .ref (qa 15), .ref (qa 16), .ref (qa 17), .ref (qa 18), .ref (qa 19), .ref (qa 20), .int 0, .int 0, .int 0, .int 0, .long 0, .long 0, .long 0, .long 0, .long 0, .ref (qa 21), .int 0, .int 0, .int 0, .int 0]))] H := hP
  have hD : va_D A [(h0, .inr (7, [.int 0, .int 0, .int 0, .int 0, .int 0, .int 0, .int (-1), .int (-1), .int 0, .int 0, .int 0, .int 0, .int 0, .int 0, .int 0, .int 0, .ref (qa 0), .ref (qa 1), .ref (qa 2), .ref (qa 3), .int 0, .ref (qa 4), .ref (qa 5), .ref (qa 6), .ref (qa 7), .ref (qa 8), .ref (qa 9), .ref (qa 10), .ref (qa 11), .ref (qa 12), .ref (qa 13), .ref (qa 14), .ref (qa 15), .ref (qa 16), .ref (qa 17), .ref (qa 18), .ref (qa 19), .ref (qa 20), .int 0, .int 0, .int 0, .int 0, .long 0, .long 0, .long 0, .long 0, .long 0, .ref (qa 21), .int 0, .int 0, .int 0, .int 0]))] := hD
  have hK : va_K D cls [] s := hK
  refine W.eq (g2 := F0 m 10 ls [.int 1]) rfl ?_
  refine lv_if_eq (tgt := 29) hx hb d_Mo_count_10 (by decide) (fun q9 => absurd q9 (by decide : ¬ ((1 : Int32) = 0))) (fun _ => ?_)
  refine lv_iload_n hx hb d_Mo_count_13 rfl (lv_at hl 1 rfl) ?_
  refine lv_iconst (v := 1) hx hb d_Mo_count_14 (by decide) ?_
  refine lv_icmp_le (tgt := 35) hx hb d_Mo_count_15 (by decide) (fun q9 => absurd q9 (by decide : ¬ ((3 : Int32) ≤ 1))) (fun _ => ?_)
  refine lv_iload_n hx hb d_Mo_count_18 rfl (lv_at hl 2 rfl) ?_
  refine lv_aload_n hx hb d_Mo_count_19 rfl (lv_at hl 0 rfl) ?_
  refine va_get (D := D) (ci := 7) (v := .int 0) (C := R_Mo) (T := F_Mo) (N := 52) hx hb hts i_Mo hown hK hP 0 rfl rfl 2 (by decide) (hts _ w_400) (fun _ h9 => h9) rfl d_Mo_count_20 ?_
  refine xc_S (As := [.int p1, .int 0]) (rest := []) (n := 2) (wc := []) (wr := [(h0, .inr (7, [.int 0, .int 0, .int 0, .int 0, .int 0, .int 0, .int (-1), .int (-1), .int 0, .int 0, .int 0, .int 0, .int 0, .int 0, .int 0, .int 0, .ref (qa 0), .ref (qa 1), .ref (qa 2), .ref (qa 3), .int 0, .ref (qa 4), .ref (qa 5), .ref (qa 6), .ref (qa 7), .ref (qa 8), .ref (qa 9), .ref (qa 10), .ref (qa 11), .ref (qa 12), .ref (qa 13), .ref (qa 14), .ref (qa 15), .ref (qa 16), .ref (qa 17), .ref (qa 18), .ref (qa 19), .ref (qa 20), .int 0, .int 0, .int 0, .int 0, .long 0, .long 0, .long 0, .long 0, .long 0, .ref (qa 21), .int 0, .int 0, .int 0, .int 0]))]) (tc := []) (tr := []) ⟨hx, hb, hml, hown, hts⟩ (c_Mo_within_n l D p1 0 hk H.size) rfl rfl w_510 w_508 w_509 w_8 (by decide +kernel) ⟨Nat.le_of_ble_eq_true rfl, Nat.le_of_ble_eq_true rfl⟩ hP hD hK hS hA hN hZ [] [0] rfl rfl (by decide) (by decide) (by decide) [] [] rfl rfl rfl hl.1 rfl (Nat.le_of_ble_eq_true rfl) d_Mo_count_23 ⟨Nat.le_of_ble_eq_true rfl, Nat.le_of_ble_eq_true rfl⟩ (fun u2 H locs hP hD hK hS => ?_)
  have hP : va_P D cls [(h0, .inr (7, [.int 0, .int 0, .int 0, .int 0, .int 0, .int 0, .int (-1), .int (-1), .int 0, .int 0, .int 0, .int 0, .int 0, .int 0, .int 0, .int 0, .ref (qa 0), .ref (qa 1), .ref (qa 2), .ref (qa 3), .int 0, .ref (qa 4), .ref (qa 5), .ref (qa 6), .ref (qa 7), .ref (qa 8), .ref (qa 9), .ref (qa 10), .ref (qa 11), .ref (qa 12), .ref (qa 13), .ref (qa 14), .ref (qa 15), .ref (qa 16), .ref (qa 17), .ref (qa 18), .ref (qa 19), .ref (qa 20), .int 0, .int 0, .int 0, .int 0, .long 0, .long 0, .long 0, .long 0, .long 0, .ref (qa 21), .int 0, .int 0, .int 0, .int 0]))] H := hP
  have hD : va_D A [(h0, .inr (7, [.int 0, .int 0, .int 0, .int 0, .int 0, .int 0, .int (-1), .int (-1), .int 0, .int 0, .int 0, .int 0, .int 0, .int 0, .int 0, .int 0, .ref (qa 0), .ref (qa 1), .ref (qa 2), .ref (qa 3), .int 0, .ref (qa 4), .ref (qa 5), .ref (qa 6), .ref (qa 7), .ref (qa 8), .ref (qa 9), .ref (qa 10), .ref (qa 11), .ref (qa 12), .ref (qa 13), .ref (qa 14), .ref (qa 15), .ref (qa 16), .ref (qa 17), .ref (qa 18), .ref (qa 19), .ref (qa 20), .int 0, .int 0, .int 0, .int 0, .long 0, .long 0, .long 0, .long 0, .long 0, .ref (qa 21), .int 0, .int 0, .int 0, .int 0]))] := hD
  have hK : va_K D cls [] s := hK
  refine W.eq (g2 := F0 m 26 ls [.int 0]) rfl ?_
  refine lv_if_ne (tgt := 35) hx hb d_Mo_count_26 (by decide) (fun q9 => absurd (by decide : ((0 : Int32) = 0)) q9) (fun _ => ?_)
  refine lv_aload_n hx hb d_Mo_count_29 rfl (lv_at hl 0 rfl) ?_
  refine lv_iconst (v := 1) hx hb d_Mo_count_30 (by decide) ?_
  refine xc_V (As := [.int 1]) (rest := []) (n := 1) (wc := [(h0, .inr (7, [.int 0, .int 0, .int 0, .int 0, .int 0, .int 0, .int (-1), .int (-1), .int 0, .int 0, .int 0, .int 0, .int 0, .int 0, .int 0, .int 0, .ref (qa 0), .ref (qa 1), .ref (qa 2), .ref (qa 3), .int 0, .ref (qa 4), .ref (qa 5), .ref (qa 6), .ref (qa 7), .ref (qa 8), .ref (qa 9), .ref (qa 10), .ref (qa 11), .ref (qa 12), .ref (qa 13), .ref (qa 14), .ref (qa 15), .ref (qa 16), .ref (qa 17), .ref (qa 18), .ref (qa 19), .ref (qa 20), .int 0, .int 0, .int 0, .int 0, .long 0, .long 0, .long 0, .long 0, .long 0, .ref (qa 21), .int 0, .int 0, .int 0, .int 0]))]) (wr := []) (tc := []) (tr := []) ⟨hx, hb, hml, hown, hts⟩ (c_Mo_refuse_1 l D h0 qa H.size) rfl rfl w_452 w_450 w_451 w_557 w_8 (by decide +kernel) ⟨Nat.le_of_ble_eq_true rfl, Nat.le_of_ble_eq_true rfl⟩ hP hD hK hS hA hN hZ [0] [] rfl rfl (by decide) (by decide) (by decide) [] [] rfl rfl (ci := 7) (q0 := 0) (q := (R_Mo, F_Mo, 52)) rfl rfl rfl rfl hl.1 rfl (Nat.le_of_ble_eq_true rfl) d_Mo_count_31 ⟨Nat.le_of_ble_eq_true rfl, Nat.le_of_ble_eq_true rfl⟩ (fun u3 H locs hP hD hK hS => ?_)
  have hP : va_P D cls [(h0, .inr (7, [.int 1, .int 0, .int 0, .int 0, .int 0, .int 0, .int (-1), .int (-1), .int 0, .int 0, .int 0, .int 0, .int 0, .int 0, .int 0, .int 0, .ref (qa 0), .ref (qa 1), .ref (qa 2), .ref (qa 3), .int 0, .ref (qa 4), .ref (qa 5), .ref (qa 6), .ref (qa 7), .ref (qa 8), .ref (qa 9), .ref (qa 10), .ref (qa 11), .ref (qa 12), .ref (qa 13), .ref (qa 14), .ref (qa 15), .ref (qa 16), .ref (qa 17), .ref (qa 18), .ref (qa 19), .ref (qa 20), .int 0, .int 0, .int 0, .int 0, .long 0, .long 0, .long 0, .long 0, .long 0, .ref (qa 21), .int 0, .int 0, .int 0, .int 0]))] H := hP
  have hD : va_D A [(h0, .inr (7, [.int 1, .int 0, .int 0, .int 0, .int 0, .int 0, .int (-1), .int (-1), .int 0, .int 0, .int 0, .int 0, .int 0, .int 0, .int 0, .int 0, .ref (qa 0), .ref (qa 1), .ref (qa 2), .ref (qa 3), .int 0, .ref (qa 4), .ref (qa 5), .ref (qa 6), .ref (qa 7), .ref (qa 8), .ref (qa 9), .ref (qa 10), .ref (qa 11), .ref (qa 12), .ref (qa 13), .ref (qa 14), .ref (qa 15), .ref (qa 16), .ref (qa 17), .ref (qa 18), .ref (qa 19), .ref (qa 20), .int 0, .int 0, .int 0, .int 0, .long 0, .long 0, .long 0, .long 0, .long 0, .ref (qa 21), .int 0, .int 0, .int 0, .int 0]))] := hD
  have hK : va_K D cls [] s := hK
  refine W.eq (g2 := F0 m 34 ls [.int 0]) rfl ?_
  exact xr_i hx hb hr hlocks hP hD hK hS (()) [0] rfl rfl (by decide) [] rfl rfl d_Mo_count_34

set_option maxHeartbeats 4000000 in
set_option maxRecDepth 100000 in
theorem c_Mo_count_3_g (l : Launch) (D : va_G) (h0 : Nat) (qa : Nat → Nat) (p1 : Int32) (hk : ¬ p1 < 0) (hg : 0 ≤ p1) (sz : Nat) : Met l y_Mo_count (Cond.code y_Mo_count b_Mo_count 3 (some .int) :: bw) (xR 2 0 0) (va_Pc [.ref h0, .int 3, .int p1] (xP D [] sz [(h0, .inr (7, [.int 0, .int 0, .int 0, .int 0, .int 0, .int 0, .int (-1), .int (-1), .int 0, .int 0, .int 0, .int 0, .int 0, .int 0, .int 0, .int 0, .ref (qa 0), .ref (qa 1), .ref (qa 2), .ref (qa 3), .int 0, .ref (qa 4), .ref (qa 5), .ref (qa 6), .ref (qa 7), .ref (qa 8), .ref (qa 9), .ref (qa 10), .ref (qa 11), .ref (qa 12), .ref (qa 13), .ref (qa 14), .ref (qa 15), .ref (qa 16), .ref (qa 17), .ref (qa 18), .ref (qa 19), .ref (qa 20), .int 0, .int 0, .int 0, .int 0, .long 0, .long 0, .long 0, .long 0, .long 0, .ref (qa 21), .int 0, .int 0, .int 0, .int 0]))])) (xQ (S := Unit) (fun _ => some (.int 0)) (fun _ => [(h0, .inr (7, [.int 1, .int 0, .int 0, .int 0, .int 0, .int 0, .int (-1), .int (-1), .int 0, .int 0, .int 0, .int 0, .int 0, .int 0, .int 0, .int 0, .ref (qa 0), .ref (qa 1), .ref (qa 2), .ref (qa 3), .int 0, .ref (qa 4), .ref (qa 5), .ref (qa 6), .ref (qa 7), .ref (qa 8), .ref (qa 9), .ref (qa 10), .ref (qa 11), .ref (qa 12), .ref (qa 13), .ref (qa 14), .ref (qa 15), .ref (qa 16), .ref (qa 17), .ref (qa 18), .ref (qa 19), .ref (qa 20), .int 0, .int 0, .int 0, .int 0, .long 0, .long 0, .long 0, .long 0, .long 0, .ref (qa 21), .int 0, .int 0, .int 0, .int 0]))]) (fun _ => []) D (va_A [(h0, .inr (7, [.int 0, .int 0, .int 0, .int 0, .int 0, .int 0, .int (-1), .int (-1), .int 0, .int 0, .int 0, .int 0, .int 0, .int 0, .int 0, .int 0, .ref (qa 0), .ref (qa 1), .ref (qa 2), .ref (qa 3), .int 0, .ref (qa 4), .ref (qa 5), .ref (qa 6), .ref (qa 7), .ref (qa 8), .ref (qa 9), .ref (qa 10), .ref (qa 11), .ref (qa 12), .ref (qa 13), .ref (qa 14), .ref (qa 15), .ref (qa 16), .ref (qa 17), .ref (qa 18), .ref (qa 19), .ref (qa 20), .int 0, .int 0, .int 0, .int 0, .long 0, .long 0, .long 0, .long 0, .long 0, .ref (qa 21), .int 0, .int 0, .int 0, .int 0]))] sz)) 0 0 (va_A [(h0, .inr (7, [.int 0, .int 0, .int 0, .int 0, .int 0, .int 0, .int (-1), .int (-1), .int 0, .int 0, .int 0, .int 0, .int 0, .int 0, .int 0, .int 0, .ref (qa 0), .ref (qa 1), .ref (qa 2), .ref (qa 3), .int 0, .ref (qa 4), .ref (qa 5), .ref (qa 6), .ref (qa 7), .ref (qa 8), .ref (qa 9), .ref (qa 10), .ref (qa 11), .ref (qa 12), .ref (qa 13), .ref (qa 14), .ref (qa 15), .ref (qa 16), .ref (qa 17), .ref (qa 18), .ref (qa 19), .ref (qa 20), .int 0, .int 0, .int 0, .int 0, .long 0, .long 0, .long 0, .long 0, .long 0, .ref (qa 21), .int 0, .int 0, .int 0, .int 0]))] sz) := by
  refine Met.ofW (cc := b_Mo_count) (maxL := 3) (ret := (some .int)) (by decide) rfl ?_
  intro p e s m args below meth c s₁ B hml hv
  obtain ⟨rfl, hsz, hP, hK, hD0, hN, hZ⟩ := hv
  have hx := B.exec
  have hb := B.bytes
  have hr := B.returns
  have hlocks := B.notSynchronized
  have hts : ∀ w ∈ bw, w.before _ s = true := fun w h => atoms_spec (ws := Cond.code y_Mo_count b_Mo_count 3 (some .int) :: bw) B.pre w (List.mem_cons_of_mem _ h)
  have hown : s.vm.findClass "ObjectForgeModel" = some m.cls := findClass_of_methodNamed B.named
  subst hsz
  have hP0 := hP
  have hD := hD0.self (sz := s.heap.size)
  generalize hAe : va_A [(h0, .inr (7, [.int 0, .int 0, .int 0, .int 0, .int 0, .int 0, .int (-1), .int (-1), .int 0, .int 0, .int 0, .int 0, .int 0, .int 0, .int 0, .int 0, .ref (qa 0), .ref (qa 1), .ref (qa 2), .ref (qa 3), .int 0, .ref (qa 4), .ref (qa 5), .ref (qa 6), .ref (qa 7), .ref (qa 8), .ref (qa 9), .ref (qa 10), .ref (qa 11), .ref (qa 12), .ref (qa 13), .ref (qa 14), .ref (qa 15), .ref (qa 16), .ref (qa 17), .ref (qa 18), .ref (qa 19), .ref (qa 20), .int 0, .int 0, .int 0, .int 0, .long 0, .long 0, .long 0, .long 0, .long 0, .ref (qa 21), .int 0, .int 0, .int 0, .int 0]))] s.heap.size = A at hD hZ ⊢
  have hA : ∀ q : Nat, s.heap.size ≤ q → A q := fun q h => by rw [← hAe]; exact Or.inr h
  have hS : va_S A s.heap s.heap [] := va_S.rf
  have hl := lv_entry ([.ref h0, .int 3, .int p1]) (n := 3) (Nat.le_of_ble_eq_true rfl)
  rw [lg_entry_eq]
  generalize (lg_sl ([.ref h0, .int 3, .int p1]) ++ List.replicate (3 - (lg_sl ([.ref h0, .int 3, .int p1])).length) Slot.unset).toArray = ls at hl ⊢
  have hl : lv_has ls 3 [(0, .ref h0), (1, .int 3), (2, .int p1)] := hl
  refine lv_aload_n hx hb d_Mo_count_0 rfl (lv_at hl 0 rfl) ?_
  refine lv_iconst (v := 0) hx hb d_Mo_count_1 (by decide) ?_
  refine va_put (D := D) (ci := 7) (v := .int 0) (ty := .int) (C := R_Mo) (T := F_Mo) (N := 52) hx hb hts i_Mo t_Mo t_Mo_ok n_Mo hown hK hP hD hS 0 rfl rfl 0 (by decide) (hts _ w_397) (fun _ h9 => h9) rfl (by decide +kernel) rfl rfl (Nat.le_of_ble_eq_true rfl) d_Mo_count_2 (fun H locs hP hD hS => ?_)
  have hP : va_P D cls [(h0, .inr (7, [.int 0, .int 0, .int 0, .int 0, .int 0, .int 0, .int (-1), .int (-1), .int 0, .int 0, .int 0, .int 0, .int 0, .int 0, .int 0, .int 0, .ref (qa 0), .ref (qa 1), .ref (qa 2), .ref (qa 3), .int 0, .ref (qa 4), .ref (qa 5), .ref (qa 6), .ref (qa 7), .ref (qa 8), .ref (qa 9), .ref (qa 10), .ref (qa 11), .ref (qa 12), .ref (qa 13), .ref (qa 14), .ref (qa 15), .ref (qa 16), .ref (qa 17), .ref (qa 18), .ref (qa 19), .ref (qa 20), .int 0, .int 0, .int 0, .int 0, .long 0, .long 0, .long 0, .long 0, .long 0, .ref (qa 21), .int 0, .int 0, .int 0, .int 0]))] H := hP
  have hD : va_D A [(h0, .inr (7, [.int 0, .int 0, .int 0, .int 0, .int 0, .int 0, .int (-1), .int (-1), .int 0, .int 0, .int 0, .int 0, .int 0, .int 0, .int 0, .int 0, .ref (qa 0), .ref (qa 1), .ref (qa 2), .ref (qa 3), .int 0, .ref (qa 4), .ref (qa 5), .ref (qa 6), .ref (qa 7), .ref (qa 8), .ref (qa 9), .ref (qa 10), .ref (qa 11), .ref (qa 12), .ref (qa 13), .ref (qa 14), .ref (qa 15), .ref (qa 16), .ref (qa 17), .ref (qa 18), .ref (qa 19), .ref (qa 20), .int 0, .int 0, .int 0, .int 0, .long 0, .long 0, .long 0, .long 0, .long 0, .ref (qa 21), .int 0, .int 0, .int 0, .int 0]))] := hD
  refine lv_iload_n hx hb d_Mo_count_5 rfl (lv_at hl 1 rfl) ?_
  refine lv_iconst (v := 4) hx hb d_Mo_count_6 (by decide) ?_
  refine xc_S (As := [.int 3, .int 4]) (rest := []) (n := 2) (wc := []) (wr := [(h0, .inr (7, [.int 0, .int 0, .int 0, .int 0, .int 0, .int 0, .int (-1), .int (-1), .int 0, .int 0, .int 0, .int 0, .int 0, .int 0, .int 0, .int 0, .ref (qa 0), .ref (qa 1), .ref (qa 2), .ref (qa 3), .int 0, .ref (qa 4), .ref (qa 5), .ref (qa 6), .ref (qa 7), .ref (qa 8), .ref (qa 9), .ref (qa 10), .ref (qa 11), .ref (qa 12), .ref (qa 13), .ref (qa 14), .ref (qa 15), .ref (qa 16), .ref (qa 17), .ref (qa 18), .ref (qa 19), .ref (qa 20), .int 0, .int 0, .int 0, .int 0, .long 0, .long 0, .long 0, .long 0, .long 0, .ref (qa 21), .int 0, .int 0, .int 0, .int 0]))]) (tc := []) (tr := []) ⟨hx, hb, hml, hown, hts⟩ (c_Mo_within_3 l D H.size) rfl rfl w_510 w_508 w_509 w_8 (by decide +kernel) ⟨Nat.le_of_ble_eq_true rfl, Nat.le_of_ble_eq_true rfl⟩ hP hD hK hS hA hN hZ [] [0] rfl rfl (by decide) (by decide) (by decide) [] [] rfl rfl rfl hl.1 rfl (Nat.le_of_ble_eq_true rfl) d_Mo_count_7 ⟨Nat.le_of_ble_eq_true rfl, Nat.le_of_ble_eq_true rfl⟩ (fun u1 H locs hP hD hK hS => ?_)
  have hP : va_P D cls [(h0, .inr (7, [.int 0, .int 0, .int 0, .int 0, .int 0, .int 0, .int (-1), .int (-1), .int 0, .int 0, .int 0, .int 0, .int 0, .int 0, .int 0, .int 0, .ref (qa 0), .ref (qa 1), .ref (qa 2), .ref (qa 3), .int 0, .ref (qa 4), .ref (qa 5), .ref (qa 6), .ref (qa 7), .ref (qa 8), .ref (qa 9), .ref (qa 10), .ref (qa 11), .ref (qa 12), .ref (qa 13), .ref (qa 14), .ref (qa 15), .ref (qa 16), .ref (qa 17), .ref (qa 18), .ref (qa 19), .ref (qa 20), .int 0, .int 0, .int 0, .int 0, .long 0, .long 0, .long 0, .long 0, .long 0, .ref (qa 21), .int 0, .int 0, .int 0, .int 0]))] H := hP
  have hD : va_D A [(h0, .inr (7, [.int 0, .int 0, .int 0, .int 0, .int 0, .int 0, .int (-1), .int (-1), .int 0, .int 0, .int 0, .int 0, .int 0, .int 0, .int 0, .int 0, .ref (qa 0), .ref (qa 1), .ref (qa 2), .ref (qa 3), .int 0, .ref (qa 4), .ref (qa 5), .ref (qa 6), .ref (qa 7), .ref (qa 8), .ref (qa 9), .ref (qa 10), .ref (qa 11), .ref (qa 12), .ref (qa 13), .ref (qa 14), .ref (qa 15), .ref (qa 16), .ref (qa 17), .ref (qa 18), .ref (qa 19), .ref (qa 20), .int 0, .int 0, .int 0, .int 0, .long 0, .long 0, .long 0, .long 0, .long 0, .ref (qa 21), .int 0, .int 0, .int 0, .int 0]))] := hD
  have hK : va_K D cls [] s := hK
  refine W.eq (g2 := F0 m 10 ls [.int 1]) rfl ?_
  refine lv_if_eq (tgt := 29) hx hb d_Mo_count_10 (by decide) (fun q9 => absurd q9 (by decide : ¬ ((1 : Int32) = 0))) (fun _ => ?_)
  refine lv_iload_n hx hb d_Mo_count_13 rfl (lv_at hl 1 rfl) ?_
  refine lv_iconst (v := 1) hx hb d_Mo_count_14 (by decide) ?_
  refine lv_icmp_le (tgt := 35) hx hb d_Mo_count_15 (by decide) (fun q9 => absurd q9 (by decide : ¬ ((3 : Int32) ≤ 1))) (fun _ => ?_)
  refine lv_iload_n hx hb d_Mo_count_18 rfl (lv_at hl 2 rfl) ?_
  refine lv_aload_n hx hb d_Mo_count_19 rfl (lv_at hl 0 rfl) ?_
  refine va_get (D := D) (ci := 7) (v := .int 0) (C := R_Mo) (T := F_Mo) (N := 52) hx hb hts i_Mo hown hK hP 0 rfl rfl 2 (by decide) (hts _ w_400) (fun _ h9 => h9) rfl d_Mo_count_20 ?_
  refine xc_S (As := [.int p1, .int 0]) (rest := []) (n := 2) (wc := []) (wr := [(h0, .inr (7, [.int 0, .int 0, .int 0, .int 0, .int 0, .int 0, .int (-1), .int (-1), .int 0, .int 0, .int 0, .int 0, .int 0, .int 0, .int 0, .int 0, .ref (qa 0), .ref (qa 1), .ref (qa 2), .ref (qa 3), .int 0, .ref (qa 4), .ref (qa 5), .ref (qa 6), .ref (qa 7), .ref (qa 8), .ref (qa 9), .ref (qa 10), .ref (qa 11), .ref (qa 12), .ref (qa 13), .ref (qa 14), .ref (qa 15), .ref (qa 16), .ref (qa 17), .ref (qa 18), .ref (qa 19), .ref (qa 20), .int 0, .int 0, .int 0, .int 0, .long 0, .long 0, .long 0, .long 0, .long 0, .ref (qa 21), .int 0, .int 0, .int 0, .int 0]))]) (tc := []) (tr := []) ⟨hx, hb, hml, hown, hts⟩ (c_Mo_within_g l D p1 0 hk hg H.size) rfl rfl w_510 w_508 w_509 w_8 (by decide +kernel) ⟨Nat.le_of_ble_eq_true rfl, Nat.le_of_ble_eq_true rfl⟩ hP hD hK hS hA hN hZ [] [0] rfl rfl (by decide) (by decide) (by decide) [] [] rfl rfl rfl hl.1 rfl (Nat.le_of_ble_eq_true rfl) d_Mo_count_23 ⟨Nat.le_of_ble_eq_true rfl, Nat.le_of_ble_eq_true rfl⟩ (fun u2 H locs hP hD hK hS => ?_)
  have hP : va_P D cls [(h0, .inr (7, [.int 0, .int 0, .int 0, .int 0, .int 0, .int 0, .int (-1), .int (-1), .int 0, .int 0, .int 0, .int 0, .int 0, .int 0, .int 0, .int 0, .ref (qa 0), .ref (qa 1), .ref (qa 2), .ref (qa 3), .int 0, .ref (qa 4), .ref (qa 5), .ref (qa 6), .ref (qa 7), .ref (qa 8), .ref (qa 9), .ref (qa 10), .ref (qa 11), .ref (qa 12), .ref (qa 13), .ref (qa 14), .ref (qa 15), .ref (qa 16), .ref (qa 17), .ref (qa 18), .ref (qa 19), .ref (qa 20), .int 0, .int 0, .int 0, .int 0, .long 0, .long 0, .long 0, .long 0, .long 0, .ref (qa 21), .int 0, .int 0, .int 0, .int 0]))] H := hP
  have hD : va_D A [(h0, .inr (7, [.int 0, .int 0, .int 0, .int 0, .int 0, .int 0, .int (-1), .int (-1), .int 0, .int 0, .int 0, .int 0, .int 0, .int 0, .int 0, .int 0, .ref (qa 0), .ref (qa 1), .ref (qa 2), .ref (qa 3), .int 0, .ref (qa 4), .ref (qa 5), .ref (qa 6), .ref (qa 7), .ref (qa 8), .ref (qa 9), .ref (qa 10), .ref (qa 11), .ref (qa 12), .ref (qa 13), .ref (qa 14), .ref (qa 15), .ref (qa 16), .ref (qa 17), .ref (qa 18), .ref (qa 19), .ref (qa 20), .int 0, .int 0, .int 0, .int 0, .long 0, .long 0, .long 0, .long 0, .long 0, .ref (qa 21), .int 0, .int 0, .int 0, .int 0]))] := hD
  have hK : va_K D cls [] s := hK
  refine W.eq (g2 := F0 m 26 ls [.int 0]) rfl ?_
  refine lv_if_ne (tgt := 35) hx hb d_Mo_count_26 (by decide) (fun q9 => absurd (by decide : ((0 : Int32) = 0)) q9) (fun _ => ?_)
  refine lv_aload_n hx hb d_Mo_count_29 rfl (lv_at hl 0 rfl) ?_
  refine lv_iconst (v := 1) hx hb d_Mo_count_30 (by decide) ?_
  refine xc_V (As := [.int 1]) (rest := []) (n := 1) (wc := [(h0, .inr (7, [.int 0, .int 0, .int 0, .int 0, .int 0, .int 0, .int (-1), .int (-1), .int 0, .int 0, .int 0, .int 0, .int 0, .int 0, .int 0, .int 0, .ref (qa 0), .ref (qa 1), .ref (qa 2), .ref (qa 3), .int 0, .ref (qa 4), .ref (qa 5), .ref (qa 6), .ref (qa 7), .ref (qa 8), .ref (qa 9), .ref (qa 10), .ref (qa 11), .ref (qa 12), .ref (qa 13), .ref (qa 14), .ref (qa 15), .ref (qa 16), .ref (qa 17), .ref (qa 18), .ref (qa 19), .ref (qa 20), .int 0, .int 0, .int 0, .int 0, .long 0, .long 0, .long 0, .long 0, .long 0, .ref (qa 21), .int 0, .int 0, .int 0, .int 0]))]) (wr := []) (tc := []) (tr := []) ⟨hx, hb, hml, hown, hts⟩ (c_Mo_refuse_1 l D h0 qa H.size) rfl rfl w_452 w_450 w_451 w_557 w_8 (by decide +kernel) ⟨Nat.le_of_ble_eq_true rfl, Nat.le_of_ble_eq_true rfl⟩ hP hD hK hS hA hN hZ [0] [] rfl rfl (by decide) (by decide) (by decide) [] [] rfl rfl (ci := 7) (q0 := 0) (q := (R_Mo, F_Mo, 52)) rfl rfl rfl rfl hl.1 rfl (Nat.le_of_ble_eq_true rfl) d_Mo_count_31 ⟨Nat.le_of_ble_eq_true rfl, Nat.le_of_ble_eq_true rfl⟩ (fun u3 H locs hP hD hK hS => ?_)
  have hP : va_P D cls [(h0, .inr (7, [.int 1, .int 0, .int 0, .int 0, .int 0, .int 0, .int (-1), .int (-1), .int 0, .int 0, .int 0, .int 0, .int 0, .int 0, .int 0, .int 0, .ref (qa 0), .ref (qa 1), .ref (qa 2), .ref (qa 3), .int 0, .ref (qa 4), .ref (qa 5), .ref (qa 6), .ref (qa 7), .ref (qa 8), .ref (qa 9), .ref (qa 10), .ref (qa 11), .ref (qa 12), .ref (qa 13), .ref (qa 14), .ref (qa 15), .ref (qa 16), .ref (qa 17), .ref (qa 18), .ref (qa 19), .ref (qa 20), .int 0, .int 0, .int 0, .int 0, .long 0, .long 0, .long 0, .long 0, .long 0, .ref (qa 21), .int 0, .int 0, .int 0, .int 0]))] H := hP
  have hD : va_D A [(h0, .inr (7, [.int 1, .int 0, .int 0, .int 0, .int 0, .int 0, .int (-1), .int (-1), .int 0, .int 0, .int 0, .int 0, .int 0, .int 0, .int 0, .int 0, .ref (qa 0), .ref (qa 1), .ref (qa 2), .ref (qa 3), .int 0, .ref (qa 4), .ref (qa 5), .ref (qa 6), .ref (qa 7), .ref (qa 8), .ref (qa 9), .ref (qa 10), .ref (qa 11), .ref (qa 12), .ref (qa 13), .ref (qa 14), .ref (qa 15), .ref (qa 16), .ref (qa 17), .ref (qa 18), .ref (qa 19), .ref (qa 20), .int 0, .int 0, .int 0, .int 0, .long 0, .long 0, .long 0, .long 0, .long 0, .ref (qa 21), .int 0, .int 0, .int 0, .int 0]))] := hD
  have hK : va_K D cls [] s := hK
  refine W.eq (g2 := F0 m 34 ls [.int 0]) rfl ?_
  exact xr_i hx hb hr hlocks hP hD hK hS (()) [0] rfl rfl (by decide) [] rfl rfl d_Mo_count_34

set_option maxHeartbeats 4000000 in
set_option maxRecDepth 100000 in
theorem c_Mo_count_n (l : Launch) (D : va_G) (h0 : Nat) (qa : Nat → Nat) (p0 p1 : Int32) (hk : p0 < 0) (sz : Nat) : Met l y_Mo_count (Cond.code y_Mo_count b_Mo_count 3 (some .int) :: bw) (xR 2 0 0) (va_Pc [.ref h0, .int p0, .int p1] (xP D [] sz [(h0, .inr (7, [.int 0, .int 0, .int 0, .int 0, .int 0, .int 0, .int (-1), .int (-1), .int 0, .int 0, .int 0, .int 0, .int 0, .int 0, .int 0, .int 0, .ref (qa 0), .ref (qa 1), .ref (qa 2), .ref (qa 3), .int 0, .ref (qa 4), .ref (qa 5), .ref (qa 6), .ref (qa 7), .ref (qa 8), .ref (qa 9), .ref (qa 10), .ref (qa 11), .ref (qa 12), .ref (qa 13), .ref (qa 14), .ref (qa 15), .ref (qa 16), .ref (qa 17), .ref (qa 18), .ref (qa 19), .ref (qa 20), .int 0, .int 0, .int 0, .int 0, .long 0, .long 0, .long 0, .long 0, .long 0, .ref (qa 21), .int 0, .int 0, .int 0, .int 0]))])) (xQ (S := Unit) (fun _ => some (.int 0)) (fun _ => [(h0, .inr (7, [.int 1, .int 0, .int 0, .int 0, .int 0, .int 0, .int (-1), .int (-1), .int 0, .int 0, .int 0, .int 0, .int 0, .int 0, .int 0, .int 0, .ref (qa 0), .ref (qa 1), .ref (qa 2), .ref (qa 3), .int 0, .ref (qa 4), .ref (qa 5), .ref (qa 6), .ref (qa 7), .ref (qa 8), .ref (qa 9), .ref (qa 10), .ref (qa 11), .ref (qa 12), .ref (qa 13), .ref (qa 14), .ref (qa 15), .ref (qa 16), .ref (qa 17), .ref (qa 18), .ref (qa 19), .ref (qa 20), .int 0, .int 0, .int 0, .int 0, .long 0, .long 0, .long 0, .long 0, .long 0, .ref (qa 21), .int 0, .int 0, .int 0, .int 0]))]) (fun _ => []) D (va_A [(h0, .inr (7, [.int 0, .int 0, .int 0, .int 0, .int 0, .int 0, .int (-1), .int (-1), .int 0, .int 0, .int 0, .int 0, .int 0, .int 0, .int 0, .int 0, .ref (qa 0), .ref (qa 1), .ref (qa 2), .ref (qa 3), .int 0, .ref (qa 4), .ref (qa 5), .ref (qa 6), .ref (qa 7), .ref (qa 8), .ref (qa 9), .ref (qa 10), .ref (qa 11), .ref (qa 12), .ref (qa 13), .ref (qa 14), .ref (qa 15), .ref (qa 16), .ref (qa 17), .ref (qa 18), .ref (qa 19), .ref (qa 20), .int 0, .int 0, .int 0, .int 0, .long 0, .long 0, .long 0, .long 0, .long 0, .ref (qa 21), .int 0, .int 0, .int 0, .int 0]))] sz)) 0 0 (va_A [(h0, .inr (7, [.int 0, .int 0, .int 0, .int 0, .int 0, .int 0, .int (-1), .int (-1), .int 0, .int 0, .int 0, .int 0, .int 0, .int 0, .int 0, .int 0, .ref (qa 0), .ref (qa 1), .ref (qa 2), .ref (qa 3), .int 0, .ref (qa 4), .ref (qa 5), .ref (qa 6), .ref (qa 7), .ref (qa 8), .ref (qa 9), .ref (qa 10), .ref (qa 11), .ref (qa 12), .ref (qa 13), .ref (qa 14), .ref (qa 15), .ref (qa 16), .ref (qa 17), .ref (qa 18), .ref (qa 19), .ref (qa 20), .int 0, .int 0, .int 0, .int 0, .long 0, .long 0, .long 0, .long 0, .long 0, .ref (qa 21), .int 0, .int 0, .int 0, .int 0]))] sz) := by
  refine Met.ofW (cc := b_Mo_count) (maxL := 3) (ret := (some .int)) (by decide) rfl ?_
  intro p e s m args below meth c s₁ B hml hv
  obtain ⟨rfl, hsz, hP, hK, hD0, hN, hZ⟩ := hv
  have hx := B.exec
  have hb := B.bytes
  have hr := B.returns
  have hlocks := B.notSynchronized
  have hts : ∀ w ∈ bw, w.before _ s = true := fun w h => atoms_spec (ws := Cond.code y_Mo_count b_Mo_count 3 (some .int) :: bw) B.pre w (List.mem_cons_of_mem _ h)
  have hown : s.vm.findClass "ObjectForgeModel" = some m.cls := findClass_of_methodNamed B.named
  subst hsz
  have hP0 := hP
  have hD := hD0.self (sz := s.heap.size)
  generalize hAe : va_A [(h0, .inr (7, [.int 0, .int 0, .int 0, .int 0, .int 0, .int 0, .int (-1), .int (-1), .int 0, .int 0, .int 0, .int 0, .int 0, .int 0, .int 0, .int 0, .ref (qa 0), .ref (qa 1), .ref (qa 2), .ref (qa 3), .int 0, .ref (qa 4), .ref (qa 5), .ref (qa 6), .ref (qa 7), .ref (qa 8), .ref (qa 9), .ref (qa 10), .ref (qa 11), .ref (qa 12), .ref (qa 13), .ref (qa 14), .ref (qa 15), .ref (qa 16), .ref (qa 17), .ref (qa 18), .ref (qa 19), .ref (qa 20), .int 0, .int 0, .int 0, .int 0, .long 0, .long 0, .long 0, .long 0, .long 0, .ref (qa 21), .int 0, .int 0, .int 0, .int 0]))] s.heap.size = A at hD hZ ⊢
  have hA : ∀ q : Nat, s.heap.size ≤ q → A q := fun q h => by rw [← hAe]; exact Or.inr h
  have hS : va_S A s.heap s.heap [] := va_S.rf
  have hl := lv_entry ([.ref h0, .int p0, .int p1]) (n := 3) (Nat.le_of_ble_eq_true rfl)
  rw [lg_entry_eq]
  generalize (lg_sl ([.ref h0, .int p0, .int p1]) ++ List.replicate (3 - (lg_sl ([.ref h0, .int p0, .int p1])).length) Slot.unset).toArray = ls at hl ⊢
  have hl : lv_has ls 3 [(0, .ref h0), (1, .int p0), (2, .int p1)] := hl
  refine lv_aload_n hx hb d_Mo_count_0 rfl (lv_at hl 0 rfl) ?_
  refine lv_iconst (v := 0) hx hb d_Mo_count_1 (by decide) ?_
  refine va_put (D := D) (ci := 7) (v := .int 0) (ty := .int) (C := R_Mo) (T := F_Mo) (N := 52) hx hb hts i_Mo t_Mo t_Mo_ok n_Mo hown hK hP hD hS 0 rfl rfl 0 (by decide) (hts _ w_397) (fun _ h9 => h9) rfl (by decide +kernel) rfl rfl (Nat.le_of_ble_eq_true rfl) d_Mo_count_2 (fun H locs hP hD hS => ?_)
  have hP : va_P D cls [(h0, .inr (7, [.int 0, .int 0, .int 0, .int 0, .int 0, .int 0, .int (-1), .int (-1), .int 0, .int 0, .int 0, .int 0, .int 0, .int 0, .int 0, .int 0, .ref (qa 0), .ref (qa 1), .ref (qa 2), .ref (qa 3), .int 0, .ref (qa 4), .ref (qa 5), .ref (qa 6), .ref (qa 7), .ref (qa 8), .ref (qa 9), .ref (qa 10), .ref (qa 11), .ref (qa 12), .ref (qa 13), .ref (qa 14), .ref (qa 15), .ref (qa 16), .ref (qa 17), .ref (qa 18), .ref (qa 19), .ref (qa 20), .int 0, .int 0, .int 0, .int 0, .long 0, .long 0, .long 0, .long 0, .long 0, .ref (qa 21), .int 0, .int 0, .int 0, .int 0]))] H := hP
  have hD : va_D A [(h0, .inr (7, [.int 0, .int 0, .int 0, .int 0, .int 0, .int 0, .int (-1), .int (-1), .int 0, .int 0, .int 0, .int 0, .int 0, .int 0, .int 0, .int 0, .ref (qa 0), .ref (qa 1), .ref (qa 2), .ref (qa 3), .int 0, .ref (qa 4), .ref (qa 5), .ref (qa 6), .ref (qa 7), .ref (qa 8), .ref (qa 9), .ref (qa 10), .ref (qa 11), .ref (qa 12), .ref (qa 13), .ref (qa 14), .ref (qa 15), .ref (qa 16), .ref (qa 17), .ref (qa 18), .ref (qa 19), .ref (qa 20), .int 0, .int 0, .int 0, .int 0, .long 0, .long 0, .long 0, .long 0, .long 0, .ref (qa 21), .int 0, .int 0, .int 0, .int 0]))] := hD
  refine lv_iload_n hx hb d_Mo_count_5 rfl (lv_at hl 1 rfl) ?_
  refine lv_iconst (v := 4) hx hb d_Mo_count_6 (by decide) ?_
  refine xc_S (As := [.int p0, .int 4]) (rest := []) (n := 2) (wc := []) (wr := [(h0, .inr (7, [.int 0, .int 0, .int 0, .int 0, .int 0, .int 0, .int (-1), .int (-1), .int 0, .int 0, .int 0, .int 0, .int 0, .int 0, .int 0, .int 0, .ref (qa 0), .ref (qa 1), .ref (qa 2), .ref (qa 3), .int 0, .ref (qa 4), .ref (qa 5), .ref (qa 6), .ref (qa 7), .ref (qa 8), .ref (qa 9), .ref (qa 10), .ref (qa 11), .ref (qa 12), .ref (qa 13), .ref (qa 14), .ref (qa 15), .ref (qa 16), .ref (qa 17), .ref (qa 18), .ref (qa 19), .ref (qa 20), .int 0, .int 0, .int 0, .int 0, .long 0, .long 0, .long 0, .long 0, .long 0, .ref (qa 21), .int 0, .int 0, .int 0, .int 0]))]) (tc := []) (tr := []) ⟨hx, hb, hml, hown, hts⟩ (c_Mo_within_n l D p0 4 hk H.size) rfl rfl w_510 w_508 w_509 w_8 (by decide +kernel) ⟨Nat.le_of_ble_eq_true rfl, Nat.le_of_ble_eq_true rfl⟩ hP hD hK hS hA hN hZ [] [0] rfl rfl (by decide) (by decide) (by decide) [] [] rfl rfl rfl hl.1 rfl (Nat.le_of_ble_eq_true rfl) d_Mo_count_7 ⟨Nat.le_of_ble_eq_true rfl, Nat.le_of_ble_eq_true rfl⟩ (fun u1 H locs hP hD hK hS => ?_)
  have hP : va_P D cls [(h0, .inr (7, [.int 0, .int 0, .int 0, .int 0, .int 0, .int 0, .int (-1), .int (-1), .int 0, .int 0, .int 0, .int 0, .int 0, .int 0, .int 0, .int 0, .ref (qa 0), .ref (qa 1), .ref (qa 2), .ref (qa 3), .int 0, .ref (qa 4), .ref (qa 5), .ref (qa 6), .ref (qa 7), .ref (qa 8), .ref (qa 9), .ref (qa 10), .ref (qa 11), .ref (qa 12), .ref (qa 13), .ref (qa 14), .ref (qa 15), .ref (qa 16), .ref (qa 17), .ref (qa 18), .ref (qa 19), .ref (qa 20), .int 0, .int 0, .int 0, .int 0, .long 0, .long 0, .long 0, .long 0, .long 0, .ref (qa 21), .int 0, .int 0, .int 0, .int 0]))] H := hP
  have hD : va_D A [(h0, .inr (7, [.int 0, .int 0, .int 0, .int 0, .int 0, .int 0, .int (-1), .int (-1), .int 0, .int 0, .int 0, .int 0, .int 0, .int 0, .int 0, .int 0, .ref (qa 0), .ref (qa 1), .ref (qa 2), .ref (qa 3), .int 0, .ref (qa 4), .ref (qa 5), .ref (qa 6), .ref (qa 7), .ref (qa 8), .ref (qa 9), .ref (qa 10), .ref (qa 11), .ref (qa 12), .ref (qa 13), .ref (qa 14), .ref (qa 15), .ref (qa 16), .ref (qa 17), .ref (qa 18), .ref (qa 19), .ref (qa 20), .int 0, .int 0, .int 0, .int 0, .long 0, .long 0, .long 0, .long 0, .long 0, .ref (qa 21), .int 0, .int 0, .int 0, .int 0]))] := hD
  have hK : va_K D cls [] s := hK
  refine W.eq (g2 := F0 m 10 ls [.int 0]) rfl ?_
  refine lv_if_eq (tgt := 29) hx hb d_Mo_count_10 (by decide) (fun _ => ?_) (fun q9 => absurd (by decide : ((0 : Int32) = 0)) q9)
  refine lv_aload_n hx hb d_Mo_count_29 rfl (lv_at hl 0 rfl) ?_
  refine lv_iconst (v := 1) hx hb d_Mo_count_30 (by decide) ?_
  refine xc_V (As := [.int 1]) (rest := []) (n := 1) (wc := [(h0, .inr (7, [.int 0, .int 0, .int 0, .int 0, .int 0, .int 0, .int (-1), .int (-1), .int 0, .int 0, .int 0, .int 0, .int 0, .int 0, .int 0, .int 0, .ref (qa 0), .ref (qa 1), .ref (qa 2), .ref (qa 3), .int 0, .ref (qa 4), .ref (qa 5), .ref (qa 6), .ref (qa 7), .ref (qa 8), .ref (qa 9), .ref (qa 10), .ref (qa 11), .ref (qa 12), .ref (qa 13), .ref (qa 14), .ref (qa 15), .ref (qa 16), .ref (qa 17), .ref (qa 18), .ref (qa 19), .ref (qa 20), .int 0, .int 0, .int 0, .int 0, .long 0, .long 0, .long 0, .long 0, .long 0, .ref (qa 21), .int 0, .int 0, .int 0, .int 0]))]) (wr := []) (tc := []) (tr := []) ⟨hx, hb, hml, hown, hts⟩ (c_Mo_refuse_1 l D h0 qa H.size) rfl rfl w_452 w_450 w_451 w_557 w_8 (by decide +kernel) ⟨Nat.le_of_ble_eq_true rfl, Nat.le_of_ble_eq_true rfl⟩ hP hD hK hS hA hN hZ [0] [] rfl rfl (by decide) (by decide) (by decide) [] [] rfl rfl (ci := 7) (q0 := 0) (q := (R_Mo, F_Mo, 52)) rfl rfl rfl rfl hl.1 rfl (Nat.le_of_ble_eq_true rfl) d_Mo_count_31 ⟨Nat.le_of_ble_eq_true rfl, Nat.le_of_ble_eq_true rfl⟩ (fun u2 H locs hP hD hK hS => ?_)
  have hP : va_P D cls [(h0, .inr (7, [.int 1, .int 0, .int 0, .int 0, .int 0, .int 0, .int (-1), .int (-1), .int 0, .int 0, .int 0, .int 0, .int 0, .int 0, .int 0, .int 0, .ref (qa 0), .ref (qa 1), .ref (qa 2), .ref (qa 3), .int 0, .ref (qa 4), .ref (qa 5), .ref (qa 6), .ref (qa 7), .ref (qa 8), .ref (qa 9), .ref (qa 10), .ref (qa 11), .ref (qa 12), .ref (qa 13), .ref (qa 14), .ref (qa 15), .ref (qa 16), .ref (qa 17), .ref (qa 18), .ref (qa 19), .ref (qa 20), .int 0, .int 0, .int 0, .int 0, .long 0, .long 0, .long 0, .long 0, .long 0, .ref (qa 21), .int 0, .int 0, .int 0, .int 0]))] H := hP
  have hD : va_D A [(h0, .inr (7, [.int 1, .int 0, .int 0, .int 0, .int 0, .int 0, .int (-1), .int (-1), .int 0, .int 0, .int 0, .int 0, .int 0, .int 0, .int 0, .int 0, .ref (qa 0), .ref (qa 1), .ref (qa 2), .ref (qa 3), .int 0, .ref (qa 4), .ref (qa 5), .ref (qa 6), .ref (qa 7), .ref (qa 8), .ref (qa 9), .ref (qa 10), .ref (qa 11), .ref (qa 12), .ref (qa 13), .ref (qa 14), .ref (qa 15), .ref (qa 16), .ref (qa 17), .ref (qa 18), .ref (qa 19), .ref (qa 20), .int 0, .int 0, .int 0, .int 0, .long 0, .long 0, .long 0, .long 0, .long 0, .ref (qa 21), .int 0, .int 0, .int 0, .int 0]))] := hD
  have hK : va_K D cls [] s := hK
  refine W.eq (g2 := F0 m 34 ls [.int 0]) rfl ?_
  exact xr_i hx hb hr hlocks hP hD hK hS (()) [0] rfl rfl (by decide) [] rfl rfl d_Mo_count_34

set_option maxHeartbeats 4000000 in
set_option maxRecDepth 100000 in
theorem c_Mo_count_g (l : Launch) (D : va_G) (h0 : Nat) (qa : Nat → Nat) (p0 p1 : Int32) (hk : ¬ p0 < 0) (hg : 4 ≤ p0) (sz : Nat) : Met l y_Mo_count (Cond.code y_Mo_count b_Mo_count 3 (some .int) :: bw) (xR 2 0 0) (va_Pc [.ref h0, .int p0, .int p1] (xP D [] sz [(h0, .inr (7, [.int 0, .int 0, .int 0, .int 0, .int 0, .int 0, .int (-1), .int (-1), .int 0, .int 0, .int 0, .int 0, .int 0, .int 0, .int 0, .int 0, .ref (qa 0), .ref (qa 1), .ref (qa 2), .ref (qa 3), .int 0, .ref (qa 4), .ref (qa 5), .ref (qa 6), .ref (qa 7), .ref (qa 8), .ref (qa 9), .ref (qa 10), .ref (qa 11), .ref (qa 12), .ref (qa 13), .ref (qa 14), .ref (qa 15), .ref (qa 16), .ref (qa 17), .ref (qa 18), .ref (qa 19), .ref (qa 20), .int 0, .int 0, .int 0, .int 0, .long 0, .long 0, .long 0, .long 0, .long 0, .ref (qa 21), .int 0, .int 0, .int 0, .int 0]))])) (xQ (S := Unit) (fun _ => some (.int 0)) (fun _ => [(h0, .inr (7, [.int 1, .int 0, .int 0, .int 0, .int 0, .int 0, .int (-1), .int (-1), .int 0, .int 0, .int 0, .int 0, .int 0, .int 0, .int 0, .int 0, .ref (qa 0), .ref (qa 1), .ref (qa 2), .ref (qa 3), .int 0, .ref (qa 4), .ref (qa 5), .ref (qa 6), .ref (qa 7), .ref (qa 8), .ref (qa 9), .ref (qa 10), .ref (qa 11), .ref (qa 12), .ref (qa 13), .ref (qa 14), .ref (qa 15), .ref (qa 16), .ref (qa 17), .ref (qa 18), .ref (qa 19), .ref (qa 20), .int 0, .int 0, .int 0, .int 0, .long 0, .long 0, .long 0, .long 0, .long 0, .ref (qa 21), .int 0, .int 0, .int 0, .int 0]))]) (fun _ => []) D (va_A [(h0, .inr (7, [.int 0, .int 0, .int 0, .int 0, .int 0, .int 0, .int (-1), .int (-1), .int 0, .int 0, .int 0, .int 0, .int 0, .int 0, .int 0, .int 0, .ref (qa 0), .ref (qa 1), .ref (qa 2), .ref (qa 3), .int 0, .ref (qa 4), .ref (qa 5), .ref (qa 6), .ref (qa 7), .ref (qa 8), .ref (qa 9), .ref (qa 10), .ref (qa 11), .ref (qa 12), .ref (qa 13), .ref (qa 14), .ref (qa 15), .ref (qa 16), .ref (qa 17), .ref (qa 18), .ref (qa 19), .ref (qa 20), .int 0, .int 0, .int 0, .int 0, .long 0, .long 0, .long 0, .long 0, .long 0, .ref (qa 21), .int 0, .int 0, .int 0, .int 0]))] sz)) 0 0 (va_A [(h0, .inr (7, [.int 0, .int 0, .int 0, .int 0, .int 0, .int 0, .int (-1), .int (-1), .int 0, .int 0, .int 0, .int 0, .int 0, .int 0, .int 0, .int 0, .ref (qa 0), .ref (qa 1), .ref (qa 2), .ref (qa 3), .int 0, .ref (qa 4), .ref (qa 5), .ref (qa 6), .ref (qa 7), .ref (qa 8), .ref (qa 9), .ref (qa 10), .ref (qa 11), .ref (qa 12), .ref (qa 13), .ref (qa 14), .ref (qa 15), .ref (qa 16), .ref (qa 17), .ref (qa 18), .ref (qa 19), .ref (qa 20), .int 0, .int 0, .int 0, .int 0, .long 0, .long 0, .long 0, .long 0, .long 0, .ref (qa 21), .int 0, .int 0, .int 0, .int 0]))] sz) := by
  refine Met.ofW (cc := b_Mo_count) (maxL := 3) (ret := (some .int)) (by decide) rfl ?_
  intro p e s m args below meth c s₁ B hml hv
  obtain ⟨rfl, hsz, hP, hK, hD0, hN, hZ⟩ := hv
  have hx := B.exec
  have hb := B.bytes
  have hr := B.returns
  have hlocks := B.notSynchronized
  have hts : ∀ w ∈ bw, w.before _ s = true := fun w h => atoms_spec (ws := Cond.code y_Mo_count b_Mo_count 3 (some .int) :: bw) B.pre w (List.mem_cons_of_mem _ h)
  have hown : s.vm.findClass "ObjectForgeModel" = some m.cls := findClass_of_methodNamed B.named
  subst hsz
  have hP0 := hP
  have hD := hD0.self (sz := s.heap.size)
  generalize hAe : va_A [(h0, .inr (7, [.int 0, .int 0, .int 0, .int 0, .int 0, .int 0, .int (-1), .int (-1), .int 0, .int 0, .int 0, .int 0, .int 0, .int 0, .int 0, .int 0, .ref (qa 0), .ref (qa 1), .ref (qa 2), .ref (qa 3), .int 0, .ref (qa 4), .ref (qa 5), .ref (qa 6), .ref (qa 7), .ref (qa 8), .ref (qa 9), .ref (qa 10), .ref (qa 11), .ref (qa 12), .ref (qa 13), .ref (qa 14), .ref (qa 15), .ref (qa 16), .ref (qa 17), .ref (qa 18), .ref (qa 19), .ref (qa 20), .int 0, .int 0, .int 0, .int 0, .long 0, .long 0, .long 0, .long 0, .long 0, .ref (qa 21), .int 0, .int 0, .int 0, .int 0]))] s.heap.size = A at hD hZ ⊢
  have hA : ∀ q : Nat, s.heap.size ≤ q → A q := fun q h => by rw [← hAe]; exact Or.inr h
  have hS : va_S A s.heap s.heap [] := va_S.rf
  have hl := lv_entry ([.ref h0, .int p0, .int p1]) (n := 3) (Nat.le_of_ble_eq_true rfl)
  rw [lg_entry_eq]
  generalize (lg_sl ([.ref h0, .int p0, .int p1]) ++ List.replicate (3 - (lg_sl ([.ref h0, .int p0, .int p1])).length) Slot.unset).toArray = ls at hl ⊢
  have hl : lv_has ls 3 [(0, .ref h0), (1, .int p0), (2, .int p1)] := hl
  refine lv_aload_n hx hb d_Mo_count_0 rfl (lv_at hl 0 rfl) ?_
  refine lv_iconst (v := 0) hx hb d_Mo_count_1 (by decide) ?_
  refine va_put (D := D) (ci := 7) (v := .int 0) (ty := .int) (C := R_Mo) (T := F_Mo) (N := 52) hx hb hts i_Mo t_Mo t_Mo_ok n_Mo hown hK hP hD hS 0 rfl rfl 0 (by decide) (hts _ w_397) (fun _ h9 => h9) rfl (by decide +kernel) rfl rfl (Nat.le_of_ble_eq_true rfl) d_Mo_count_2 (fun H locs hP hD hS => ?_)
  have hP : va_P D cls [(h0, .inr (7, [.int 0, .int 0, .int 0, .int 0, .int 0, .int 0, .int (-1), .int (-1), .int 0, .int 0, .int 0, .int 0, .int 0, .int 0, .int 0, .int 0, .ref (qa 0), .ref (qa 1), .ref (qa 2), .ref (qa 3), .int 0, .ref (qa 4), .ref (qa 5), .ref (qa 6), .ref (qa 7), .ref (qa 8), .ref (qa 9), .ref (qa 10), .ref (qa 11), .ref (qa 12), .ref (qa 13), .ref (qa 14), .ref (qa 15), .ref (qa 16), .ref (qa 17), .ref (qa 18), .ref (qa 19), .ref (qa 20), .int 0, .int 0, .int 0, .int 0, .long 0, .long 0, .long 0, .long 0, .long 0, .ref (qa 21), .int 0, .int 0, .int 0, .int 0]))] H := hP
  have hD : va_D A [(h0, .inr (7, [.int 0, .int 0, .int 0, .int 0, .int 0, .int 0, .int (-1), .int (-1), .int 0, .int 0, .int 0, .int 0, .int 0, .int 0, .int 0, .int 0, .ref (qa 0), .ref (qa 1), .ref (qa 2), .ref (qa 3), .int 0, .ref (qa 4), .ref (qa 5), .ref (qa 6), .ref (qa 7), .ref (qa 8), .ref (qa 9), .ref (qa 10), .ref (qa 11), .ref (qa 12), .ref (qa 13), .ref (qa 14), .ref (qa 15), .ref (qa 16), .ref (qa 17), .ref (qa 18), .ref (qa 19), .ref (qa 20), .int 0, .int 0, .int 0, .int 0, .long 0, .long 0, .long 0, .long 0, .long 0, .ref (qa 21), .int 0, .int 0, .int 0, .int 0]))] := hD
  refine lv_iload_n hx hb d_Mo_count_5 rfl (lv_at hl 1 rfl) ?_
  refine lv_iconst (v := 4) hx hb d_Mo_count_6 (by decide) ?_
  refine xc_S (As := [.int p0, .int 4]) (rest := []) (n := 2) (wc := []) (wr := [(h0, .inr (7, [.int 0, .int 0, .int 0, .int 0, .int 0, .int 0, .int (-1), .int (-1), .int 0, .int 0, .int 0, .int 0, .int 0, .int 0, .int 0, .int 0, .ref (qa 0), .ref (qa 1), .ref (qa 2), .ref (qa 3), .int 0, .ref (qa 4), .ref (qa 5), .ref (qa 6), .ref (qa 7), .ref (qa 8), .ref (qa 9), .ref (qa 10), .ref (qa 11), .ref (qa 12), .ref (qa 13), .ref (qa 14), .ref (qa 15), .ref (qa 16), .ref (qa 17), .ref (qa 18), .ref (qa 19), .ref (qa 20), .int 0, .int 0, .int 0, .int 0, .long 0, .long 0, .long 0, .long 0, .long 0, .ref (qa 21), .int 0, .int 0, .int 0, .int 0]))]) (tc := []) (tr := []) ⟨hx, hb, hml, hown, hts⟩ (c_Mo_within_g l D p0 4 hk hg H.size) rfl rfl w_510 w_508 w_509 w_8 (by decide +kernel) ⟨Nat.le_of_ble_eq_true rfl, Nat.le_of_ble_eq_true rfl⟩ hP hD hK hS hA hN hZ [] [0] rfl rfl (by decide) (by decide) (by decide) [] [] rfl rfl rfl hl.1 rfl (Nat.le_of_ble_eq_true rfl) d_Mo_count_7 ⟨Nat.le_of_ble_eq_true rfl, Nat.le_of_ble_eq_true rfl⟩ (fun u1 H locs hP hD hK hS => ?_)
  have hP : va_P D cls [(h0, .inr (7, [.int 0, .int 0, .int 0, .int 0, .int 0, .int 0, .int (-1), .int (-1), .int 0, .int 0, .int 0, .int 0, .int 0, .int 0, .int 0, .int 0, .ref (qa 0), .ref (qa 1), .ref (qa 2), .ref (qa 3), .int 0, .ref (qa 4), .ref (qa 5), .ref (qa 6), .ref (qa 7), .ref (qa 8), .ref (qa 9), .ref (qa 10), .ref (qa 11), .ref (qa 12), .ref (qa 13), .ref (qa 14), .ref (qa 15), .ref (qa 16), .ref (qa 17), .ref (qa 18), .ref (qa 19), .ref (qa 20), .int 0, .int 0, .int 0, .int 0, .long 0, .long 0, .long 0, .long 0, .long 0, .ref (qa 21), .int 0, .int 0, .int 0, .int 0]))] H := hP
  have hD : va_D A [(h0, .inr (7, [.int 0, .int 0, .int 0, .int 0, .int 0, .int 0, .int (-1), .int (-1), .int 0, .int 0, .int 0, .int 0, .int 0, .int 0, .int 0, .int 0, .ref (qa 0), .ref (qa 1), .ref (qa 2), .ref (qa 3), .int 0, .ref (qa 4), .ref (qa 5), .ref (qa 6), .ref (qa 7), .ref (qa 8), .ref (qa 9), .ref (qa 10), .ref (qa 11), .ref (qa 12), .ref (qa 13), .ref (qa 14), .ref (qa 15), .ref (qa 16), .ref (qa 17), .ref (qa 18), .ref (qa 19), .ref (qa 20), .int 0, .int 0, .int 0, .int 0, .long 0, .long 0, .long 0, .long 0, .long 0, .ref (qa 21), .int 0, .int 0, .int 0, .int 0]))] := hD
  have hK : va_K D cls [] s := hK
  refine W.eq (g2 := F0 m 10 ls [.int 0]) rfl ?_
  refine lv_if_eq (tgt := 29) hx hb d_Mo_count_10 (by decide) (fun _ => ?_) (fun q9 => absurd (by decide : ((0 : Int32) = 0)) q9)
  refine lv_aload_n hx hb d_Mo_count_29 rfl (lv_at hl 0 rfl) ?_
  refine lv_iconst (v := 1) hx hb d_Mo_count_30 (by decide) ?_
  refine xc_V (As := [.int 1]) (rest := []) (n := 1) (wc := [(h0, .inr (7, [.int 0, .int 0, .int 0, .int 0, .int 0, .int 0, .int (-1), .int (-1), .int 0, .int 0, .int 0, .int 0, .int 0, .int 0, .int 0, .int 0, .ref (qa 0), .ref (qa 1), .ref (qa 2), .ref (qa 3), .int 0, .ref (qa 4), .ref (qa 5), .ref (qa 6), .ref (qa 7), .ref (qa 8), .ref (qa 9), .ref (qa 10), .ref (qa 11), .ref (qa 12), .ref (qa 13), .ref (qa 14), .ref (qa 15), .ref (qa 16), .ref (qa 17), .ref (qa 18), .ref (qa 19), .ref (qa 20), .int 0, .int 0, .int 0, .int 0, .long 0, .long 0, .long 0, .long 0, .long 0, .ref (qa 21), .int 0, .int 0, .int 0, .int 0]))]) (wr := []) (tc := []) (tr := []) ⟨hx, hb, hml, hown, hts⟩ (c_Mo_refuse_1 l D h0 qa H.size) rfl rfl w_452 w_450 w_451 w_557 w_8 (by decide +kernel) ⟨Nat.le_of_ble_eq_true rfl, Nat.le_of_ble_eq_true rfl⟩ hP hD hK hS hA hN hZ [0] [] rfl rfl (by decide) (by decide) (by decide) [] [] rfl rfl (ci := 7) (q0 := 0) (q := (R_Mo, F_Mo, 52)) rfl rfl rfl rfl hl.1 rfl (Nat.le_of_ble_eq_true rfl) d_Mo_count_31 ⟨Nat.le_of_ble_eq_true rfl, Nat.le_of_ble_eq_true rfl⟩ (fun u2 H locs hP hD hK hS => ?_)
  have hP : va_P D cls [(h0, .inr (7, [.int 1, .int 0, .int 0, .int 0, .int 0, .int 0, .int (-1), .int (-1), .int 0, .int 0, .int 0, .int 0, .int 0, .int 0, .int 0, .int 0, .ref (qa 0), .ref (qa 1), .ref (qa 2), .ref (qa 3), .int 0, .ref (qa 4), .ref (qa 5), .ref (qa 6), .ref (qa 7), .ref (qa 8), .ref (qa 9), .ref (qa 10), .ref (qa 11), .ref (qa 12), .ref (qa 13), .ref (qa 14), .ref (qa 15), .ref (qa 16), .ref (qa 17), .ref (qa 18), .ref (qa 19), .ref (qa 20), .int 0, .int 0, .int 0, .int 0, .long 0, .long 0, .long 0, .long 0, .long 0, .ref (qa 21), .int 0, .int 0, .int 0, .int 0]))] H := hP
  have hD : va_D A [(h0, .inr (7, [.int 1, .int 0, .int 0, .int 0, .int 0, .int 0, .int (-1), .int (-1), .int 0, .int 0, .int 0, .int 0, .int 0, .int 0, .int 0, .int 0, .ref (qa 0), .ref (qa 1), .ref (qa 2), .ref (qa 3), .int 0, .ref (qa 4), .ref (qa 5), .ref (qa 6), .ref (qa 7), .ref (qa 8), .ref (qa 9), .ref (qa 10), .ref (qa 11), .ref (qa 12), .ref (qa 13), .ref (qa 14), .ref (qa 15), .ref (qa 16), .ref (qa 17), .ref (qa 18), .ref (qa 19), .ref (qa 20), .int 0, .int 0, .int 0, .int 0, .long 0, .long 0, .long 0, .long 0, .long 0, .ref (qa 21), .int 0, .int 0, .int 0, .int 0]))] := hD
  have hK : va_K D cls [] s := hK
  refine W.eq (g2 := F0 m 34 ls [.int 0]) rfl ?_
  exact xr_i hx hb hr hlocks hP hD hK hS (()) [0] rfl rfl (by decide) [] rfl rfl d_Mo_count_34
end
