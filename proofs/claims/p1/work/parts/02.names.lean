/-! ===== names, fields, words ===== -/
def R_OF : String := "ObjectForge"
def F_OF : u_T := fun k => match k with
  | 0 => ("ObjectForge", "assembler", "LObjectForge$Assembler;", true)
  | 1 => ("ObjectForge", "linker", "LObjectForge$Linker;", true)
  | 2 => ("ObjectForge", "units", "[LObjectForge$Unit;", true)
  | _ => ("ObjectForge", "unitCount", "I", false)
def t_OF : Nat → FieldType := fun k => match k with
  | 0 => .object "ObjectForge$Assembler"
  | 1 => .object "ObjectForge$Linker"
  | 2 => .array (.object "ObjectForge$Unit")
  | _ => .int
theorem n_OF : ∀ a, a < 4 → ∀ b, b < 4 → a ≠ b → (F_OF a).2.1 ≠ (F_OF b).2.1 := by decide +kernel
theorem t_OF_ok : ∀ k, k < 4 → parseFieldDescriptor (F_OF k).2.2.1 = some (t_OF k) := by decide +kernel
def R_As : String := "ObjectForge$Assembler"
def F_As : u_T := fun k => match k with
  | 0 => ("ObjectForge$Assembler", "source", "LObjectForge$Source;", true)
  | 1 => ("ObjectForge$Assembler", "draft", "LObjectForge$Unit;", false)
  | 2 => ("ObjectForge$Assembler", "fault", "I", false)
  | 3 => ("ObjectForge$Assembler", "faultLine", "I", false)
  | 4 => ("ObjectForge$Assembler", "line", "I", false)
  | 5 => ("ObjectForge$Assembler", "section", "I", false)
  | 6 => ("ObjectForge$Assembler", "cursor", "I", false)
  | 7 => ("ObjectForge$Assembler", "nameToken", "I", false)
  | 8 => ("ObjectForge$Assembler", "number", "J", false)
  | 9 => ("ObjectForge$Assembler", "half", "I", false)
  | 10 => ("ObjectForge$Assembler", "sources", "I", false)
  | 11 => ("ObjectForge$Assembler", "others", "I", false)
  | 12 => ("ObjectForge$Assembler", "reference", "I", false)
  | 13 => ("ObjectForge$Assembler", "upperHolder", "I", false)
  | _ => ("ObjectForge$Assembler", "symbolNumber", "I", false)
def t_As : Nat → FieldType := fun k => match k with
  | 0 => .object "ObjectForge$Source"
  | 1 => .object "ObjectForge$Unit"
  | 2 => .int
  | 3 => .int
  | 4 => .int
  | 5 => .int
  | 6 => .int
  | 7 => .int
  | 8 => .long
  | 9 => .int
  | 10 => .int
  | 11 => .int
  | 12 => .int
  | 13 => .int
  | _ => .int
theorem n_As : ∀ a, a < 15 → ∀ b, b < 15 → a ≠ b → (F_As a).2.1 ≠ (F_As b).2.1 := by decide +kernel
theorem t_As_ok : ∀ k, k < 15 → parseFieldDescriptor (F_As k).2.2.1 = some (t_As k) := by decide +kernel
def R_Li : String := "ObjectForge$Linker"
def F_Li : u_T := fun k => match k with
  | 0 => ("ObjectForge$Linker", "image", "[B", true)
  | 1 => ("ObjectForge$Linker", "base", "I", false)
  | 2 => ("ObjectForge$Linker", "imageSize", "I", false)
  | 3 => ("ObjectForge$Linker", "joined", "I", false)
  | 4 => ("ObjectForge$Linker", "fault", "I", false)
  | 5 => ("ObjectForge$Linker", "faultObject", "I", false)
  | _ => ("ObjectForge$Linker", "faultItem", "I", false)
def t_Li : Nat → FieldType := fun k => match k with
  | 0 => .array .byte
  | 1 => .int
  | 2 => .int
  | 3 => .int
  | 4 => .int
  | 5 => .int
  | _ => .int
theorem n_Li : ∀ a, a < 7 → ∀ b, b < 7 → a ≠ b → (F_Li a).2.1 ≠ (F_Li b).2.1 := by decide +kernel
theorem t_Li_ok : ∀ k, k < 7 → parseFieldDescriptor (F_Li k).2.2.1 = some (t_Li k) := by decide +kernel
def R_Re : String := "ObjectForge$Relocations"
def F_Re : u_T := fun k => match k with
  | 0 => ("ObjectForge$Relocations", "sections", "[I", true)
  | 1 => ("ObjectForge$Relocations", "places", "[I", true)
  | 2 => ("ObjectForge$Relocations", "kinds", "[I", true)
  | 3 => ("ObjectForge$Relocations", "symbols", "[I", true)
  | 4 => ("ObjectForge$Relocations", "addends", "[J", true)
  | 5 => ("ObjectForge$Relocations", "lines", "[I", true)
  | _ => ("ObjectForge$Relocations", "number", "I", false)
def t_Re : Nat → FieldType := fun k => match k with
  | 0 => .array .int
  | 1 => .array .int
  | 2 => .array .int
  | 3 => .array .int
  | 4 => .array .long
  | 5 => .array .int
  | _ => .int
theorem n_Re : ∀ a, a < 7 → ∀ b, b < 7 → a ≠ b → (F_Re a).2.1 ≠ (F_Re b).2.1 := by decide +kernel
theorem t_Re_ok : ∀ k, k < 7 → parseFieldDescriptor (F_Re k).2.2.1 = some (t_Re k) := by decide +kernel
def R_So : String := "ObjectForge$Source"
def F_So : u_T := fun k => match k with
  | 0 => ("ObjectForge$Source", "bytes", "[B", true)
  | 1 => ("ObjectForge$Source", "length", "I", false)
  | 2 => ("ObjectForge$Source", "tokens", "I", false)
  | 3 => ("ObjectForge$Source", "lineEnd", "I", false)
  | 4 => ("ObjectForge$Source", "kinds", "[I", true)
  | 5 => ("ObjectForge$Source", "starts", "[I", true)
  | _ => ("ObjectForge$Source", "values", "[I", true)
def t_So : Nat → FieldType := fun k => match k with
  | 0 => .array .byte
  | 1 => .int
  | 2 => .int
  | 3 => .int
  | 4 => .array .int
  | 5 => .array .int
  | _ => .array .int
theorem n_So : ∀ a, a < 7 → ∀ b, b < 7 → a ≠ b → (F_So a).2.1 ≠ (F_So b).2.1 := by decide +kernel
theorem t_So_ok : ∀ k, k < 7 → parseFieldDescriptor (F_So k).2.2.1 = some (t_So k) := by decide +kernel
def R_Sy : String := "ObjectForge$Symbols"
def F_Sy : u_T := fun k => match k with
  | 0 => ("ObjectForge$Symbols", "names", "[B", true)
  | 1 => ("ObjectForge$Symbols", "lengths", "[I", true)
  | 2 => ("ObjectForge$Symbols", "sections", "[I", true)
  | 3 => ("ObjectForge$Symbols", "values", "[I", true)
  | 4 => ("ObjectForge$Symbols", "globals", "[Z", true)
  | 5 => ("ObjectForge$Symbols", "addresses", "[I", true)
  | 6 => ("ObjectForge$Symbols", "sums", "[I", true)
  | _ => ("ObjectForge$Symbols", "number", "I", false)
def t_Sy : Nat → FieldType := fun k => match k with
  | 0 => .array .byte
  | 1 => .array .int
  | 2 => .array .int
  | 3 => .array .int
  | 4 => .array .boolean
  | 5 => .array .int
  | 6 => .array .int
  | _ => .int
theorem n_Sy : ∀ a, a < 8 → ∀ b, b < 8 → a ≠ b → (F_Sy a).2.1 ≠ (F_Sy b).2.1 := by decide +kernel
theorem t_Sy_ok : ∀ k, k < 8 → parseFieldDescriptor (F_Sy k).2.2.1 = some (t_Sy k) := by decide +kernel
def R_Un : String := "ObjectForge$Unit"
def F_Un : u_T := fun k => match k with
  | 0 => ("ObjectForge$Unit", "bytes", "[[B", true)
  | 1 => ("ObjectForge$Unit", "sizes", "[I", true)
  | 2 => ("ObjectForge$Unit", "starts", "[I", true)
  | 3 => ("ObjectForge$Unit", "symbols", "LObjectForge$Symbols;", true)
  | _ => ("ObjectForge$Unit", "relocations", "LObjectForge$Relocations;", true)
def t_Un : Nat → FieldType := fun k => match k with
  | 0 => .array (.array .byte)
  | 1 => .array .int
  | 2 => .array .int
  | 3 => .object "ObjectForge$Symbols"
  | _ => .object "ObjectForge$Relocations"
theorem n_Un : ∀ a, a < 5 → ∀ b, b < 5 → a ≠ b → (F_Un a).2.1 ≠ (F_Un b).2.1 := by decide +kernel
theorem t_Un_ok : ∀ k, k < 5 → parseFieldDescriptor (F_Un k).2.2.1 = some (t_Un k) := by decide +kernel
def R_Mo : String := "ObjectForgeModel"
def F_Mo : u_T := fun k => match k with
  | 0 => ("ObjectForgeModel", "thrown", "I", false)
  | 1 => ("ObjectForgeModel", "length", "I", false)
  | 2 => ("ObjectForgeModel", "objects", "I", false)
  | 3 => ("ObjectForgeModel", "fault", "I", false)
  | 4 => ("ObjectForgeModel", "faultLine", "I", false)
  | 5 => ("ObjectForgeModel", "linkFault", "I", false)
  | 6 => ("ObjectForgeModel", "linkObject", "I", false)
  | 7 => ("ObjectForgeModel", "linkWhich", "I", false)
  | 8 => ("ObjectForgeModel", "hasImage", "Z", false)
  | 9 => ("ObjectForgeModel", "base", "I", false)
  | 10 => ("ObjectForgeModel", "imageSize", "I", false)
  | 11 => ("ObjectForgeModel", "at", "I", false)
  | 12 => ("ObjectForgeModel", "stop", "I", false)
  | 13 => ("ObjectForgeModel", "kind", "I", false)
  | 14 => ("ObjectForgeModel", "line", "I", false)
  | 15 => ("ObjectForgeModel", "here", "I", false)
  | 16 => ("ObjectForgeModel", "text", "[B", true)
  | 17 => ("ObjectForgeModel", "sizes", "[I", true)
  | 18 => ("ObjectForgeModel", "symbolCount", "[I", true)
  | 19 => ("ObjectForgeModel", "referenceCount", "[I", true)
  | 20 => ("ObjectForgeModel", "linked", "I", false)
  | 21 => ("ObjectForgeModel", "bytes", "[B", true)
  | 22 => ("ObjectForgeModel", "nameA", "[J", true)
  | 23 => ("ObjectForgeModel", "nameB", "[J", true)
  | 24 => ("ObjectForgeModel", "nameC", "[J", true)
  | 25 => ("ObjectForgeModel", "nameLength", "[I", true)
  | 26 => ("ObjectForgeModel", "section", "[I", true)
  | 27 => ("ObjectForgeModel", "value", "[I", true)
  | 28 => ("ObjectForgeModel", "global", "[Z", true)
  | 29 => ("ObjectForgeModel", "refSection", "[I", true)
  | 30 => ("ObjectForgeModel", "refPlace", "[I", true)
  | 31 => ("ObjectForgeModel", "refKind", "[I", true)
  | 32 => ("ObjectForgeModel", "refSymbol", "[I", true)
  | 33 => ("ObjectForgeModel", "refAddend", "[I", true)
  | 34 => ("ObjectForgeModel", "refLine", "[I", true)
  | 35 => ("ObjectForgeModel", "image", "[B", true)
  | 36 => ("ObjectForgeModel", "starts", "[I", true)
  | 37 => ("ObjectForgeModel", "addresses", "[I", true)
  | 38 => ("ObjectForgeModel", "sign", "I", false)
  | 39 => ("ObjectForgeModel", "register", "I", false)
  | 40 => ("ObjectForgeModel", "nameSize", "I", false)
  | 41 => ("ObjectForgeModel", "stringSize", "I", false)
  | 42 => ("ObjectForgeModel", "number", "J", false)
  | 43 => ("ObjectForgeModel", "code", "J", false)
  | 44 => ("ObjectForgeModel", "first", "J", false)
  | 45 => ("ObjectForgeModel", "second", "J", false)
  | 46 => ("ObjectForgeModel", "third", "J", false)
  | 47 => ("ObjectForgeModel", "string", "[B", true)
  | 48 => ("ObjectForgeModel", "whose", "I", false)
  | 49 => ("ObjectForgeModel", "more", "I", false)
  | 50 => ("ObjectForgeModel", "half", "I", false)
  | _ => ("ObjectForgeModel", "halfKind", "I", false)
def t_Mo : Nat → FieldType := fun k => match k with
  | 0 => .int
  | 1 => .int
  | 2 => .int
  | 3 => .int
  | 4 => .int
  | 5 => .int
  | 6 => .int
  | 7 => .int
  | 8 => .boolean
  | 9 => .int
  | 10 => .int
  | 11 => .int
  | 12 => .int
  | 13 => .int
  | 14 => .int
  | 15 => .int
  | 16 => .array .byte
  | 17 => .array .int
  | 18 => .array .int
  | 19 => .array .int
  | 20 => .int
  | 21 => .array .byte
  | 22 => .array .long
  | 23 => .array .long
  | 24 => .array .long
  | 25 => .array .int
  | 26 => .array .int
  | 27 => .array .int
  | 28 => .array .boolean
  | 29 => .array .int
  | 30 => .array .int
  | 31 => .array .int
  | 32 => .array .int
  | 33 => .array .int
  | 34 => .array .int
  | 35 => .array .byte
  | 36 => .array .int
  | 37 => .array .int
  | 38 => .int
  | 39 => .int
  | 40 => .int
  | 41 => .int
  | 42 => .long
  | 43 => .long
  | 44 => .long
  | 45 => .long
  | 46 => .long
  | 47 => .array .byte
  | 48 => .int
  | 49 => .int
  | 50 => .int
  | _ => .int
theorem n_Mo : ∀ a, a < 52 → ∀ b, b < 52 → a ≠ b → (F_Mo a).2.1 ≠ (F_Mo b).2.1 := by decide +kernel
theorem t_Mo_ok : ∀ k, k < 52 → parseFieldDescriptor (F_Mo k).2.2.1 = some (t_Mo k) := by decide +kernel
abbrev cls : List vw_C := [(R_OF, F_OF, 4), (R_As, F_As, 15), (R_Li, F_Li, 7), (R_Re, F_Re, 7), (R_So, F_So, 7), (R_Sy, F_Sy, 8), (R_Un, F_Un, 5), (R_Mo, F_Mo, 52)]
def y_OF_init : MethodName := ⟨"ObjectForge", "<init>", "()V"⟩
abbrev b_OF_init : ByteArray := prog_1_method_1_code
def y_OF_feed : MethodName := ⟨"ObjectForge", "feed", "(IIII)I"⟩
abbrev b_OF_feed : ByteArray := prog_1_method_2_code
def y_OF_end : MethodName := ⟨"ObjectForge", "end", "(I)I"⟩
abbrev b_OF_end : ByteArray := prog_1_method_3_code
def y_OF_assemble : MethodName := ⟨"ObjectForge", "assemble", "()I"⟩
abbrev b_OF_assemble : ByteArray := prog_1_method_4_code
def y_OF_fault : MethodName := ⟨"ObjectForge", "fault", "(I)I"⟩
abbrev b_OF_fault : ByteArray := prog_1_method_5_code
def y_OF_size : MethodName := ⟨"ObjectForge", "size", "(II)I"⟩
abbrev b_OF_size : ByteArray := prog_1_method_6_code
def y_OF_byteAt : MethodName := ⟨"ObjectForge", "byteAt", "(III)I"⟩
abbrev b_OF_byteAt : ByteArray := prog_1_method_7_code
def y_OF_symbol : MethodName := ⟨"ObjectForge", "symbol", "(III)I"⟩
abbrev b_OF_symbol : ByteArray := prog_1_method_8_code
def y_OF_letter : MethodName := ⟨"ObjectForge", "letter", "(III)I"⟩
abbrev b_OF_letter : ByteArray := prog_1_method_9_code
def y_OF_relocation : MethodName := ⟨"ObjectForge", "relocation", "(III)I"⟩
abbrev b_OF_relocation : ByteArray := prog_1_method_10_code
def y_OF_link : MethodName := ⟨"ObjectForge", "link", "(I)I"⟩
abbrev b_OF_link : ByteArray := prog_1_method_11_code
def y_OF_word : MethodName := ⟨"ObjectForge", "word", "(I)I"⟩
abbrev b_OF_word : ByteArray := prog_1_method_12_code
def y_OF_address : MethodName := ⟨"ObjectForge", "address", "(II)I"⟩
abbrev b_OF_address : ByteArray := prog_1_method_13_code
def y_OF_clear : MethodName := ⟨"ObjectForge", "clear", "()I"⟩
abbrev b_OF_clear : ByteArray := prog_1_method_14_code
def y_OF_count : MethodName := ⟨"ObjectForge", "count", "(II)I"⟩
abbrev b_OF_count : ByteArray := prog_1_method_15_code
def y_OF_unitNumbered : MethodName := ⟨"ObjectForge", "unitNumbered", "(I)LObjectForge$Unit;"⟩
abbrev b_OF_unitNumbered : ByteArray := prog_1_method_16_code
def y_OF_requireBelow : MethodName := ⟨"ObjectForge", "requireBelow", "(II)V"⟩
abbrev b_OF_requireBelow : ByteArray := prog_1_method_17_code
def y_As_init : MethodName := ⟨"ObjectForge$Assembler", "<init>", "()V"⟩
abbrev b_As_init : ByteArray := prog_2_method_1_code
def y_As_translate : MethodName := ⟨"ObjectForge$Assembler", "translate", "(I)Z"⟩
abbrev b_As_translate : ByteArray := prog_2_method_2_code
def y_As_readLabels : MethodName := ⟨"ObjectForge$Assembler", "readLabels", "()V"⟩
abbrev b_As_readLabels : ByteArray := prog_2_method_3_code
def y_As_readStatement : MethodName := ⟨"ObjectForge$Assembler", "readStatement", "()V"⟩
abbrev b_As_readStatement : ByteArray := prog_2_method_5_code
def y_As_settleBranches : MethodName := ⟨"ObjectForge$Assembler", "settleBranches", "()V"⟩
abbrev b_As_settleBranches : ByteArray := prog_2_method_27_code
def y_So_init : MethodName := ⟨"ObjectForge$Source", "<init>", "()V"⟩
abbrev b_So_init : ByteArray := prog_7_method_1_code
def y_So_appendWord : MethodName := ⟨"ObjectForge$Source", "appendWord", "(I)V"⟩
abbrev b_So_appendWord : ByteArray := prog_7_method_2_code
def y_So_scanLine : MethodName := ⟨"ObjectForge$Source", "scanLine", "(II)I"⟩
abbrev b_So_scanLine : ByteArray := prog_7_method_3_code
def y_So_kindOf : MethodName := ⟨"ObjectForge$Source", "kindOf", "(I)I"⟩
abbrev b_So_kindOf : ByteArray := prog_7_method_4_code
def y_Sy_init : MethodName := ⟨"ObjectForge$Symbols", "<init>", "()V"⟩
abbrev b_Sy_init : ByteArray := prog_8_method_1_code
def y_Re_init : MethodName := ⟨"ObjectForge$Relocations", "<init>", "()V"⟩
abbrev b_Re_init : ByteArray := prog_6_method_1_code
def y_Un_init : MethodName := ⟨"ObjectForge$Unit", "<init>", "()V"⟩
abbrev b_Un_init : ByteArray := prog_9_method_1_code
def y_Un_makeEmpty : MethodName := ⟨"ObjectForge$Unit", "makeEmpty", "()V"⟩
abbrev b_Un_makeEmpty : ByteArray := prog_9_method_2_code
def y_Li_init : MethodName := ⟨"ObjectForge$Linker", "<init>", "()V"⟩
abbrev b_Li_init : ByteArray := prog_4_method_1_code
def y_Li_dropImage : MethodName := ⟨"ObjectForge$Linker", "dropImage", "()V"⟩
abbrev b_Li_dropImage : ByteArray := prog_4_method_2_code
def y_Li_holdsWord : MethodName := ⟨"ObjectForge$Linker", "holdsWord", "(I)Z"⟩
abbrev b_Li_holdsWord : ByteArray := prog_4_method_14_code
def y_Ar_fill : MethodName := ⟨"java/util/Arrays", "fill", "([II)V"⟩
abbrev b_Ar_fill : ByteArray := prog_30_method_103_code
def y_Mo_init : MethodName := ⟨"ObjectForgeModel", "<init>", "()V"⟩
abbrev b_Mo_init : ByteArray := prog_11_method_1_code
def y_Mo_thrown : MethodName := ⟨"ObjectForgeModel", "thrown", "()I"⟩
abbrev b_Mo_thrown : ByteArray := prog_11_method_2_code
def y_Mo_refuse : MethodName := ⟨"ObjectForgeModel", "refuse", "(I)I"⟩
abbrev b_Mo_refuse : ByteArray := prog_11_method_3_code
def y_Mo_four : MethodName := ⟨"ObjectForgeModel", "four", "(I)V"⟩
abbrev b_Mo_four : ByteArray := prog_11_method_4_code
def y_Mo_feed : MethodName := ⟨"ObjectForgeModel", "feed", "(IIII)I"⟩
abbrev b_Mo_feed : ByteArray := prog_11_method_5_code
def y_Mo_end : MethodName := ⟨"ObjectForgeModel", "end", "(I)I"⟩
abbrev b_Mo_end : ByteArray := prog_11_method_6_code
def y_Mo_fine : MethodName := ⟨"ObjectForgeModel", "fine", "()Z"⟩
abbrev b_Mo_fine : ByteArray := prog_11_method_33_code
def y_Mo_read : MethodName := ⟨"ObjectForgeModel", "read", "(II)V"⟩
abbrev b_Mo_read : ByteArray := prog_11_method_69_code
def y_Mo_next : MethodName := ⟨"ObjectForgeModel", "next", "()V"⟩
abbrev b_Mo_next : ByteArray := prog_11_method_11_code
def y_Mo_here : MethodName := ⟨"ObjectForgeModel", "here", "()I"⟩
abbrev b_Mo_here : ByteArray := prog_11_method_7_code
def y_Mo_settle : MethodName := ⟨"ObjectForgeModel", "settle", "()V"⟩
abbrev b_Mo_settle : ByteArray := prog_11_method_71_code
def y_Mo_assemble : MethodName := ⟨"ObjectForgeModel", "assemble", "()I"⟩
abbrev b_Mo_assemble : ByteArray := prog_11_method_72_code
def y_Mo_fault : MethodName := ⟨"ObjectForgeModel", "fault", "(I)I"⟩
abbrev b_Mo_fault : ByteArray := prog_11_method_73_code
def y_Mo_within : MethodName := ⟨"ObjectForgeModel", "within", "(II)Z"⟩
abbrev b_Mo_within : ByteArray := prog_11_method_74_code
def y_Mo_size : MethodName := ⟨"ObjectForgeModel", "size", "(II)I"⟩
abbrev b_Mo_size : ByteArray := prog_11_method_75_code
def y_Mo_byteAt : MethodName := ⟨"ObjectForgeModel", "byteAt", "(III)I"⟩
abbrev b_Mo_byteAt : ByteArray := prog_11_method_76_code
def y_Mo_symbol : MethodName := ⟨"ObjectForgeModel", "symbol", "(III)I"⟩
abbrev b_Mo_symbol : ByteArray := prog_11_method_77_code
def y_Mo_letter : MethodName := ⟨"ObjectForgeModel", "letter", "(III)I"⟩
abbrev b_Mo_letter : ByteArray := prog_11_method_78_code
def y_Mo_relocation : MethodName := ⟨"ObjectForgeModel", "relocation", "(III)I"⟩
abbrev b_Mo_relocation : ByteArray := prog_11_method_79_code
def y_Mo_link : MethodName := ⟨"ObjectForgeModel", "link", "(I)I"⟩
abbrev b_Mo_link : ByteArray := prog_11_method_85_code
def y_Mo_word : MethodName := ⟨"ObjectForgeModel", "word", "(I)I"⟩
abbrev b_Mo_word : ByteArray := prog_11_method_88_code
def y_Mo_address : MethodName := ⟨"ObjectForgeModel", "address", "(II)I"⟩
abbrev b_Mo_address : ByteArray := prog_11_method_89_code
def y_Mo_clear : MethodName := ⟨"ObjectForgeModel", "clear", "()I"⟩
abbrev b_Mo_clear : ByteArray := prog_11_method_90_code
def y_Mo_count : MethodName := ⟨"ObjectForgeModel", "count", "(II)I"⟩
abbrev b_Mo_count : ByteArray := prog_11_method_91_code
def y_La_feed : MethodName := ⟨"ObjectForgeLaw", "feed", "(LObjectForge;IIII[J)I"⟩
abbrev b_La_feed : ByteArray := method_3_code
def y_La_end : MethodName := ⟨"ObjectForgeLaw", "end", "(LObjectForge;I[J)I"⟩
abbrev b_La_end : ByteArray := method_4_code
def y_La_assemble : MethodName := ⟨"ObjectForgeLaw", "assemble", "(LObjectForge;[J)I"⟩
abbrev b_La_assemble : ByteArray := method_5_code
def y_La_fault : MethodName := ⟨"ObjectForgeLaw", "fault", "(LObjectForge;I[J)I"⟩
abbrev b_La_fault : ByteArray := method_6_code
def y_La_size : MethodName := ⟨"ObjectForgeLaw", "size", "(LObjectForge;II[J)I"⟩
abbrev b_La_size : ByteArray := method_7_code
def y_La_byteAt : MethodName := ⟨"ObjectForgeLaw", "byteAt", "(LObjectForge;III[J)I"⟩
abbrev b_La_byteAt : ByteArray := method_8_code
def y_La_symbol : MethodName := ⟨"ObjectForgeLaw", "symbol", "(LObjectForge;III[J)I"⟩
abbrev b_La_symbol : ByteArray := method_9_code
def y_La_letter : MethodName := ⟨"ObjectForgeLaw", "letter", "(LObjectForge;III[J)I"⟩
abbrev b_La_letter : ByteArray := method_10_code
def y_La_relocation : MethodName := ⟨"ObjectForgeLaw", "relocation", "(LObjectForge;III[J)I"⟩
abbrev b_La_relocation : ByteArray := method_11_code
def y_La_link : MethodName := ⟨"ObjectForgeLaw", "link", "(LObjectForge;I[J)I"⟩
abbrev b_La_link : ByteArray := method_12_code
def y_La_word : MethodName := ⟨"ObjectForgeLaw", "word", "(LObjectForge;I[J)I"⟩
abbrev b_La_word : ByteArray := method_13_code
def y_La_address : MethodName := ⟨"ObjectForgeLaw", "address", "(LObjectForge;II[J)I"⟩
abbrev b_La_address : ByteArray := method_14_code
def y_La_count : MethodName := ⟨"ObjectForgeLaw", "count", "(LObjectForge;II[J)I"⟩
abbrev b_La_count : ByteArray := method_15_code
def bw_0 : List Cond := [Cond.initialized "ObjectForgeLaw", Cond.initialized "ObjectForge", Cond.initialized "ObjectForge$Assembler", Cond.initialized "ObjectForge$Source", Cond.initialized "ObjectForge$Unit", Cond.initialized "ObjectForge$Symbols", Cond.initialized "ObjectForge$Relocations", Cond.initialized "ObjectForge$Linker", Cond.initialized "ObjectForgeModel", Cond.initialized "java/lang/Throwable", Cond.initialized "java/lang/Exception", Cond.initialized "java/lang/RuntimeException", Cond.initialized "java/lang/IllegalStateException", Cond.initialized "java/lang/IllegalArgumentException", Cond.initialized "java/util/Arrays", Cond.initialized "java/lang/IndexOutOfBoundsException", Cond.classLink "ObjectForgeLaw" 8 "ObjectForge", Cond.instantiable "ObjectForge" 4, Cond.methodLink "ObjectForgeLaw" 59 y_OF_init, Cond.instanceMethod y_OF_init, Cond.code y_OF_init prog_1_method_1_code 2 none, Cond.methodLink "ObjectForge" 1 ⟨"java/lang/Object", "<init>", "()V"⟩, Cond.instanceMethod ⟨"java/lang/Object", "<init>", "()V"⟩, Cond.code ⟨"java/lang/Object", "<init>", "()V"⟩ object_method_1_code 1 none, Cond.classLink "ObjectForge" 7 "ObjectForge$Assembler"]
def bw_1 : List Cond := [Cond.instantiable "ObjectForge$Assembler" 15, Cond.instanceMethod y_As_init, Cond.code y_As_init prog_2_method_1_code 1 none, Cond.methodLink "ObjectForge$Assembler" 3 ⟨"java/lang/Object", "<init>", "()V"⟩, Cond.classLink "ObjectForge$Assembler" 9 "ObjectForge$Source", Cond.instantiable "ObjectForge$Source" 7, Cond.instanceMethod y_So_init, Cond.code y_So_init prog_7_method_1_code 1 none, Cond.methodLink "ObjectForge$Source" 3 ⟨"java/lang/Object", "<init>", "()V"⟩, Cond.fieldLink "ObjectForge$Source" 9 "ObjectForge$Source" "bytes" "[B", Cond.fieldLink "ObjectForge$Source" 15 "ObjectForge$Source" "length" "I", Cond.fieldLink "ObjectForge" 38 "ObjectForge$Source" "length" "I", Cond.fieldLink "ObjectForge$Source" 19 "ObjectForge$Source" "kinds" "[I", Cond.fieldLink "ObjectForge$Source" 23 "ObjectForge$Source" "starts" "[I", Cond.fieldLink "ObjectForge$Source" 26 "ObjectForge$Source" "values" "[I", Cond.fieldLink "ObjectForge$Source" 29 "ObjectForge$Source" "tokens" "I", Cond.fieldLink "ObjectForge$Source" 32 "ObjectForge$Source" "lineEnd" "I", Cond.arrayClass FieldType.byte, Cond.arrayClass FieldType.int, Cond.classLink "ObjectForge$Assembler" 18 "ObjectForge$Unit", Cond.instantiable "ObjectForge$Unit" 5, Cond.instanceMethod y_Un_init, Cond.code y_Un_init prog_9_method_1_code 1 none, Cond.methodLink "ObjectForge$Unit" 3 ⟨"java/lang/Object", "<init>", "()V"⟩, Cond.classLink "ObjectForge$Unit" 9 "[[B"]
def bw_2 : List Cond := [Cond.classLink "ObjectForge$Unit" 23 "ObjectForge$Symbols", Cond.instantiable "ObjectForge$Symbols" 8, Cond.instanceMethod y_Sy_init, Cond.code y_Sy_init prog_8_method_1_code 1 none, Cond.methodLink "ObjectForge$Symbols" 3 ⟨"java/lang/Object", "<init>", "()V"⟩, Cond.fieldLink "ObjectForge$Symbols" 9 "ObjectForge$Symbols" "names" "[B", Cond.fieldLink "ObjectForge" 127 "ObjectForge$Symbols" "names" "[B", Cond.fieldLink "ObjectForge$Symbols" 15 "ObjectForge$Symbols" "lengths" "[I", Cond.fieldLink "ObjectForge" 122 "ObjectForge$Symbols" "lengths" "[I", Cond.fieldLink "ObjectForge$Symbols" 19 "ObjectForge$Symbols" "sections" "[I", Cond.fieldLink "ObjectForge$Assembler" 93 "ObjectForge$Symbols" "sections" "[I", Cond.fieldLink "ObjectForge" 112 "ObjectForge$Symbols" "sections" "[I", Cond.fieldLink "ObjectForge$Symbols" 22 "ObjectForge$Symbols" "values" "[I", Cond.fieldLink "ObjectForge$Assembler" 99 "ObjectForge$Symbols" "values" "[I", Cond.fieldLink "ObjectForge" 115 "ObjectForge$Symbols" "values" "[I", Cond.fieldLink "ObjectForge$Symbols" 25 "ObjectForge$Symbols" "globals" "[Z", Cond.fieldLink "ObjectForge" 118 "ObjectForge$Symbols" "globals" "[Z", Cond.fieldLink "ObjectForge$Symbols" 29 "ObjectForge$Symbols" "addresses" "[I", Cond.fieldLink "ObjectForge" 173 "ObjectForge$Symbols" "addresses" "[I", Cond.fieldLink "ObjectForge$Symbols" 32 "ObjectForge$Symbols" "sums" "[I", Cond.fieldLink "ObjectForge$Symbols" 35 "ObjectForge$Symbols" "number" "I", Cond.fieldLink "ObjectForge$Unit" 43 "ObjectForge$Symbols" "number" "I", Cond.fieldLink "ObjectForge" 107 "ObjectForge$Symbols" "number" "I", Cond.fieldLink "ObjectForge$Assembler" 333 "ObjectForge$Symbols" "number" "I", Cond.arrayClass FieldType.boolean]
def bw_3 : List Cond := [Cond.classLink "ObjectForge$Unit" 30 "ObjectForge$Relocations", Cond.instantiable "ObjectForge$Relocations" 7, Cond.instanceMethod y_Re_init, Cond.code y_Re_init prog_6_method_1_code 1 none, Cond.methodLink "ObjectForge$Relocations" 3 ⟨"java/lang/Object", "<init>", "()V"⟩, Cond.fieldLink "ObjectForge$Relocations" 9 "ObjectForge$Relocations" "sections" "[I", Cond.fieldLink "ObjectForge" 138 "ObjectForge$Relocations" "sections" "[I", Cond.fieldLink "ObjectForge$Relocations" 15 "ObjectForge$Relocations" "places" "[I", Cond.fieldLink "ObjectForge" 139 "ObjectForge$Relocations" "places" "[I", Cond.fieldLink "ObjectForge$Assembler" 314 "ObjectForge$Relocations" "places" "[I", Cond.fieldLink "ObjectForge$Relocations" 18 "ObjectForge$Relocations" "kinds" "[I", Cond.fieldLink "ObjectForge" 142 "ObjectForge$Relocations" "kinds" "[I", Cond.fieldLink "ObjectForge$Assembler" 317 "ObjectForge$Relocations" "kinds" "[I", Cond.fieldLink "ObjectForge$Relocations" 21 "ObjectForge$Relocations" "symbols" "[I", Cond.fieldLink "ObjectForge" 145 "ObjectForge$Relocations" "symbols" "[I", Cond.fieldLink "ObjectForge$Assembler" 320 "ObjectForge$Relocations" "symbols" "[I", Cond.fieldLink "ObjectForge$Relocations" 24 "ObjectForge$Relocations" "addends" "[J", Cond.fieldLink "ObjectForge" 147 "ObjectForge$Relocations" "addends" "[J", Cond.fieldLink "ObjectForge$Assembler" 322 "ObjectForge$Relocations" "addends" "[J", Cond.fieldLink "ObjectForge$Relocations" 28 "ObjectForge$Relocations" "lines" "[I", Cond.fieldLink "ObjectForge$Assembler" 326 "ObjectForge$Relocations" "lines" "[I", Cond.fieldLink "ObjectForge$Relocations" 31 "ObjectForge$Relocations" "number" "I", Cond.fieldLink "ObjectForge$Unit" 47 "ObjectForge$Relocations" "number" "I", Cond.fieldLink "ObjectForge" 135 "ObjectForge$Relocations" "number" "I", Cond.fieldLink "ObjectForge$Assembler" 309 "ObjectForge$Relocations" "number" "I"]
def bw_4 : List Cond := [Cond.arrayClass FieldType.long, Cond.fieldLink "ObjectForge$Unit" 11 "ObjectForge$Unit" "bytes" "[[B", Cond.fieldLink "ObjectForge" 99 "ObjectForge$Unit" "bytes" "[[B", Cond.fieldLink "ObjectForge$Unit" 16 "ObjectForge$Unit" "sizes" "[I", Cond.fieldLink "ObjectForge$Assembler" 102 "ObjectForge$Unit" "sizes" "[I", Cond.fieldLink "ObjectForge" 95 "ObjectForge$Unit" "sizes" "[I", Cond.fieldLink "ObjectForge$Unit" 20 "ObjectForge$Unit" "starts" "[I", Cond.fieldLink "ObjectForge$Unit" 26 "ObjectForge$Unit" "symbols" "LObjectForge$Symbols;", Cond.fieldLink "ObjectForge$Assembler" 89 "ObjectForge$Unit" "symbols" "LObjectForge$Symbols;", Cond.fieldLink "ObjectForge" 103 "ObjectForge$Unit" "symbols" "LObjectForge$Symbols;", Cond.fieldLink "ObjectForge$Unit" 33 "ObjectForge$Unit" "relocations" "LObjectForge$Relocations;", Cond.fieldLink "ObjectForge" 131 "ObjectForge$Unit" "relocations" "LObjectForge$Relocations;", Cond.fieldLink "ObjectForge$Assembler" 305 "ObjectForge$Unit" "relocations" "LObjectForge$Relocations;", Cond.fieldLink "ObjectForge$Assembler" 12 "ObjectForge$Assembler" "source" "LObjectForge$Source;", Cond.fieldLink "ObjectForge" 34 "ObjectForge$Assembler" "source" "LObjectForge$Source;", Cond.fieldLink "ObjectForge$Assembler" 21 "ObjectForge$Assembler" "draft" "LObjectForge$Unit;", Cond.fieldLink "ObjectForge" 65 "ObjectForge$Assembler" "draft" "LObjectForge$Unit;", Cond.fieldLink "ObjectForge$Assembler" 25 "ObjectForge$Assembler" "fault" "I", Cond.fieldLink "ObjectForge" 69 "ObjectForge$Assembler" "fault" "I", Cond.fieldLink "ObjectForge$Assembler" 29 "ObjectForge$Assembler" "faultLine" "I", Cond.fieldLink "ObjectForge" 72 "ObjectForge$Assembler" "faultLine" "I", Cond.fieldLink "ObjectForge$Assembler" 32 "ObjectForge$Assembler" "line" "I", Cond.fieldLink "ObjectForge$Assembler" 35 "ObjectForge$Assembler" "section" "I", Cond.fieldLink "ObjectForge$Assembler" 38 "ObjectForge$Assembler" "cursor" "I", Cond.fieldLink "ObjectForge$Assembler" 41 "ObjectForge$Assembler" "nameToken" "I"]
def bw_5 : List Cond := [Cond.fieldLink "ObjectForge$Assembler" 44 "ObjectForge$Assembler" "number" "J", Cond.fieldLink "ObjectForge$Assembler" 48 "ObjectForge$Assembler" "half" "I", Cond.fieldLink "ObjectForge$Assembler" 51 "ObjectForge$Assembler" "sources" "I", Cond.fieldLink "ObjectForge$Assembler" 54 "ObjectForge$Assembler" "others" "I", Cond.fieldLink "ObjectForge$Assembler" 57 "ObjectForge$Assembler" "reference" "I", Cond.fieldLink "ObjectForge$Assembler" 60 "ObjectForge$Assembler" "upperHolder" "I", Cond.fieldLink "ObjectForge$Assembler" 63 "ObjectForge$Assembler" "symbolNumber" "I", Cond.classLink "ObjectForge" 16 "ObjectForge$Linker", Cond.instantiable "ObjectForge$Linker" 7, Cond.instanceMethod y_Li_init, Cond.code y_Li_init prog_4_method_1_code 1 none, Cond.methodLink "ObjectForge$Linker" 3 ⟨"java/lang/Object", "<init>", "()V"⟩, Cond.constant "ObjectForge$Linker" 9 (32768 : Int32), Cond.fieldLink "ObjectForge$Linker" 10 "ObjectForge$Linker" "image" "[B", Cond.fieldLink "ObjectForge$Linker" 16 "ObjectForge$Linker" "base" "I", Cond.fieldLink "ObjectForge$Linker" 20 "ObjectForge$Linker" "imageSize" "I", Cond.fieldLink "ObjectForge$Linker" 23 "ObjectForge$Linker" "joined" "I", Cond.fieldLink "ObjectForge" 168 "ObjectForge$Linker" "joined" "I", Cond.fieldLink "ObjectForge$Linker" 26 "ObjectForge$Linker" "fault" "I", Cond.fieldLink "ObjectForge" 75 "ObjectForge$Linker" "fault" "I", Cond.fieldLink "ObjectForge$Linker" 29 "ObjectForge$Linker" "faultObject" "I", Cond.fieldLink "ObjectForge" 76 "ObjectForge$Linker" "faultObject" "I", Cond.fieldLink "ObjectForge$Linker" 32 "ObjectForge$Linker" "faultItem" "I", Cond.fieldLink "ObjectForge" 79 "ObjectForge$Linker" "faultItem" "I", Cond.classLink "ObjectForge" 23 "ObjectForge$Unit"]
def bw_6 : List Cond := [Cond.fieldLink "ObjectForge" 10 "ObjectForge" "assembler" "LObjectForge$Assembler;", Cond.fieldLink "ObjectForge" 19 "ObjectForge" "linker" "LObjectForge$Linker;", Cond.fieldLink "ObjectForge" 25 "ObjectForge" "units" "[LObjectForge$Unit;", Cond.fieldLink "ObjectForge" 29 "ObjectForge" "unitCount" "I", Cond.methodLink "ObjectForgeLaw" 109 y_OF_clear, Cond.instanceMethod y_OF_clear, Cond.selects "ObjectForge" y_OF_clear y_OF_clear, Cond.code y_OF_clear prog_1_method_14_code 2 (some FieldType.int), Cond.methodLink "ObjectForge" 176 y_Li_dropImage, Cond.instanceMethod y_Li_dropImage, Cond.selects "ObjectForge$Linker" y_Li_dropImage y_Li_dropImage, Cond.code y_Li_dropImage prog_4_method_2_code 1 none, Cond.methodLink "ObjectForgeLaw" 63 y_La_feed, Cond.static y_La_feed, Cond.codeWith y_La_feed method_3_code 7 (some FieldType.int) [(0, 14, 17, 13)], Cond.classLink "ObjectForgeLaw" 13 "java/lang/IllegalStateException", Cond.methodLink "ObjectForgeLaw" 7 y_OF_feed, Cond.instanceMethod y_OF_feed, Cond.selects "ObjectForge" y_OF_feed y_OF_feed, Cond.code y_OF_feed prog_1_method_2_code 6 (some FieldType.int), Cond.classLink "ObjectForge" 43 "java/lang/IllegalStateException", Cond.instantiable "java/lang/IllegalStateException" 6, Cond.selects "java/lang/IllegalStateException" ⟨"java/lang/Throwable", "fillInStackTrace", "(I)Ljava/lang/Throwable;"⟩ ⟨"java/lang/Throwable", "fillInStackTrace", "(I)Ljava/lang/Throwable;"⟩, Cond.selects "java/lang/IllegalStateException" ⟨"java/lang/Throwable", "fillInStackTrace", "()Ljava/lang/Throwable;"⟩ ⟨"java/lang/Throwable", "fillInStackTrace", "()Ljava/lang/Throwable;"⟩, Cond.lays "java/lang/IllegalStateException" "java/lang/Throwable" "cause" "Ljava/lang/Throwable;"]
def bw_7 : List Cond := [Cond.lays "java/lang/Throwable" "java/lang/Throwable" "cause" "Ljava/lang/Throwable;", Cond.lays "java/lang/IllegalStateException" "java/lang/Throwable" "stackTrace" "[Ljava/lang/StackTraceElement;", Cond.lays "java/lang/Throwable" "java/lang/Throwable" "stackTrace" "[Ljava/lang/StackTraceElement;", Cond.lays "java/lang/IllegalStateException" "java/lang/Throwable" "suppressedExceptions" "Ljava/util/List;", Cond.lays "java/lang/Throwable" "java/lang/Throwable" "suppressedExceptions" "Ljava/util/List;", Cond.lays "java/lang/IllegalStateException" "java/lang/Throwable" "detailMessage" "Ljava/lang/String;", Cond.lays "java/lang/Throwable" "java/lang/Throwable" "detailMessage" "Ljava/lang/String;", Cond.lays "java/lang/IllegalStateException" "java/lang/Throwable" "backtrace" "Ljava/lang/Object;", Cond.lays "java/lang/Throwable" "java/lang/Throwable" "backtrace" "Ljava/lang/Object;", Cond.fieldLink "java/lang/Throwable" 198 "java/lang/Throwable" "backtrace" "Ljava/lang/Object;", Cond.superclass "java/lang/Throwable" "java/lang/Object", Cond.instanceMethod ⟨"java/lang/Throwable", "<init>", "()V"⟩, Cond.code ⟨"java/lang/Throwable", "<init>", "()V"⟩ prog_29_method_1_code 1 none, Cond.methodLink "java/lang/Throwable" 1 ⟨"java/lang/Object", "<init>", "()V"⟩, Cond.fieldLink "java/lang/Throwable" 13 "java/lang/Throwable" "UNASSIGNED_STACK" "[Ljava/lang/StackTraceElement;", Cond.fieldLink "java/lang/Throwable" 20 "java/lang/Throwable" "SUPPRESSED_SENTINEL" "Ljava/util/List;", Cond.methodLink "java/lang/Throwable" 27 ⟨"java/lang/Throwable", "fillInStackTrace", "()Ljava/lang/Throwable;"⟩, Cond.instanceMethod ⟨"java/lang/Throwable", "fillInStackTrace", "()Ljava/lang/Throwable;"⟩, Cond.selects "java/lang/IllegalArgumentException" ⟨"java/lang/Throwable", "fillInStackTrace", "()Ljava/lang/Throwable;"⟩ ⟨"java/lang/Throwable", "fillInStackTrace", "()Ljava/lang/Throwable;"⟩, Cond.selects "java/lang/IndexOutOfBoundsException" ⟨"java/lang/Throwable", "fillInStackTrace", "()Ljava/lang/Throwable;"⟩ ⟨"java/lang/Throwable", "fillInStackTrace", "()Ljava/lang/Throwable;"⟩, Cond.codeSync ⟨"java/lang/Throwable", "fillInStackTrace", "()Ljava/lang/Throwable;"⟩ prog_29_method_18_code 1 (some (FieldType.object "java/lang/Throwable")), Cond.methodLink "java/lang/Throwable" 202 ⟨"java/lang/Throwable", "fillInStackTrace", "(I)Ljava/lang/Throwable;"⟩, Cond.instanceMethod ⟨"java/lang/Throwable", "fillInStackTrace", "(I)Ljava/lang/Throwable;"⟩, Cond.instantiable "java/lang/Throwable" 6, Cond.native ⟨"java/lang/Throwable", "fillInStackTrace", "(I)Ljava/lang/Throwable;"⟩]
def bw_8 : List Cond := [Cond.methodLink "ObjectForge" 47 ⟨"java/lang/IllegalStateException", "<init>", "(Ljava/lang/String;)V"⟩, Cond.instanceMethod ⟨"java/lang/IllegalStateException", "<init>", "(Ljava/lang/String;)V"⟩, Cond.code ⟨"java/lang/IllegalStateException", "<init>", "(Ljava/lang/String;)V"⟩ prog_19_method_2_code 2 none, Cond.methodLink "java/lang/IllegalStateException" 7 ⟨"java/lang/RuntimeException", "<init>", "(Ljava/lang/String;)V"⟩, Cond.instanceMethod ⟨"java/lang/RuntimeException", "<init>", "(Ljava/lang/String;)V"⟩, Cond.code ⟨"java/lang/RuntimeException", "<init>", "(Ljava/lang/String;)V"⟩ prog_23_method_2_code 2 none, Cond.methodLink "java/lang/RuntimeException" 7 ⟨"java/lang/Exception", "<init>", "(Ljava/lang/String;)V"⟩, Cond.instanceMethod ⟨"java/lang/Exception", "<init>", "(Ljava/lang/String;)V"⟩, Cond.code ⟨"java/lang/Exception", "<init>", "(Ljava/lang/String;)V"⟩ prog_17_method_2_code 2 none, Cond.methodLink "java/lang/Exception" 7 ⟨"java/lang/Throwable", "<init>", "(Ljava/lang/String;)V"⟩, Cond.instanceMethod ⟨"java/lang/Throwable", "<init>", "(Ljava/lang/String;)V"⟩, Cond.code ⟨"java/lang/Throwable", "<init>", "(Ljava/lang/String;)V"⟩ prog_29_method_2_code 2 none, Cond.fieldLink "java/lang/Throwable" 31 "java/lang/Throwable" "detailMessage" "Ljava/lang/String;", Cond.fieldLink "java/lang/Throwable" 7 "java/lang/Throwable" "cause" "Ljava/lang/Throwable;", Cond.fieldLink "java/lang/Throwable" 17 "java/lang/Throwable" "stackTrace" "[Ljava/lang/StackTraceElement;", Cond.fieldLink "java/lang/Throwable" 24 "java/lang/Throwable" "suppressedExceptions" "Ljava/util/List;", Cond.lays "java/lang/IllegalStateException" "java/lang/Throwable" "depth" "I", Cond.superclass "java/lang/IllegalStateException" "java/lang/RuntimeException", Cond.methodLink "ObjectForge" 50 y_So_appendWord, Cond.instanceMethod y_So_appendWord, Cond.selects "ObjectForge$Source" y_So_appendWord y_So_appendWord, Cond.code y_So_appendWord prog_7_method_2_code 3 none, Cond.methodLink "ObjectForgeLaw" 72 y_La_end, Cond.static y_La_end, Cond.codeWith y_La_end method_4_code 4 (some FieldType.int) [(0, 9, 12, 19)]]
def bw_9 : List Cond := [Cond.classLink "ObjectForgeLaw" 19 "java/lang/IllegalArgumentException", Cond.methodLink "ObjectForgeLaw" 15 y_OF_end, Cond.instanceMethod y_OF_end, Cond.selects "ObjectForge" y_OF_end y_OF_end, Cond.code y_OF_end prog_1_method_3_code 3 (some FieldType.int), Cond.classLink "ObjectForge" 54 "java/lang/IllegalArgumentException", Cond.instantiable "java/lang/IllegalArgumentException" 6, Cond.selects "java/lang/IllegalArgumentException" ⟨"java/lang/Throwable", "fillInStackTrace", "(I)Ljava/lang/Throwable;"⟩ ⟨"java/lang/Throwable", "fillInStackTrace", "(I)Ljava/lang/Throwable;"⟩, Cond.lays "java/lang/IllegalArgumentException" "java/lang/Throwable" "cause" "Ljava/lang/Throwable;", Cond.lays "java/lang/IllegalArgumentException" "java/lang/Throwable" "stackTrace" "[Ljava/lang/StackTraceElement;", Cond.lays "java/lang/IllegalArgumentException" "java/lang/Throwable" "suppressedExceptions" "Ljava/util/List;", Cond.lays "java/lang/IllegalArgumentException" "java/lang/Throwable" "detailMessage" "Ljava/lang/String;", Cond.lays "java/lang/IllegalArgumentException" "java/lang/Throwable" "backtrace" "Ljava/lang/Object;", Cond.methodLink "ObjectForge" 58 ⟨"java/lang/IllegalArgumentException", "<init>", "(Ljava/lang/String;)V"⟩, Cond.instanceMethod ⟨"java/lang/IllegalArgumentException", "<init>", "(Ljava/lang/String;)V"⟩, Cond.code ⟨"java/lang/IllegalArgumentException", "<init>", "(Ljava/lang/String;)V"⟩ prog_18_method_2_code 2 none, Cond.methodLink "java/lang/IllegalArgumentException" 7 ⟨"java/lang/RuntimeException", "<init>", "(Ljava/lang/String;)V"⟩, Cond.lays "java/lang/IllegalArgumentException" "java/lang/Throwable" "depth" "I", Cond.superclass "java/lang/IllegalArgumentException" "java/lang/RuntimeException", Cond.methodLink "ObjectForgeLaw" 76 y_La_assemble, Cond.static y_La_assemble, Cond.codeWith y_La_assemble method_5_code 3 (some FieldType.int) [(0, 8, 11, 13)], Cond.methodLink "ObjectForgeLaw" 21 y_OF_assemble, Cond.instanceMethod y_OF_assemble, Cond.selects "ObjectForge" y_OF_assemble y_OF_assemble]
def bw_10 : List Cond := [Cond.code y_OF_assemble prog_1_method_4_code 3 (some FieldType.int), Cond.methodLink "ObjectForge" 61 y_As_translate, Cond.instanceMethod y_As_translate, Cond.selects "ObjectForge$Assembler" y_As_translate y_As_translate, Cond.code y_As_translate prog_2_method_2_code 4 (some FieldType.boolean), Cond.methodLink "ObjectForge$Assembler" 66 y_Un_makeEmpty, Cond.instanceMethod y_Un_makeEmpty, Cond.selects "ObjectForge$Unit" y_Un_makeEmpty y_Un_makeEmpty, Cond.code y_Un_makeEmpty prog_9_method_2_code 1 none, Cond.methodLink "ObjectForge$Unit" 37 y_Ar_fill, Cond.static y_Ar_fill, Cond.code y_Ar_fill prog_30_method_103_code 4 none, Cond.methodLink "ObjectForge$Assembler" 69 y_So_scanLine, Cond.instanceMethod y_So_scanLine, Cond.selects "ObjectForge$Source" y_So_scanLine y_So_scanLine, Cond.code y_So_scanLine prog_7_method_3_code 4 (some FieldType.int), Cond.methodLink "ObjectForge$Source" 35 ⟨"ObjectForge$Source", "scanToken", "(I)I"⟩, Cond.methodLink "ObjectForge$Source" 39 ⟨"java/lang/Math", "max", "(II)I"⟩, Cond.methodLink "ObjectForge$Assembler" 73 y_As_readLabels, Cond.instanceMethod y_As_readLabels, Cond.code y_As_readLabels prog_2_method_3_code 3 none, Cond.methodLink "ObjectForge$Assembler" 82 y_So_kindOf, Cond.instanceMethod y_So_kindOf, Cond.selects "ObjectForge$Source" y_So_kindOf y_So_kindOf, Cond.code y_So_kindOf prog_7_method_4_code 2 (some FieldType.int)]
def bw_11 : List Cond := [Cond.methodLink "ObjectForge$Assembler" 86 ⟨"ObjectForge$Assembler", "numberSymbol", "(I)I"⟩, Cond.methodLink "ObjectForge$Assembler" 76 y_As_readStatement, Cond.instanceMethod y_As_readStatement, Cond.code y_As_readStatement prog_2_method_5_code 5 none, Cond.methodLink "ObjectForge$Assembler" 119 ⟨"ObjectForge$Assembler", "misplaced", "(I)I"⟩, Cond.methodLink "ObjectForge$Assembler" 122 ⟨"ObjectForge$Directive", "named", "(LObjectForge$Source;I)LObjectForge$Directive;"⟩, Cond.methodLink "ObjectForge$Assembler" 128 ⟨"ObjectForge$Operation", "named", "(LObjectForge$Source;I)LObjectForge$Operation;"⟩, Cond.methodLink "ObjectForge$Assembler" 133 ⟨"ObjectForge$Assembler", "readDirective", "(LObjectForge$Directive;)V"⟩, Cond.native ⟨"java/lang/Object", "clone", "()Ljava/lang/Object;"⟩, Cond.instanceMethod ⟨"java/lang/Object", "clone", "()Ljava/lang/Object;"⟩, Cond.instanceMethod ⟨"java/lang/IndexOutOfBoundsException", "<init>", "(Ljava/lang/String;)V"⟩, Cond.code ⟨"java/lang/IndexOutOfBoundsException", "<init>", "(Ljava/lang/String;)V"⟩ prog_20_method_2_code 2 none, Cond.methodLink "java/lang/IndexOutOfBoundsException" 7 ⟨"java/lang/RuntimeException", "<init>", "(Ljava/lang/String;)V"⟩, Cond.methodLink "ObjectForge$Assembler" 137 ⟨"ObjectForge$Operation", "ofOperands", "(LObjectForge$Source;I)LObjectForge$Operation;"⟩, Cond.methodLink "ObjectForge$Assembler" 140 ⟨"ObjectForge$Assembler", "readInstruction", "(LObjectForge$Operation;)V"⟩, Cond.methodLink "ObjectForge$Assembler" 79 y_As_settleBranches, Cond.instanceMethod y_As_settleBranches, Cond.code y_As_settleBranches prog_2_method_27_code 6 none, Cond.methodLink "ObjectForge$Assembler" 334 ⟨"ObjectForge$Assembler", "settleBranch", "(IJI)V"⟩, Cond.methodLink "ObjectForge$Assembler" 338 ⟨"ObjectForge$Relocations", "move", "(II)V"⟩, Cond.methodLink "ObjectForgeLaw" 80 y_La_fault, Cond.static y_La_fault, Cond.codeWith y_La_fault method_6_code 4 (some FieldType.int) [(0, 9, 12, 28)], Cond.classLink "ObjectForgeLaw" 28 "java/lang/IndexOutOfBoundsException", Cond.methodLink "ObjectForgeLaw" 25 y_OF_fault]
def bw_12 : List Cond := [Cond.instanceMethod y_OF_fault, Cond.selects "ObjectForge" y_OF_fault y_OF_fault, Cond.code y_OF_fault prog_1_method_5_code 2 (some FieldType.int), Cond.classLink "ObjectForge" 82 "java/lang/IndexOutOfBoundsException", Cond.instantiable "java/lang/IndexOutOfBoundsException" 6, Cond.selects "java/lang/IndexOutOfBoundsException" ⟨"java/lang/Throwable", "fillInStackTrace", "(I)Ljava/lang/Throwable;"⟩ ⟨"java/lang/Throwable", "fillInStackTrace", "(I)Ljava/lang/Throwable;"⟩, Cond.lays "java/lang/IndexOutOfBoundsException" "java/lang/Throwable" "cause" "Ljava/lang/Throwable;", Cond.lays "java/lang/IndexOutOfBoundsException" "java/lang/Throwable" "stackTrace" "[Ljava/lang/StackTraceElement;", Cond.lays "java/lang/IndexOutOfBoundsException" "java/lang/Throwable" "suppressedExceptions" "Ljava/util/List;", Cond.lays "java/lang/IndexOutOfBoundsException" "java/lang/Throwable" "detailMessage" "Ljava/lang/String;", Cond.lays "java/lang/IndexOutOfBoundsException" "java/lang/Throwable" "backtrace" "Ljava/lang/Object;", Cond.methodLink "ObjectForge" 86 ⟨"java/lang/IndexOutOfBoundsException", "<init>", "(Ljava/lang/String;)V"⟩, Cond.lays "java/lang/IndexOutOfBoundsException" "java/lang/Throwable" "depth" "I", Cond.superclass "java/lang/IndexOutOfBoundsException" "java/lang/RuntimeException", Cond.methodLink "ObjectForgeLaw" 83 y_La_size, Cond.static y_La_size, Cond.codeWith y_La_size method_7_code 5 (some FieldType.int) [(0, 10, 13, 28)], Cond.methodLink "ObjectForgeLaw" 30 y_OF_size, Cond.instanceMethod y_OF_size, Cond.selects "ObjectForge" y_OF_size y_OF_size, Cond.code y_OF_size prog_1_method_6_code 4 (some FieldType.int), Cond.methodLink "ObjectForge" 87 y_OF_unitNumbered, Cond.instanceMethod y_OF_unitNumbered, Cond.code y_OF_unitNumbered prog_1_method_16_code 2 (some (FieldType.object "ObjectForge$Unit")), Cond.methodLink "ObjectForge" 91 y_OF_requireBelow]
def bw_13 : List Cond := [Cond.static y_OF_requireBelow, Cond.code y_OF_requireBelow prog_1_method_17_code 2 none, Cond.methodLink "ObjectForgeLaw" 87 y_La_byteAt, Cond.static y_La_byteAt, Cond.codeWith y_La_byteAt method_8_code 6 (some FieldType.int) [(0, 12, 15, 28)], Cond.methodLink "ObjectForgeLaw" 34 y_OF_byteAt, Cond.instanceMethod y_OF_byteAt, Cond.selects "ObjectForge" y_OF_byteAt y_OF_byteAt, Cond.code y_OF_byteAt prog_1_method_7_code 5 (some FieldType.int), Cond.methodLink "ObjectForgeLaw" 91 y_La_symbol, Cond.static y_La_symbol, Cond.codeWith y_La_symbol method_9_code 6 (some FieldType.int) [(0, 12, 15, 28)], Cond.methodLink "ObjectForgeLaw" 38 y_OF_symbol, Cond.instanceMethod y_OF_symbol, Cond.selects "ObjectForge" y_OF_symbol y_OF_symbol, Cond.code y_OF_symbol prog_1_method_8_code 5 (some FieldType.int), Cond.methodLink "ObjectForgeLaw" 94 y_La_letter, Cond.static y_La_letter, Cond.codeWith y_La_letter method_10_code 6 (some FieldType.int) [(0, 12, 15, 28)], Cond.methodLink "ObjectForgeLaw" 41 y_OF_letter, Cond.instanceMethod y_OF_letter, Cond.selects "ObjectForge" y_OF_letter y_OF_letter, Cond.code y_OF_letter prog_1_method_9_code 5 (some FieldType.int), Cond.methodLink "ObjectForgeLaw" 97 y_La_relocation, Cond.static y_La_relocation]
def bw_14 : List Cond := [Cond.codeWith y_La_relocation method_11_code 6 (some FieldType.int) [(0, 12, 15, 28)], Cond.methodLink "ObjectForgeLaw" 44 y_OF_relocation, Cond.instanceMethod y_OF_relocation, Cond.selects "ObjectForge" y_OF_relocation y_OF_relocation, Cond.code y_OF_relocation prog_1_method_10_code 5 (some FieldType.int), Cond.methodLink "ObjectForgeLaw" 100 y_La_link, Cond.static y_La_link, Cond.codeWith y_La_link method_12_code 4 (some FieldType.int) [(0, 9, 12, 19), (0, 9, 15, 13)], Cond.methodLink "ObjectForgeLaw" 47 y_OF_link, Cond.instanceMethod y_OF_link, Cond.selects "ObjectForge" y_OF_link y_OF_link, Cond.code y_OF_link prog_1_method_11_code 2 (some FieldType.int), Cond.methodLink "ObjectForge" 155 ⟨"ObjectForge$Linker", "join", "([LObjectForge$Unit;II)I"⟩, Cond.methodLink "ObjectForgeLaw" 103 y_La_word, Cond.static y_La_word, Cond.codeWith y_La_word method_13_code 4 (some FieldType.int) [(0, 9, 12, 28)], Cond.methodLink "ObjectForgeLaw" 50 y_OF_word, Cond.instanceMethod y_OF_word, Cond.selects "ObjectForge" y_OF_word y_OF_word, Cond.code y_OF_word prog_1_method_12_code 2 (some FieldType.int), Cond.methodLink "ObjectForge" 159 y_Li_holdsWord, Cond.instanceMethod y_Li_holdsWord, Cond.selects "ObjectForge$Linker" y_Li_holdsWord y_Li_holdsWord, Cond.code y_Li_holdsWord prog_4_method_14_code 3 (some FieldType.boolean), Cond.methodLink "ObjectForge" 164 ⟨"ObjectForge$Linker", "wordFrom", "(I)I"⟩]
def bw_15 : List Cond := [Cond.methodLink "ObjectForgeLaw" 106 y_La_address, Cond.static y_La_address, Cond.codeWith y_La_address method_14_code 5 (some FieldType.int) [(0, 10, 13, 28), (0, 10, 17, 13)], Cond.methodLink "ObjectForgeLaw" 53 y_OF_address, Cond.instanceMethod y_OF_address, Cond.selects "ObjectForge" y_OF_address y_OF_address, Cond.code y_OF_address prog_1_method_13_code 4 (some FieldType.int), Cond.methodLink "ObjectForgeLaw" 113 y_La_count, Cond.static y_La_count, Cond.codeWith y_La_count method_15_code 5 (some FieldType.int) [(0, 10, 13, 28)], Cond.methodLink "ObjectForgeLaw" 56 y_OF_count, Cond.instanceMethod y_OF_count, Cond.selects "ObjectForge" y_OF_count y_OF_count, Cond.code y_OF_count prog_1_method_15_code 3 (some FieldType.int), Cond.classLink "ObjectForgeLaw" 60 "ObjectForgeModel", Cond.instantiable "ObjectForgeModel" 52, Cond.methodLink "ObjectForgeLaw" 62 y_Mo_init, Cond.instanceMethod y_Mo_init, Cond.code y_Mo_init prog_11_method_1_code 1 none, Cond.methodLink "ObjectForgeModel" 1 ⟨"java/lang/Object", "<init>", "()V"⟩, Cond.constant "ObjectForgeModel" 13 (65536 : Int32), Cond.constant "ObjectForgeModel" 75 (32768 : Int32), Cond.fieldLink "ObjectForgeModel" 88 "ObjectForgeModel" "thrown" "I", Cond.fieldLink "ObjectForgeModel" 91 "ObjectForgeModel" "length" "I", Cond.fieldLink "ObjectForgeModel" 7 "ObjectForgeModel" "text" "[B"]
def bw_16 : List Cond := [Cond.fieldLink "ObjectForgeModel" 1010 "ObjectForgeModel" "objects" "I", Cond.fieldLink "ObjectForgeModel" 1214 "ObjectForgeModel" "linked" "I", Cond.fieldLink "ObjectForgeModel" 14 "ObjectForgeModel" "bytes" "[B", Cond.fieldLink "ObjectForgeModel" 17 "ObjectForgeModel" "sizes" "[I", Cond.fieldLink "ObjectForgeModel" 21 "ObjectForgeModel" "symbolCount" "[I", Cond.fieldLink "ObjectForgeModel" 24 "ObjectForgeModel" "referenceCount" "[I", Cond.fieldLink "ObjectForgeModel" 27 "ObjectForgeModel" "nameA" "[J", Cond.fieldLink "ObjectForgeModel" 31 "ObjectForgeModel" "nameB" "[J", Cond.fieldLink "ObjectForgeModel" 34 "ObjectForgeModel" "nameC" "[J", Cond.fieldLink "ObjectForgeModel" 37 "ObjectForgeModel" "nameLength" "[I", Cond.fieldLink "ObjectForgeModel" 40 "ObjectForgeModel" "section" "[I", Cond.fieldLink "ObjectForgeModel" 43 "ObjectForgeModel" "value" "[I", Cond.fieldLink "ObjectForgeModel" 46 "ObjectForgeModel" "global" "[Z", Cond.fieldLink "ObjectForgeModel" 50 "ObjectForgeModel" "refSection" "[I", Cond.fieldLink "ObjectForgeModel" 53 "ObjectForgeModel" "refPlace" "[I", Cond.fieldLink "ObjectForgeModel" 56 "ObjectForgeModel" "refKind" "[I", Cond.fieldLink "ObjectForgeModel" 59 "ObjectForgeModel" "refSymbol" "[I", Cond.fieldLink "ObjectForgeModel" 62 "ObjectForgeModel" "refAddend" "[I", Cond.fieldLink "ObjectForgeModel" 65 "ObjectForgeModel" "refLine" "[I", Cond.fieldLink "ObjectForgeModel" 982 "ObjectForgeModel" "fault" "I", Cond.fieldLink "ObjectForgeModel" 1175 "ObjectForgeModel" "faultLine" "I", Cond.fieldLink "ObjectForgeModel" 1178 "ObjectForgeModel" "linkFault" "I", Cond.fieldLink "ObjectForgeModel" 68 "ObjectForgeModel" "linkObject" "I", Cond.fieldLink "ObjectForgeModel" 72 "ObjectForgeModel" "linkWhich" "I", Cond.fieldLink "ObjectForgeModel" 1191 "ObjectForgeModel" "hasImage" "Z"]
def bw_17 : List Cond := [Cond.fieldLink "ObjectForgeModel" 1188 "ObjectForgeModel" "base" "I", Cond.fieldLink "ObjectForgeModel" 1211 "ObjectForgeModel" "imageSize" "I", Cond.fieldLink "ObjectForgeModel" 76 "ObjectForgeModel" "image" "[B", Cond.fieldLink "ObjectForgeModel" 79 "ObjectForgeModel" "starts" "[I", Cond.fieldLink "ObjectForgeModel" 82 "ObjectForgeModel" "addresses" "[I", Cond.fieldLink "ObjectForgeModel" 102 "ObjectForgeModel" "at" "I", Cond.fieldLink "ObjectForgeModel" 105 "ObjectForgeModel" "stop" "I", Cond.fieldLink "ObjectForgeModel" 119 "ObjectForgeModel" "kind" "I", Cond.fieldLink "ObjectForgeModel" 137 "ObjectForgeModel" "sign" "I", Cond.fieldLink "ObjectForgeModel" 162 "ObjectForgeModel" "nameSize" "I", Cond.fieldLink "ObjectForgeModel" 150 "ObjectForgeModel" "code" "J", Cond.fieldLink "ObjectForgeModel" 140 "ObjectForgeModel" "first" "J", Cond.fieldLink "ObjectForgeModel" 144 "ObjectForgeModel" "second" "J", Cond.fieldLink "ObjectForgeModel" 147 "ObjectForgeModel" "third" "J", Cond.fieldLink "ObjectForgeModel" 85 "ObjectForgeModel" "string" "[B", Cond.fieldLink "ObjectForgeModel" 1050 "ObjectForgeModel" "here" "I", Cond.fieldLink "ObjectForgeModel" 1055 "ObjectForgeModel" "line" "I", Cond.methodLink "ObjectForgeLaw" 69 y_Mo_thrown, Cond.instanceMethod y_Mo_thrown, Cond.selects "ObjectForgeModel" y_Mo_thrown y_Mo_thrown, Cond.code y_Mo_thrown prog_11_method_2_code 1 (some FieldType.int), Cond.methodLink "ObjectForgeLaw" 68 y_Mo_feed, Cond.instanceMethod y_Mo_feed, Cond.selects "ObjectForgeModel" y_Mo_feed y_Mo_feed, Cond.code y_Mo_feed prog_11_method_5_code 5 (some FieldType.int)]
def bw_18 : List Cond := [Cond.methodLink "ObjectForgeModel" 94 y_Mo_refuse, Cond.instanceMethod y_Mo_refuse, Cond.code y_Mo_refuse prog_11_method_3_code 2 (some FieldType.int), Cond.methodLink "ObjectForgeModel" 98 y_Mo_four, Cond.instanceMethod y_Mo_four, Cond.code y_Mo_four prog_11_method_4_code 3 none, Cond.methodLink "ObjectForgeLaw" 75 y_Mo_end, Cond.instanceMethod y_Mo_end, Cond.selects "ObjectForgeModel" y_Mo_end y_Mo_end, Cond.code y_Mo_end prog_11_method_6_code 2 (some FieldType.int), Cond.methodLink "ObjectForgeLaw" 79 y_Mo_assemble, Cond.instanceMethod y_Mo_assemble, Cond.selects "ObjectForgeModel" y_Mo_assemble y_Mo_assemble, Cond.code y_Mo_assemble prog_11_method_72_code 4 (some FieldType.int), Cond.methodLink "ObjectForgeModel" 985 y_Mo_fine, Cond.instanceMethod y_Mo_fine, Cond.code y_Mo_fine prog_11_method_33_code 1 (some FieldType.boolean), Cond.methodLink "ObjectForgeModel" 1169 y_Mo_read, Cond.instanceMethod y_Mo_read, Cond.code y_Mo_read prog_11_method_69_code 15 none, Cond.methodLink "ObjectForgeModel" 998 y_Mo_next, Cond.instanceMethod y_Mo_next, Cond.code y_Mo_next prog_11_method_11_code 2 none, Cond.methodLink "ObjectForgeModel" 108 y_Mo_here, Cond.instanceMethod y_Mo_here]
def bw_19 : List Cond := [Cond.code y_Mo_here prog_11_method_7_code 1 (some FieldType.int), Cond.methodLink "ObjectForgeModel" 112 ⟨"ObjectForgeModel", "isLetter", "(I)Z"⟩, Cond.methodLink "ObjectForgeModel" 122 ⟨"ObjectForgeModel", "named", "()V"⟩, Cond.methodLink "ObjectForgeModel" 116 ⟨"ObjectForgeModel", "isDigit", "(I)Z"⟩, Cond.methodLink "ObjectForgeModel" 125 ⟨"ObjectForgeModel", "counted", "()V"⟩, Cond.methodLink "ObjectForgeModel" 128 ⟨"ObjectForgeModel", "registered", "()V"⟩, Cond.methodLink "ObjectForgeModel" 131 ⟨"ObjectForgeModel", "character", "()V"⟩, Cond.constantLong "ObjectForgeModel" 211 (-1 : Int64), Cond.methodLink "ObjectForgeModel" 134 ⟨"ObjectForgeModel", "quoted", "()V"⟩, Cond.methodLink "ObjectForgeModel" 994 ⟨"ObjectForgeModel", "must", "(Z)Z"⟩, Cond.methodLink "ObjectForgeModel" 988 ⟨"ObjectForgeModel", "wrong", "(I)V"⟩, Cond.methodLink "ObjectForgeModel" 991 ⟨"ObjectForgeModel", "isSign", "(I)Z"⟩, Cond.methodLink "ObjectForgeModel" 1150 ⟨"ObjectForgeModel", "label", "()V"⟩, Cond.methodLink "ObjectForgeModel" 1153 ⟨"ObjectForgeModel", "found", "(J)J"⟩, Cond.methodLink "ObjectForgeModel" 1156 ⟨"ObjectForgeModel", "mayStand", "(I)Z"⟩, Cond.constantLong "ObjectForgeModel" 1159 (40 : Int64), Cond.methodLink "ObjectForgeModel" 1161 ⟨"ObjectForgeModel", "instruction", "(II)V"⟩, Cond.constantLong "ObjectForgeModel" 1108 (-32768 : Int64), Cond.constantLong "ObjectForgeModel" 1110 (32767 : Int64), Cond.methodLink "ObjectForgeModel" 1164 ⟨"ObjectForgeModel", "directive", "(I)V"⟩, Cond.constantLong "ObjectForgeModel" 1144 (255 : Int64), Cond.methodLink "ObjectForgeModel" 1172 y_Mo_settle, Cond.instanceMethod y_Mo_settle, Cond.code y_Mo_settle prog_11_method_71_code 9 none, Cond.constantLong "ObjectForgeModel" 1167 (4 : Int64)]
def bw_20 : List Cond := [Cond.methodLink "ObjectForgeLaw" 82 y_Mo_fault, Cond.instanceMethod y_Mo_fault, Cond.selects "ObjectForgeModel" y_Mo_fault y_Mo_fault, Cond.code y_Mo_fault prog_11_method_73_code 2 (some FieldType.int), Cond.methodLink "ObjectForgeLaw" 86 y_Mo_size, Cond.instanceMethod y_Mo_size, Cond.selects "ObjectForgeModel" y_Mo_size y_Mo_size, Cond.code y_Mo_size prog_11_method_75_code 3 (some FieldType.int), Cond.methodLink "ObjectForgeModel" 1181 y_Mo_within, Cond.static y_Mo_within, Cond.code y_Mo_within prog_11_method_74_code 2 (some FieldType.boolean), Cond.methodLink "ObjectForgeLaw" 90 y_Mo_byteAt, Cond.instanceMethod y_Mo_byteAt, Cond.selects "ObjectForgeModel" y_Mo_byteAt y_Mo_byteAt, Cond.code y_Mo_byteAt prog_11_method_76_code 4 (some FieldType.int), Cond.methodLink "ObjectForgeLaw" 93 y_Mo_symbol, Cond.instanceMethod y_Mo_symbol, Cond.selects "ObjectForgeModel" y_Mo_symbol y_Mo_symbol, Cond.code y_Mo_symbol prog_11_method_77_code 5 (some FieldType.int), Cond.methodLink "ObjectForgeLaw" 96 y_Mo_letter, Cond.instanceMethod y_Mo_letter, Cond.selects "ObjectForgeModel" y_Mo_letter y_Mo_letter, Cond.code y_Mo_letter prog_11_method_78_code 9 (some FieldType.int), Cond.methodLink "ObjectForgeLaw" 99 y_Mo_relocation, Cond.instanceMethod y_Mo_relocation]
def bw_21 : List Cond := [Cond.selects "ObjectForgeModel" y_Mo_relocation y_Mo_relocation, Cond.code y_Mo_relocation prog_11_method_79_code 5 (some FieldType.int), Cond.methodLink "ObjectForgeLaw" 102 y_Mo_link, Cond.instanceMethod y_Mo_link, Cond.selects "ObjectForgeModel" y_Mo_link y_Mo_link, Cond.code y_Mo_link prog_11_method_85_code 7 (some FieldType.int), Cond.methodLink "ObjectForgeModel" 1195 ⟨"ObjectForgeModel", "failed", "(III)I"⟩, Cond.methodLink "ObjectForgeModel" 1199 ⟨"ObjectForgeModel", "lay", "()I"⟩, Cond.methodLink "ObjectForgeModel" 1202 ⟨"ObjectForgeModel", "other", "(III)I"⟩, Cond.methodLink "ObjectForgeModel" 1205 ⟨"ObjectForgeModel", "placeOf", "(I)I"⟩, Cond.methodLink "ObjectForgeModel" 1208 ⟨"ObjectForgeModel", "done", "(II)Z"⟩, Cond.methodLink "ObjectForgeModel" 1217 ⟨"ObjectForgeModel", "wordIn", "(I)I"⟩, Cond.methodLink "ObjectForgeLaw" 105 y_Mo_word, Cond.instanceMethod y_Mo_word, Cond.selects "ObjectForgeModel" y_Mo_word y_Mo_word, Cond.code y_Mo_word prog_11_method_88_code 3 (some FieldType.int), Cond.methodLink "ObjectForgeLaw" 108 y_Mo_address, Cond.instanceMethod y_Mo_address, Cond.selects "ObjectForgeModel" y_Mo_address y_Mo_address, Cond.code y_Mo_address prog_11_method_89_code 3 (some FieldType.int), Cond.methodLink "ObjectForgeLaw" 112 y_Mo_clear, Cond.instanceMethod y_Mo_clear, Cond.selects "ObjectForgeModel" y_Mo_clear y_Mo_clear, Cond.code y_Mo_clear prog_11_method_90_code 2 (some FieldType.int), Cond.methodLink "ObjectForgeLaw" 115 y_Mo_count]
def bw_22 : List Cond := [Cond.instanceMethod y_Mo_count, Cond.selects "ObjectForgeModel" y_Mo_count y_Mo_count, Cond.code y_Mo_count prog_11_method_91_code 3 (some FieldType.int), Cond.selects "ObjectForge$Assembler" y_As_readLabels y_As_readLabels, Cond.selects "ObjectForge$Assembler" y_As_readStatement y_As_readStatement, Cond.selects "ObjectForge$Assembler" y_As_settleBranches y_As_settleBranches, Cond.selects "ObjectForge" y_OF_unitNumbered y_OF_unitNumbered, Cond.selects "ObjectForgeModel" y_Mo_refuse y_Mo_refuse, Cond.selects "ObjectForgeModel" y_Mo_four y_Mo_four, Cond.selects "ObjectForgeModel" y_Mo_fine y_Mo_fine, Cond.selects "ObjectForgeModel" y_Mo_read y_Mo_read, Cond.selects "ObjectForgeModel" y_Mo_next y_Mo_next, Cond.selects "ObjectForgeModel" y_Mo_here y_Mo_here, Cond.selects "ObjectForgeModel" y_Mo_settle y_Mo_settle]
def bw : List Cond := u_ws R_OF F_OF 4 ++ (u_ws R_As F_As 15 ++ (u_ws R_Li F_Li 7 ++ (u_ws R_Re F_Re 7 ++ (u_ws R_So F_So 7 ++ (u_ws R_Sy F_Sy 8 ++ (u_ws R_Un F_Un 5 ++ (u_ws R_Mo F_Mo 52 ++ (bw_0 ++ (bw_1 ++ (bw_2 ++ (bw_3 ++ (bw_4 ++ (bw_5 ++ (bw_6 ++ (bw_7 ++ (bw_8 ++ (bw_9 ++ (bw_10 ++ (bw_11 ++ (bw_12 ++ (bw_13 ++ (bw_14 ++ (bw_15 ++ (bw_16 ++ (bw_17 ++ (bw_18 ++ (bw_19 ++ (bw_20 ++ (bw_21 ++ (bw_22))))))))))))))))))))))))))))))
theorem i_OF : ∀ w ∈ u_ws R_OF F_OF 4, w ∈ bw := fun _ h => List.mem_append_left _ h
theorem i_As : ∀ w ∈ u_ws R_As F_As 15, w ∈ bw := fun _ h => List.mem_append_right _ (List.mem_append_left _ h)
theorem i_Li : ∀ w ∈ u_ws R_Li F_Li 7, w ∈ bw := fun _ h => List.mem_append_right _ (List.mem_append_right _ (List.mem_append_left _ h))
theorem i_Re : ∀ w ∈ u_ws R_Re F_Re 7, w ∈ bw := fun _ h => List.mem_append_right _ (List.mem_append_right _ (List.mem_append_right _ (List.mem_append_left _ h)))
theorem i_So : ∀ w ∈ u_ws R_So F_So 7, w ∈ bw := fun _ h => List.mem_append_right _ (List.mem_append_right _ (List.mem_append_right _ (List.mem_append_right _ (List.mem_append_left _ h))))
theorem i_Sy : ∀ w ∈ u_ws R_Sy F_Sy 8, w ∈ bw := fun _ h => List.mem_append_right _ (List.mem_append_right _ (List.mem_append_right _ (List.mem_append_right _ (List.mem_append_right _ (List.mem_append_left _ h)))))
theorem i_Un : ∀ w ∈ u_ws R_Un F_Un 5, w ∈ bw := fun _ h => List.mem_append_right _ (List.mem_append_right _ (List.mem_append_right _ (List.mem_append_right _ (List.mem_append_right _ (List.mem_append_right _ (List.mem_append_left _ h))))))
theorem i_Mo : ∀ w ∈ u_ws R_Mo F_Mo 52, w ∈ bw := fun _ h => List.mem_append_right _ (List.mem_append_right _ (List.mem_append_right _ (List.mem_append_right _ (List.mem_append_right _ (List.mem_append_right _ (List.mem_append_right _ (List.mem_append_left _ h)))))))
theorem j_0 : ∀ w ∈ bw_0, w ∈ bw := fun _ h => List.mem_append_right _ (List.mem_append_right _ (List.mem_append_right _ (List.mem_append_right _ (List.mem_append_right _ (List.mem_append_right _ (List.mem_append_right _ (List.mem_append_right _ (List.mem_append_left _ h))))))))
theorem j_1 : ∀ w ∈ bw_1, w ∈ bw := fun _ h => List.mem_append_right _ (List.mem_append_right _ (List.mem_append_right _ (List.mem_append_right _ (List.mem_append_right _ (List.mem_append_right _ (List.mem_append_right _ (List.mem_append_right _ (List.mem_append_right _ (List.mem_append_left _ h)))))))))
theorem j_2 : ∀ w ∈ bw_2, w ∈ bw := fun _ h => List.mem_append_right _ (List.mem_append_right _ (List.mem_append_right _ (List.mem_append_right _ (List.mem_append_right _ (List.mem_append_right _ (List.mem_append_right _ (List.mem_append_right _ (List.mem_append_right _ (List.mem_append_right _ (List.mem_append_left _ h))))))))))
theorem j_3 : ∀ w ∈ bw_3, w ∈ bw := fun _ h => List.mem_append_right _ (List.mem_append_right _ (List.mem_append_right _ (List.mem_append_right _ (List.mem_append_right _ (List.mem_append_right _ (List.mem_append_right _ (List.mem_append_right _ (List.mem_append_right _ (List.mem_append_right _ (List.mem_append_right _ (List.mem_append_left _ h)))))))))))
theorem j_4 : ∀ w ∈ bw_4, w ∈ bw := fun _ h => List.mem_append_right _ (List.mem_append_right _ (List.mem_append_right _ (List.mem_append_right _ (List.mem_append_right _ (List.mem_append_right _ (List.mem_append_right _ (List.mem_append_right _ (List.mem_append_right _ (List.mem_append_right _ (List.mem_append_right _ (List.mem_append_right _ (List.mem_append_left _ h))))))))))))
theorem j_5 : ∀ w ∈ bw_5, w ∈ bw := fun _ h => List.mem_append_right _ (List.mem_append_right _ (List.mem_append_right _ (List.mem_append_right _ (List.mem_append_right _ (List.mem_append_right _ (List.mem_append_right _ (List.mem_append_right _ (List.mem_append_right _ (List.mem_append_right _ (List.mem_append_right _ (List.mem_append_right _ (List.mem_append_right _ (List.mem_append_left _ h)))))))))))))
theorem j_6 : ∀ w ∈ bw_6, w ∈ bw := fun _ h => List.mem_append_right _ (List.mem_append_right _ (List.mem_append_right _ (List.mem_append_right _ (List.mem_append_right _ (List.mem_append_right _ (List.mem_append_right _ (List.mem_append_right _ (List.mem_append_right _ (List.mem_append_right _ (List.mem_append_right _ (List.mem_append_right _ (List.mem_append_right _ (List.mem_append_right _ (List.mem_append_left _ h))))))))))))))
theorem j_7 : ∀ w ∈ bw_7, w ∈ bw := fun _ h => List.mem_append_right _ (List.mem_append_right _ (List.mem_append_right _ (List.mem_append_right _ (List.mem_append_right _ (List.mem_append_right _ (List.mem_append_right _ (List.mem_append_right _ (List.mem_append_right _ (List.mem_append_right _ (List.mem_append_right _ (List.mem_append_right _ (List.mem_append_right _ (List.mem_append_right _ (List.mem_append_right _ (List.mem_append_left _ h)))))))))))))))
theorem j_8 : ∀ w ∈ bw_8, w ∈ bw := fun _ h => List.mem_append_right _ (List.mem_append_right _ (List.mem_append_right _ (List.mem_append_right _ (List.mem_append_right _ (List.mem_append_right _ (List.mem_append_right _ (List.mem_append_right _ (List.mem_append_right _ (List.mem_append_right _ (List.mem_append_right _ (List.mem_append_right _ (List.mem_append_right _ (List.mem_append_right _ (List.mem_append_right _ (List.mem_append_right _ (List.mem_append_left _ h))))))))))))))))
theorem j_9 : ∀ w ∈ bw_9, w ∈ bw := fun _ h => List.mem_append_right _ (List.mem_append_right _ (List.mem_append_right _ (List.mem_append_right _ (List.mem_append_right _ (List.mem_append_right _ (List.mem_append_right _ (List.mem_append_right _ (List.mem_append_right _ (List.mem_append_right _ (List.mem_append_right _ (List.mem_append_right _ (List.mem_append_right _ (List.mem_append_right _ (List.mem_append_right _ (List.mem_append_right _ (List.mem_append_right _ (List.mem_append_left _ h)))))))))))))))))
theorem j_10 : ∀ w ∈ bw_10, w ∈ bw := fun _ h => List.mem_append_right _ (List.mem_append_right _ (List.mem_append_right _ (List.mem_append_right _ (List.mem_append_right _ (List.mem_append_right _ (List.mem_append_right _ (List.mem_append_right _ (List.mem_append_right _ (List.mem_append_right _ (List.mem_append_right _ (List.mem_append_right _ (List.mem_append_right _ (List.mem_append_right _ (List.mem_append_right _ (List.mem_append_right _ (List.mem_append_right _ (List.mem_append_right _ (List.mem_append_left _ h))))))))))))))))))
theorem j_11 : ∀ w ∈ bw_11, w ∈ bw := fun _ h => List.mem_append_right _ (List.mem_append_right _ (List.mem_append_right _ (List.mem_append_right _ (List.mem_append_right _ (List.mem_append_right _ (List.mem_append_right _ (List.mem_append_right _ (List.mem_append_right _ (List.mem_append_right _ (List.mem_append_right _ (List.mem_append_right _ (List.mem_append_right _ (List.mem_append_right _ (List.mem_append_right _ (List.mem_append_right _ (List.mem_append_right _ (List.mem_append_right _ (List.mem_append_right _ (List.mem_append_left _ h)))))))))))))))))))
theorem j_12 : ∀ w ∈ bw_12, w ∈ bw := fun _ h => List.mem_append_right _ (List.mem_append_right _ (List.mem_append_right _ (List.mem_append_right _ (List.mem_append_right _ (List.mem_append_right _ (List.mem_append_right _ (List.mem_append_right _ (List.mem_append_right _ (List.mem_append_right _ (List.mem_append_right _ (List.mem_append_right _ (List.mem_append_right _ (List.mem_append_right _ (List.mem_append_right _ (List.mem_append_right _ (List.mem_append_right _ (List.mem_append_right _ (List.mem_append_right _ (List.mem_append_right _ (List.mem_append_left _ h))))))))))))))))))))
theorem j_13 : ∀ w ∈ bw_13, w ∈ bw := fun _ h => List.mem_append_right _ (List.mem_append_right _ (List.mem_append_right _ (List.mem_append_right _ (List.mem_append_right _ (List.mem_append_right _ (List.mem_append_right _ (List.mem_append_right _ (List.mem_append_right _ (List.mem_append_right _ (List.mem_append_right _ (List.mem_append_right _ (List.mem_append_right _ (List.mem_append_right _ (List.mem_append_right _ (List.mem_append_right _ (List.mem_append_right _ (List.mem_append_right _ (List.mem_append_right _ (List.mem_append_right _ (List.mem_append_right _ (List.mem_append_left _ h)))))))))))))))))))))
theorem j_14 : ∀ w ∈ bw_14, w ∈ bw := fun _ h => List.mem_append_right _ (List.mem_append_right _ (List.mem_append_right _ (List.mem_append_right _ (List.mem_append_right _ (List.mem_append_right _ (List.mem_append_right _ (List.mem_append_right _ (List.mem_append_right _ (List.mem_append_right _ (List.mem_append_right _ (List.mem_append_right _ (List.mem_append_right _ (List.mem_append_right _ (List.mem_append_right _ (List.mem_append_right _ (List.mem_append_right _ (List.mem_append_right _ (List.mem_append_right _ (List.mem_append_right _ (List.mem_append_right _ (List.mem_append_right _ (List.mem_append_left _ h))))))))))))))))))))))
theorem j_15 : ∀ w ∈ bw_15, w ∈ bw := fun _ h => List.mem_append_right _ (List.mem_append_right _ (List.mem_append_right _ (List.mem_append_right _ (List.mem_append_right _ (List.mem_append_right _ (List.mem_append_right _ (List.mem_append_right _ (List.mem_append_right _ (List.mem_append_right _ (List.mem_append_right _ (List.mem_append_right _ (List.mem_append_right _ (List.mem_append_right _ (List.mem_append_right _ (List.mem_append_right _ (List.mem_append_right _ (List.mem_append_right _ (List.mem_append_right _ (List.mem_append_right _ (List.mem_append_right _ (List.mem_append_right _ (List.mem_append_right _ (List.mem_append_left _ h)))))))))))))))))))))))
theorem j_16 : ∀ w ∈ bw_16, w ∈ bw := fun _ h => List.mem_append_right _ (List.mem_append_right _ (List.mem_append_right _ (List.mem_append_right _ (List.mem_append_right _ (List.mem_append_right _ (List.mem_append_right _ (List.mem_append_right _ (List.mem_append_right _ (List.mem_append_right _ (List.mem_append_right _ (List.mem_append_right _ (List.mem_append_right _ (List.mem_append_right _ (List.mem_append_right _ (List.mem_append_right _ (List.mem_append_right _ (List.mem_append_right _ (List.mem_append_right _ (List.mem_append_right _ (List.mem_append_right _ (List.mem_append_right _ (List.mem_append_right _ (List.mem_append_right _ (List.mem_append_left _ h))))))))))))))))))))))))
theorem j_17 : ∀ w ∈ bw_17, w ∈ bw := fun _ h => List.mem_append_right _ (List.mem_append_right _ (List.mem_append_right _ (List.mem_append_right _ (List.mem_append_right _ (List.mem_append_right _ (List.mem_append_right _ (List.mem_append_right _ (List.mem_append_right _ (List.mem_append_right _ (List.mem_append_right _ (List.mem_append_right _ (List.mem_append_right _ (List.mem_append_right _ (List.mem_append_right _ (List.mem_append_right _ (List.mem_append_right _ (List.mem_append_right _ (List.mem_append_right _ (List.mem_append_right _ (List.mem_append_right _ (List.mem_append_right _ (List.mem_append_right _ (List.mem_append_right _ (List.mem_append_right _ (List.mem_append_left _ h)))))))))))))))))))))))))
theorem j_18 : ∀ w ∈ bw_18, w ∈ bw := fun _ h => List.mem_append_right _ (List.mem_append_right _ (List.mem_append_right _ (List.mem_append_right _ (List.mem_append_right _ (List.mem_append_right _ (List.mem_append_right _ (List.mem_append_right _ (List.mem_append_right _ (List.mem_append_right _ (List.mem_append_right _ (List.mem_append_right _ (List.mem_append_right _ (List.mem_append_right _ (List.mem_append_right _ (List.mem_append_right _ (List.mem_append_right _ (List.mem_append_right _ (List.mem_append_right _ (List.mem_append_right _ (List.mem_append_right _ (List.mem_append_right _ (List.mem_append_right _ (List.mem_append_right _ (List.mem_append_right _ (List.mem_append_right _ (List.mem_append_left _ h))))))))))))))))))))))))))
theorem j_19 : ∀ w ∈ bw_19, w ∈ bw := fun _ h => List.mem_append_right _ (List.mem_append_right _ (List.mem_append_right _ (List.mem_append_right _ (List.mem_append_right _ (List.mem_append_right _ (List.mem_append_right _ (List.mem_append_right _ (List.mem_append_right _ (List.mem_append_right _ (List.mem_append_right _ (List.mem_append_right _ (List.mem_append_right _ (List.mem_append_right _ (List.mem_append_right _ (List.mem_append_right _ (List.mem_append_right _ (List.mem_append_right _ (List.mem_append_right _ (List.mem_append_right _ (List.mem_append_right _ (List.mem_append_right _ (List.mem_append_right _ (List.mem_append_right _ (List.mem_append_right _ (List.mem_append_right _ (List.mem_append_right _ (List.mem_append_left _ h)))))))))))))))))))))))))))
theorem j_20 : ∀ w ∈ bw_20, w ∈ bw := fun _ h => List.mem_append_right _ (List.mem_append_right _ (List.mem_append_right _ (List.mem_append_right _ (List.mem_append_right _ (List.mem_append_right _ (List.mem_append_right _ (List.mem_append_right _ (List.mem_append_right _ (List.mem_append_right _ (List.mem_append_right _ (List.mem_append_right _ (List.mem_append_right _ (List.mem_append_right _ (List.mem_append_right _ (List.mem_append_right _ (List.mem_append_right _ (List.mem_append_right _ (List.mem_append_right _ (List.mem_append_right _ (List.mem_append_right _ (List.mem_append_right _ (List.mem_append_right _ (List.mem_append_right _ (List.mem_append_right _ (List.mem_append_right _ (List.mem_append_right _ (List.mem_append_right _ (List.mem_append_left _ h))))))))))))))))))))))))))))
theorem j_21 : ∀ w ∈ bw_21, w ∈ bw := fun _ h => List.mem_append_right _ (List.mem_append_right _ (List.mem_append_right _ (List.mem_append_right _ (List.mem_append_right _ (List.mem_append_right _ (List.mem_append_right _ (List.mem_append_right _ (List.mem_append_right _ (List.mem_append_right _ (List.mem_append_right _ (List.mem_append_right _ (List.mem_append_right _ (List.mem_append_right _ (List.mem_append_right _ (List.mem_append_right _ (List.mem_append_right _ (List.mem_append_right _ (List.mem_append_right _ (List.mem_append_right _ (List.mem_append_right _ (List.mem_append_right _ (List.mem_append_right _ (List.mem_append_right _ (List.mem_append_right _ (List.mem_append_right _ (List.mem_append_right _ (List.mem_append_right _ (List.mem_append_right _ (List.mem_append_left _ h)))))))))))))))))))))))))))))
theorem j_22 : ∀ w ∈ bw_22, w ∈ bw := fun _ h => List.mem_append_right _ (List.mem_append_right _ (List.mem_append_right _ (List.mem_append_right _ (List.mem_append_right _ (List.mem_append_right _ (List.mem_append_right _ (List.mem_append_right _ (List.mem_append_right _ (List.mem_append_right _ (List.mem_append_right _ (List.mem_append_right _ (List.mem_append_right _ (List.mem_append_right _ (List.mem_append_right _ (List.mem_append_right _ (List.mem_append_right _ (List.mem_append_right _ (List.mem_append_right _ (List.mem_append_right _ (List.mem_append_right _ (List.mem_append_right _ (List.mem_append_right _ (List.mem_append_right _ (List.mem_append_right _ (List.mem_append_right _ (List.mem_append_right _ (List.mem_append_right _ (List.mem_append_right _ (List.mem_append_right _ (h))))))))))))))))))))))))))))))
theorem w_0 : Cond.initialized "ObjectForgeLaw" ∈ bw := j_0 _ (List.mem_of_getElem? (i := 0) rfl)
theorem w_1 : Cond.initialized "ObjectForge" ∈ bw := j_0 _ (List.mem_of_getElem? (i := 1) rfl)
theorem w_2 : Cond.initialized "ObjectForge$Assembler" ∈ bw := j_0 _ (List.mem_of_getElem? (i := 2) rfl)
theorem w_3 : Cond.initialized "ObjectForge$Source" ∈ bw := j_0 _ (List.mem_of_getElem? (i := 3) rfl)
theorem w_4 : Cond.initialized "ObjectForge$Unit" ∈ bw := j_0 _ (List.mem_of_getElem? (i := 4) rfl)
theorem w_5 : Cond.initialized "ObjectForge$Symbols" ∈ bw := j_0 _ (List.mem_of_getElem? (i := 5) rfl)
theorem w_6 : Cond.initialized "ObjectForge$Relocations" ∈ bw := j_0 _ (List.mem_of_getElem? (i := 6) rfl)
theorem w_7 : Cond.initialized "ObjectForge$Linker" ∈ bw := j_0 _ (List.mem_of_getElem? (i := 7) rfl)
theorem w_8 : Cond.initialized "ObjectForgeModel" ∈ bw := j_0 _ (List.mem_of_getElem? (i := 8) rfl)
theorem w_9 : Cond.initialized "java/lang/Throwable" ∈ bw := j_0 _ (List.mem_of_getElem? (i := 9) rfl)
theorem w_10 : Cond.initialized "java/lang/Exception" ∈ bw := j_0 _ (List.mem_of_getElem? (i := 10) rfl)
theorem w_11 : Cond.initialized "java/lang/RuntimeException" ∈ bw := j_0 _ (List.mem_of_getElem? (i := 11) rfl)
theorem w_12 : Cond.initialized "java/lang/IllegalStateException" ∈ bw := j_0 _ (List.mem_of_getElem? (i := 12) rfl)
theorem w_13 : Cond.initialized "java/lang/IllegalArgumentException" ∈ bw := j_0 _ (List.mem_of_getElem? (i := 13) rfl)
theorem w_14 : Cond.initialized "java/util/Arrays" ∈ bw := j_0 _ (List.mem_of_getElem? (i := 14) rfl)
theorem w_15 : Cond.initialized "java/lang/IndexOutOfBoundsException" ∈ bw := j_0 _ (List.mem_of_getElem? (i := 15) rfl)
theorem w_16 : Cond.classLink "ObjectForgeLaw" 8 "ObjectForge" ∈ bw := j_0 _ (List.mem_of_getElem? (i := 16) rfl)
theorem w_17 : Cond.instantiable "ObjectForge" 4 ∈ bw := j_0 _ (List.mem_of_getElem? (i := 17) rfl)
theorem w_18 : Cond.methodLink "ObjectForgeLaw" 59 y_OF_init ∈ bw := j_0 _ (List.mem_of_getElem? (i := 18) rfl)
theorem w_19 : Cond.instanceMethod y_OF_init ∈ bw := j_0 _ (List.mem_of_getElem? (i := 19) rfl)
theorem w_20 : Cond.code y_OF_init prog_1_method_1_code 2 none ∈ bw := j_0 _ (List.mem_of_getElem? (i := 20) rfl)
theorem w_21 : Cond.methodLink "ObjectForge" 1 ⟨"java/lang/Object", "<init>", "()V"⟩ ∈ bw := j_0 _ (List.mem_of_getElem? (i := 21) rfl)
theorem w_22 : Cond.instanceMethod ⟨"java/lang/Object", "<init>", "()V"⟩ ∈ bw := j_0 _ (List.mem_of_getElem? (i := 22) rfl)
theorem w_23 : Cond.code ⟨"java/lang/Object", "<init>", "()V"⟩ object_method_1_code 1 none ∈ bw := j_0 _ (List.mem_of_getElem? (i := 23) rfl)
theorem w_24 : Cond.classLink "ObjectForge" 7 "ObjectForge$Assembler" ∈ bw := j_0 _ (List.mem_of_getElem? (i := 24) rfl)
theorem w_25 : Cond.instantiable "ObjectForge$Assembler" 15 ∈ bw := j_1 _ (List.mem_of_getElem? (i := 0) rfl)
theorem w_26 : Cond.instanceMethod y_As_init ∈ bw := j_1 _ (List.mem_of_getElem? (i := 1) rfl)
theorem w_27 : Cond.code y_As_init prog_2_method_1_code 1 none ∈ bw := j_1 _ (List.mem_of_getElem? (i := 2) rfl)
theorem w_28 : Cond.methodLink "ObjectForge$Assembler" 3 ⟨"java/lang/Object", "<init>", "()V"⟩ ∈ bw := j_1 _ (List.mem_of_getElem? (i := 3) rfl)
theorem w_29 : Cond.classLink "ObjectForge$Assembler" 9 "ObjectForge$Source" ∈ bw := j_1 _ (List.mem_of_getElem? (i := 4) rfl)
theorem w_30 : Cond.instantiable "ObjectForge$Source" 7 ∈ bw := j_1 _ (List.mem_of_getElem? (i := 5) rfl)
theorem w_31 : Cond.instanceMethod y_So_init ∈ bw := j_1 _ (List.mem_of_getElem? (i := 6) rfl)
theorem w_32 : Cond.code y_So_init prog_7_method_1_code 1 none ∈ bw := j_1 _ (List.mem_of_getElem? (i := 7) rfl)
theorem w_33 : Cond.methodLink "ObjectForge$Source" 3 ⟨"java/lang/Object", "<init>", "()V"⟩ ∈ bw := j_1 _ (List.mem_of_getElem? (i := 8) rfl)
theorem w_34 : Cond.fieldLink "ObjectForge$Source" 9 "ObjectForge$Source" "bytes" "[B" ∈ bw := j_1 _ (List.mem_of_getElem? (i := 9) rfl)
theorem w_35 : Cond.fieldLink "ObjectForge$Source" 15 "ObjectForge$Source" "length" "I" ∈ bw := j_1 _ (List.mem_of_getElem? (i := 10) rfl)
theorem w_36 : Cond.fieldLink "ObjectForge" 38 "ObjectForge$Source" "length" "I" ∈ bw := j_1 _ (List.mem_of_getElem? (i := 11) rfl)
theorem w_37 : Cond.fieldLink "ObjectForge$Source" 19 "ObjectForge$Source" "kinds" "[I" ∈ bw := j_1 _ (List.mem_of_getElem? (i := 12) rfl)
theorem w_38 : Cond.fieldLink "ObjectForge$Source" 23 "ObjectForge$Source" "starts" "[I" ∈ bw := j_1 _ (List.mem_of_getElem? (i := 13) rfl)
theorem w_39 : Cond.fieldLink "ObjectForge$Source" 26 "ObjectForge$Source" "values" "[I" ∈ bw := j_1 _ (List.mem_of_getElem? (i := 14) rfl)
theorem w_40 : Cond.fieldLink "ObjectForge$Source" 29 "ObjectForge$Source" "tokens" "I" ∈ bw := j_1 _ (List.mem_of_getElem? (i := 15) rfl)
theorem w_41 : Cond.fieldLink "ObjectForge$Source" 32 "ObjectForge$Source" "lineEnd" "I" ∈ bw := j_1 _ (List.mem_of_getElem? (i := 16) rfl)
theorem w_42 : Cond.arrayClass FieldType.byte ∈ bw := j_1 _ (List.mem_of_getElem? (i := 17) rfl)
theorem w_43 : Cond.arrayClass FieldType.int ∈ bw := j_1 _ (List.mem_of_getElem? (i := 18) rfl)
theorem w_44 : Cond.classLink "ObjectForge$Assembler" 18 "ObjectForge$Unit" ∈ bw := j_1 _ (List.mem_of_getElem? (i := 19) rfl)
theorem w_45 : Cond.instantiable "ObjectForge$Unit" 5 ∈ bw := j_1 _ (List.mem_of_getElem? (i := 20) rfl)
theorem w_46 : Cond.instanceMethod y_Un_init ∈ bw := j_1 _ (List.mem_of_getElem? (i := 21) rfl)
theorem w_47 : Cond.code y_Un_init prog_9_method_1_code 1 none ∈ bw := j_1 _ (List.mem_of_getElem? (i := 22) rfl)
theorem w_48 : Cond.methodLink "ObjectForge$Unit" 3 ⟨"java/lang/Object", "<init>", "()V"⟩ ∈ bw := j_1 _ (List.mem_of_getElem? (i := 23) rfl)
theorem w_49 : Cond.classLink "ObjectForge$Unit" 9 "[[B" ∈ bw := j_1 _ (List.mem_of_getElem? (i := 24) rfl)
theorem w_50 : Cond.classLink "ObjectForge$Unit" 23 "ObjectForge$Symbols" ∈ bw := j_2 _ (List.mem_of_getElem? (i := 0) rfl)
theorem w_51 : Cond.instantiable "ObjectForge$Symbols" 8 ∈ bw := j_2 _ (List.mem_of_getElem? (i := 1) rfl)
theorem w_52 : Cond.instanceMethod y_Sy_init ∈ bw := j_2 _ (List.mem_of_getElem? (i := 2) rfl)
theorem w_53 : Cond.code y_Sy_init prog_8_method_1_code 1 none ∈ bw := j_2 _ (List.mem_of_getElem? (i := 3) rfl)
theorem w_54 : Cond.methodLink "ObjectForge$Symbols" 3 ⟨"java/lang/Object", "<init>", "()V"⟩ ∈ bw := j_2 _ (List.mem_of_getElem? (i := 4) rfl)
theorem w_55 : Cond.fieldLink "ObjectForge$Symbols" 9 "ObjectForge$Symbols" "names" "[B" ∈ bw := j_2 _ (List.mem_of_getElem? (i := 5) rfl)
theorem w_56 : Cond.fieldLink "ObjectForge" 127 "ObjectForge$Symbols" "names" "[B" ∈ bw := j_2 _ (List.mem_of_getElem? (i := 6) rfl)
theorem w_57 : Cond.fieldLink "ObjectForge$Symbols" 15 "ObjectForge$Symbols" "lengths" "[I" ∈ bw := j_2 _ (List.mem_of_getElem? (i := 7) rfl)
theorem w_58 : Cond.fieldLink "ObjectForge" 122 "ObjectForge$Symbols" "lengths" "[I" ∈ bw := j_2 _ (List.mem_of_getElem? (i := 8) rfl)
theorem w_59 : Cond.fieldLink "ObjectForge$Symbols" 19 "ObjectForge$Symbols" "sections" "[I" ∈ bw := j_2 _ (List.mem_of_getElem? (i := 9) rfl)
theorem w_60 : Cond.fieldLink "ObjectForge$Assembler" 93 "ObjectForge$Symbols" "sections" "[I" ∈ bw := j_2 _ (List.mem_of_getElem? (i := 10) rfl)
theorem w_61 : Cond.fieldLink "ObjectForge" 112 "ObjectForge$Symbols" "sections" "[I" ∈ bw := j_2 _ (List.mem_of_getElem? (i := 11) rfl)
theorem w_62 : Cond.fieldLink "ObjectForge$Symbols" 22 "ObjectForge$Symbols" "values" "[I" ∈ bw := j_2 _ (List.mem_of_getElem? (i := 12) rfl)
theorem w_63 : Cond.fieldLink "ObjectForge$Assembler" 99 "ObjectForge$Symbols" "values" "[I" ∈ bw := j_2 _ (List.mem_of_getElem? (i := 13) rfl)
theorem w_64 : Cond.fieldLink "ObjectForge" 115 "ObjectForge$Symbols" "values" "[I" ∈ bw := j_2 _ (List.mem_of_getElem? (i := 14) rfl)
theorem w_65 : Cond.fieldLink "ObjectForge$Symbols" 25 "ObjectForge$Symbols" "globals" "[Z" ∈ bw := j_2 _ (List.mem_of_getElem? (i := 15) rfl)
theorem w_66 : Cond.fieldLink "ObjectForge" 118 "ObjectForge$Symbols" "globals" "[Z" ∈ bw := j_2 _ (List.mem_of_getElem? (i := 16) rfl)
theorem w_67 : Cond.fieldLink "ObjectForge$Symbols" 29 "ObjectForge$Symbols" "addresses" "[I" ∈ bw := j_2 _ (List.mem_of_getElem? (i := 17) rfl)
theorem w_68 : Cond.fieldLink "ObjectForge" 173 "ObjectForge$Symbols" "addresses" "[I" ∈ bw := j_2 _ (List.mem_of_getElem? (i := 18) rfl)
theorem w_69 : Cond.fieldLink "ObjectForge$Symbols" 32 "ObjectForge$Symbols" "sums" "[I" ∈ bw := j_2 _ (List.mem_of_getElem? (i := 19) rfl)
theorem w_70 : Cond.fieldLink "ObjectForge$Symbols" 35 "ObjectForge$Symbols" "number" "I" ∈ bw := j_2 _ (List.mem_of_getElem? (i := 20) rfl)
theorem w_71 : Cond.fieldLink "ObjectForge$Unit" 43 "ObjectForge$Symbols" "number" "I" ∈ bw := j_2 _ (List.mem_of_getElem? (i := 21) rfl)
theorem w_72 : Cond.fieldLink "ObjectForge" 107 "ObjectForge$Symbols" "number" "I" ∈ bw := j_2 _ (List.mem_of_getElem? (i := 22) rfl)
theorem w_73 : Cond.fieldLink "ObjectForge$Assembler" 333 "ObjectForge$Symbols" "number" "I" ∈ bw := j_2 _ (List.mem_of_getElem? (i := 23) rfl)
theorem w_74 : Cond.arrayClass FieldType.boolean ∈ bw := j_2 _ (List.mem_of_getElem? (i := 24) rfl)
theorem w_75 : Cond.classLink "ObjectForge$Unit" 30 "ObjectForge$Relocations" ∈ bw := j_3 _ (List.mem_of_getElem? (i := 0) rfl)
theorem w_76 : Cond.instantiable "ObjectForge$Relocations" 7 ∈ bw := j_3 _ (List.mem_of_getElem? (i := 1) rfl)
theorem w_77 : Cond.instanceMethod y_Re_init ∈ bw := j_3 _ (List.mem_of_getElem? (i := 2) rfl)
theorem w_78 : Cond.code y_Re_init prog_6_method_1_code 1 none ∈ bw := j_3 _ (List.mem_of_getElem? (i := 3) rfl)
theorem w_79 : Cond.methodLink "ObjectForge$Relocations" 3 ⟨"java/lang/Object", "<init>", "()V"⟩ ∈ bw := j_3 _ (List.mem_of_getElem? (i := 4) rfl)
theorem w_80 : Cond.fieldLink "ObjectForge$Relocations" 9 "ObjectForge$Relocations" "sections" "[I" ∈ bw := j_3 _ (List.mem_of_getElem? (i := 5) rfl)
theorem w_81 : Cond.fieldLink "ObjectForge" 138 "ObjectForge$Relocations" "sections" "[I" ∈ bw := j_3 _ (List.mem_of_getElem? (i := 6) rfl)
theorem w_82 : Cond.fieldLink "ObjectForge$Relocations" 15 "ObjectForge$Relocations" "places" "[I" ∈ bw := j_3 _ (List.mem_of_getElem? (i := 7) rfl)
theorem w_83 : Cond.fieldLink "ObjectForge" 139 "ObjectForge$Relocations" "places" "[I" ∈ bw := j_3 _ (List.mem_of_getElem? (i := 8) rfl)
theorem w_84 : Cond.fieldLink "ObjectForge$Assembler" 314 "ObjectForge$Relocations" "places" "[I" ∈ bw := j_3 _ (List.mem_of_getElem? (i := 9) rfl)
theorem w_85 : Cond.fieldLink "ObjectForge$Relocations" 18 "ObjectForge$Relocations" "kinds" "[I" ∈ bw := j_3 _ (List.mem_of_getElem? (i := 10) rfl)
theorem w_86 : Cond.fieldLink "ObjectForge" 142 "ObjectForge$Relocations" "kinds" "[I" ∈ bw := j_3 _ (List.mem_of_getElem? (i := 11) rfl)
theorem w_87 : Cond.fieldLink "ObjectForge$Assembler" 317 "ObjectForge$Relocations" "kinds" "[I" ∈ bw := j_3 _ (List.mem_of_getElem? (i := 12) rfl)
theorem w_88 : Cond.fieldLink "ObjectForge$Relocations" 21 "ObjectForge$Relocations" "symbols" "[I" ∈ bw := j_3 _ (List.mem_of_getElem? (i := 13) rfl)
theorem w_89 : Cond.fieldLink "ObjectForge" 145 "ObjectForge$Relocations" "symbols" "[I" ∈ bw := j_3 _ (List.mem_of_getElem? (i := 14) rfl)
theorem w_90 : Cond.fieldLink "ObjectForge$Assembler" 320 "ObjectForge$Relocations" "symbols" "[I" ∈ bw := j_3 _ (List.mem_of_getElem? (i := 15) rfl)
theorem w_91 : Cond.fieldLink "ObjectForge$Relocations" 24 "ObjectForge$Relocations" "addends" "[J" ∈ bw := j_3 _ (List.mem_of_getElem? (i := 16) rfl)
theorem w_92 : Cond.fieldLink "ObjectForge" 147 "ObjectForge$Relocations" "addends" "[J" ∈ bw := j_3 _ (List.mem_of_getElem? (i := 17) rfl)
theorem w_93 : Cond.fieldLink "ObjectForge$Assembler" 322 "ObjectForge$Relocations" "addends" "[J" ∈ bw := j_3 _ (List.mem_of_getElem? (i := 18) rfl)
theorem w_94 : Cond.fieldLink "ObjectForge$Relocations" 28 "ObjectForge$Relocations" "lines" "[I" ∈ bw := j_3 _ (List.mem_of_getElem? (i := 19) rfl)
theorem w_95 : Cond.fieldLink "ObjectForge$Assembler" 326 "ObjectForge$Relocations" "lines" "[I" ∈ bw := j_3 _ (List.mem_of_getElem? (i := 20) rfl)
theorem w_96 : Cond.fieldLink "ObjectForge$Relocations" 31 "ObjectForge$Relocations" "number" "I" ∈ bw := j_3 _ (List.mem_of_getElem? (i := 21) rfl)
theorem w_97 : Cond.fieldLink "ObjectForge$Unit" 47 "ObjectForge$Relocations" "number" "I" ∈ bw := j_3 _ (List.mem_of_getElem? (i := 22) rfl)
theorem w_98 : Cond.fieldLink "ObjectForge" 135 "ObjectForge$Relocations" "number" "I" ∈ bw := j_3 _ (List.mem_of_getElem? (i := 23) rfl)
theorem w_99 : Cond.fieldLink "ObjectForge$Assembler" 309 "ObjectForge$Relocations" "number" "I" ∈ bw := j_3 _ (List.mem_of_getElem? (i := 24) rfl)
theorem w_100 : Cond.arrayClass FieldType.long ∈ bw := j_4 _ (List.mem_of_getElem? (i := 0) rfl)
theorem w_101 : Cond.fieldLink "ObjectForge$Unit" 11 "ObjectForge$Unit" "bytes" "[[B" ∈ bw := j_4 _ (List.mem_of_getElem? (i := 1) rfl)
theorem w_102 : Cond.fieldLink "ObjectForge" 99 "ObjectForge$Unit" "bytes" "[[B" ∈ bw := j_4 _ (List.mem_of_getElem? (i := 2) rfl)
theorem w_103 : Cond.fieldLink "ObjectForge$Unit" 16 "ObjectForge$Unit" "sizes" "[I" ∈ bw := j_4 _ (List.mem_of_getElem? (i := 3) rfl)
theorem w_104 : Cond.fieldLink "ObjectForge$Assembler" 102 "ObjectForge$Unit" "sizes" "[I" ∈ bw := j_4 _ (List.mem_of_getElem? (i := 4) rfl)
theorem w_105 : Cond.fieldLink "ObjectForge" 95 "ObjectForge$Unit" "sizes" "[I" ∈ bw := j_4 _ (List.mem_of_getElem? (i := 5) rfl)
theorem w_106 : Cond.fieldLink "ObjectForge$Unit" 20 "ObjectForge$Unit" "starts" "[I" ∈ bw := j_4 _ (List.mem_of_getElem? (i := 6) rfl)
theorem w_107 : Cond.fieldLink "ObjectForge$Unit" 26 "ObjectForge$Unit" "symbols" "LObjectForge$Symbols;" ∈ bw := j_4 _ (List.mem_of_getElem? (i := 7) rfl)
theorem w_108 : Cond.fieldLink "ObjectForge$Assembler" 89 "ObjectForge$Unit" "symbols" "LObjectForge$Symbols;" ∈ bw := j_4 _ (List.mem_of_getElem? (i := 8) rfl)
theorem w_109 : Cond.fieldLink "ObjectForge" 103 "ObjectForge$Unit" "symbols" "LObjectForge$Symbols;" ∈ bw := j_4 _ (List.mem_of_getElem? (i := 9) rfl)
theorem w_110 : Cond.fieldLink "ObjectForge$Unit" 33 "ObjectForge$Unit" "relocations" "LObjectForge$Relocations;" ∈ bw := j_4 _ (List.mem_of_getElem? (i := 10) rfl)
theorem w_111 : Cond.fieldLink "ObjectForge" 131 "ObjectForge$Unit" "relocations" "LObjectForge$Relocations;" ∈ bw := j_4 _ (List.mem_of_getElem? (i := 11) rfl)
theorem w_112 : Cond.fieldLink "ObjectForge$Assembler" 305 "ObjectForge$Unit" "relocations" "LObjectForge$Relocations;" ∈ bw := j_4 _ (List.mem_of_getElem? (i := 12) rfl)
theorem w_113 : Cond.fieldLink "ObjectForge$Assembler" 12 "ObjectForge$Assembler" "source" "LObjectForge$Source;" ∈ bw := j_4 _ (List.mem_of_getElem? (i := 13) rfl)
theorem w_114 : Cond.fieldLink "ObjectForge" 34 "ObjectForge$Assembler" "source" "LObjectForge$Source;" ∈ bw := j_4 _ (List.mem_of_getElem? (i := 14) rfl)
theorem w_115 : Cond.fieldLink "ObjectForge$Assembler" 21 "ObjectForge$Assembler" "draft" "LObjectForge$Unit;" ∈ bw := j_4 _ (List.mem_of_getElem? (i := 15) rfl)
theorem w_116 : Cond.fieldLink "ObjectForge" 65 "ObjectForge$Assembler" "draft" "LObjectForge$Unit;" ∈ bw := j_4 _ (List.mem_of_getElem? (i := 16) rfl)
theorem w_117 : Cond.fieldLink "ObjectForge$Assembler" 25 "ObjectForge$Assembler" "fault" "I" ∈ bw := j_4 _ (List.mem_of_getElem? (i := 17) rfl)
theorem w_118 : Cond.fieldLink "ObjectForge" 69 "ObjectForge$Assembler" "fault" "I" ∈ bw := j_4 _ (List.mem_of_getElem? (i := 18) rfl)
theorem w_119 : Cond.fieldLink "ObjectForge$Assembler" 29 "ObjectForge$Assembler" "faultLine" "I" ∈ bw := j_4 _ (List.mem_of_getElem? (i := 19) rfl)
theorem w_120 : Cond.fieldLink "ObjectForge" 72 "ObjectForge$Assembler" "faultLine" "I" ∈ bw := j_4 _ (List.mem_of_getElem? (i := 20) rfl)
theorem w_121 : Cond.fieldLink "ObjectForge$Assembler" 32 "ObjectForge$Assembler" "line" "I" ∈ bw := j_4 _ (List.mem_of_getElem? (i := 21) rfl)
theorem w_122 : Cond.fieldLink "ObjectForge$Assembler" 35 "ObjectForge$Assembler" "section" "I" ∈ bw := j_4 _ (List.mem_of_getElem? (i := 22) rfl)
theorem w_123 : Cond.fieldLink "ObjectForge$Assembler" 38 "ObjectForge$Assembler" "cursor" "I" ∈ bw := j_4 _ (List.mem_of_getElem? (i := 23) rfl)
theorem w_124 : Cond.fieldLink "ObjectForge$Assembler" 41 "ObjectForge$Assembler" "nameToken" "I" ∈ bw := j_4 _ (List.mem_of_getElem? (i := 24) rfl)
theorem w_125 : Cond.fieldLink "ObjectForge$Assembler" 44 "ObjectForge$Assembler" "number" "J" ∈ bw := j_5 _ (List.mem_of_getElem? (i := 0) rfl)
theorem w_126 : Cond.fieldLink "ObjectForge$Assembler" 48 "ObjectForge$Assembler" "half" "I" ∈ bw := j_5 _ (List.mem_of_getElem? (i := 1) rfl)
theorem w_127 : Cond.fieldLink "ObjectForge$Assembler" 51 "ObjectForge$Assembler" "sources" "I" ∈ bw := j_5 _ (List.mem_of_getElem? (i := 2) rfl)
theorem w_128 : Cond.fieldLink "ObjectForge$Assembler" 54 "ObjectForge$Assembler" "others" "I" ∈ bw := j_5 _ (List.mem_of_getElem? (i := 3) rfl)
theorem w_129 : Cond.fieldLink "ObjectForge$Assembler" 57 "ObjectForge$Assembler" "reference" "I" ∈ bw := j_5 _ (List.mem_of_getElem? (i := 4) rfl)
theorem w_130 : Cond.fieldLink "ObjectForge$Assembler" 60 "ObjectForge$Assembler" "upperHolder" "I" ∈ bw := j_5 _ (List.mem_of_getElem? (i := 5) rfl)
theorem w_131 : Cond.fieldLink "ObjectForge$Assembler" 63 "ObjectForge$Assembler" "symbolNumber" "I" ∈ bw := j_5 _ (List.mem_of_getElem? (i := 6) rfl)
theorem w_132 : Cond.classLink "ObjectForge" 16 "ObjectForge$Linker" ∈ bw := j_5 _ (List.mem_of_getElem? (i := 7) rfl)
theorem w_133 : Cond.instantiable "ObjectForge$Linker" 7 ∈ bw := j_5 _ (List.mem_of_getElem? (i := 8) rfl)
theorem w_134 : Cond.instanceMethod y_Li_init ∈ bw := j_5 _ (List.mem_of_getElem? (i := 9) rfl)
theorem w_135 : Cond.code y_Li_init prog_4_method_1_code 1 none ∈ bw := j_5 _ (List.mem_of_getElem? (i := 10) rfl)
theorem w_136 : Cond.methodLink "ObjectForge$Linker" 3 ⟨"java/lang/Object", "<init>", "()V"⟩ ∈ bw := j_5 _ (List.mem_of_getElem? (i := 11) rfl)
theorem w_137 : Cond.constant "ObjectForge$Linker" 9 (32768 : Int32) ∈ bw := j_5 _ (List.mem_of_getElem? (i := 12) rfl)
theorem w_138 : Cond.fieldLink "ObjectForge$Linker" 10 "ObjectForge$Linker" "image" "[B" ∈ bw := j_5 _ (List.mem_of_getElem? (i := 13) rfl)
theorem w_139 : Cond.fieldLink "ObjectForge$Linker" 16 "ObjectForge$Linker" "base" "I" ∈ bw := j_5 _ (List.mem_of_getElem? (i := 14) rfl)
theorem w_140 : Cond.fieldLink "ObjectForge$Linker" 20 "ObjectForge$Linker" "imageSize" "I" ∈ bw := j_5 _ (List.mem_of_getElem? (i := 15) rfl)
theorem w_141 : Cond.fieldLink "ObjectForge$Linker" 23 "ObjectForge$Linker" "joined" "I" ∈ bw := j_5 _ (List.mem_of_getElem? (i := 16) rfl)
theorem w_142 : Cond.fieldLink "ObjectForge" 168 "ObjectForge$Linker" "joined" "I" ∈ bw := j_5 _ (List.mem_of_getElem? (i := 17) rfl)
theorem w_143 : Cond.fieldLink "ObjectForge$Linker" 26 "ObjectForge$Linker" "fault" "I" ∈ bw := j_5 _ (List.mem_of_getElem? (i := 18) rfl)
theorem w_144 : Cond.fieldLink "ObjectForge" 75 "ObjectForge$Linker" "fault" "I" ∈ bw := j_5 _ (List.mem_of_getElem? (i := 19) rfl)
theorem w_145 : Cond.fieldLink "ObjectForge$Linker" 29 "ObjectForge$Linker" "faultObject" "I" ∈ bw := j_5 _ (List.mem_of_getElem? (i := 20) rfl)
theorem w_146 : Cond.fieldLink "ObjectForge" 76 "ObjectForge$Linker" "faultObject" "I" ∈ bw := j_5 _ (List.mem_of_getElem? (i := 21) rfl)
theorem w_147 : Cond.fieldLink "ObjectForge$Linker" 32 "ObjectForge$Linker" "faultItem" "I" ∈ bw := j_5 _ (List.mem_of_getElem? (i := 22) rfl)
theorem w_148 : Cond.fieldLink "ObjectForge" 79 "ObjectForge$Linker" "faultItem" "I" ∈ bw := j_5 _ (List.mem_of_getElem? (i := 23) rfl)
theorem w_149 : Cond.classLink "ObjectForge" 23 "ObjectForge$Unit" ∈ bw := j_5 _ (List.mem_of_getElem? (i := 24) rfl)
theorem w_150 : Cond.fieldLink "ObjectForge" 10 "ObjectForge" "assembler" "LObjectForge$Assembler;" ∈ bw := j_6 _ (List.mem_of_getElem? (i := 0) rfl)
theorem w_151 : Cond.fieldLink "ObjectForge" 19 "ObjectForge" "linker" "LObjectForge$Linker;" ∈ bw := j_6 _ (List.mem_of_getElem? (i := 1) rfl)
theorem w_152 : Cond.fieldLink "ObjectForge" 25 "ObjectForge" "units" "[LObjectForge$Unit;" ∈ bw := j_6 _ (List.mem_of_getElem? (i := 2) rfl)
theorem w_153 : Cond.fieldLink "ObjectForge" 29 "ObjectForge" "unitCount" "I" ∈ bw := j_6 _ (List.mem_of_getElem? (i := 3) rfl)
theorem w_154 : Cond.methodLink "ObjectForgeLaw" 109 y_OF_clear ∈ bw := j_6 _ (List.mem_of_getElem? (i := 4) rfl)
theorem w_155 : Cond.instanceMethod y_OF_clear ∈ bw := j_6 _ (List.mem_of_getElem? (i := 5) rfl)
theorem w_156 : Cond.selects "ObjectForge" y_OF_clear y_OF_clear ∈ bw := j_6 _ (List.mem_of_getElem? (i := 6) rfl)
theorem w_157 : Cond.code y_OF_clear prog_1_method_14_code 2 (some FieldType.int) ∈ bw := j_6 _ (List.mem_of_getElem? (i := 7) rfl)
theorem w_158 : Cond.methodLink "ObjectForge" 176 y_Li_dropImage ∈ bw := j_6 _ (List.mem_of_getElem? (i := 8) rfl)
theorem w_159 : Cond.instanceMethod y_Li_dropImage ∈ bw := j_6 _ (List.mem_of_getElem? (i := 9) rfl)
theorem w_160 : Cond.selects "ObjectForge$Linker" y_Li_dropImage y_Li_dropImage ∈ bw := j_6 _ (List.mem_of_getElem? (i := 10) rfl)
theorem w_161 : Cond.code y_Li_dropImage prog_4_method_2_code 1 none ∈ bw := j_6 _ (List.mem_of_getElem? (i := 11) rfl)
theorem w_162 : Cond.methodLink "ObjectForgeLaw" 63 y_La_feed ∈ bw := j_6 _ (List.mem_of_getElem? (i := 12) rfl)
theorem w_163 : Cond.static y_La_feed ∈ bw := j_6 _ (List.mem_of_getElem? (i := 13) rfl)
theorem w_164 : Cond.codeWith y_La_feed method_3_code 7 (some FieldType.int) [(0, 14, 17, 13)] ∈ bw := j_6 _ (List.mem_of_getElem? (i := 14) rfl)
theorem w_165 : Cond.classLink "ObjectForgeLaw" 13 "java/lang/IllegalStateException" ∈ bw := j_6 _ (List.mem_of_getElem? (i := 15) rfl)
theorem w_166 : Cond.methodLink "ObjectForgeLaw" 7 y_OF_feed ∈ bw := j_6 _ (List.mem_of_getElem? (i := 16) rfl)
theorem w_167 : Cond.instanceMethod y_OF_feed ∈ bw := j_6 _ (List.mem_of_getElem? (i := 17) rfl)
theorem w_168 : Cond.selects "ObjectForge" y_OF_feed y_OF_feed ∈ bw := j_6 _ (List.mem_of_getElem? (i := 18) rfl)
theorem w_169 : Cond.code y_OF_feed prog_1_method_2_code 6 (some FieldType.int) ∈ bw := j_6 _ (List.mem_of_getElem? (i := 19) rfl)
theorem w_170 : Cond.classLink "ObjectForge" 43 "java/lang/IllegalStateException" ∈ bw := j_6 _ (List.mem_of_getElem? (i := 20) rfl)
theorem w_171 : Cond.instantiable "java/lang/IllegalStateException" 6 ∈ bw := j_6 _ (List.mem_of_getElem? (i := 21) rfl)
theorem w_172 : Cond.selects "java/lang/IllegalStateException" ⟨"java/lang/Throwable", "fillInStackTrace", "(I)Ljava/lang/Throwable;"⟩ ⟨"java/lang/Throwable", "fillInStackTrace", "(I)Ljava/lang/Throwable;"⟩ ∈ bw := j_6 _ (List.mem_of_getElem? (i := 22) rfl)
theorem w_173 : Cond.selects "java/lang/IllegalStateException" ⟨"java/lang/Throwable", "fillInStackTrace", "()Ljava/lang/Throwable;"⟩ ⟨"java/lang/Throwable", "fillInStackTrace", "()Ljava/lang/Throwable;"⟩ ∈ bw := j_6 _ (List.mem_of_getElem? (i := 23) rfl)
theorem w_174 : Cond.lays "java/lang/IllegalStateException" "java/lang/Throwable" "cause" "Ljava/lang/Throwable;" ∈ bw := j_6 _ (List.mem_of_getElem? (i := 24) rfl)
theorem w_175 : Cond.lays "java/lang/Throwable" "java/lang/Throwable" "cause" "Ljava/lang/Throwable;" ∈ bw := j_7 _ (List.mem_of_getElem? (i := 0) rfl)
theorem w_176 : Cond.lays "java/lang/IllegalStateException" "java/lang/Throwable" "stackTrace" "[Ljava/lang/StackTraceElement;" ∈ bw := j_7 _ (List.mem_of_getElem? (i := 1) rfl)
theorem w_177 : Cond.lays "java/lang/Throwable" "java/lang/Throwable" "stackTrace" "[Ljava/lang/StackTraceElement;" ∈ bw := j_7 _ (List.mem_of_getElem? (i := 2) rfl)
theorem w_178 : Cond.lays "java/lang/IllegalStateException" "java/lang/Throwable" "suppressedExceptions" "Ljava/util/List;" ∈ bw := j_7 _ (List.mem_of_getElem? (i := 3) rfl)
theorem w_179 : Cond.lays "java/lang/Throwable" "java/lang/Throwable" "suppressedExceptions" "Ljava/util/List;" ∈ bw := j_7 _ (List.mem_of_getElem? (i := 4) rfl)
theorem w_180 : Cond.lays "java/lang/IllegalStateException" "java/lang/Throwable" "detailMessage" "Ljava/lang/String;" ∈ bw := j_7 _ (List.mem_of_getElem? (i := 5) rfl)
theorem w_181 : Cond.lays "java/lang/Throwable" "java/lang/Throwable" "detailMessage" "Ljava/lang/String;" ∈ bw := j_7 _ (List.mem_of_getElem? (i := 6) rfl)
theorem w_182 : Cond.lays "java/lang/IllegalStateException" "java/lang/Throwable" "backtrace" "Ljava/lang/Object;" ∈ bw := j_7 _ (List.mem_of_getElem? (i := 7) rfl)
theorem w_183 : Cond.lays "java/lang/Throwable" "java/lang/Throwable" "backtrace" "Ljava/lang/Object;" ∈ bw := j_7 _ (List.mem_of_getElem? (i := 8) rfl)
theorem w_184 : Cond.fieldLink "java/lang/Throwable" 198 "java/lang/Throwable" "backtrace" "Ljava/lang/Object;" ∈ bw := j_7 _ (List.mem_of_getElem? (i := 9) rfl)
theorem w_185 : Cond.superclass "java/lang/Throwable" "java/lang/Object" ∈ bw := j_7 _ (List.mem_of_getElem? (i := 10) rfl)
theorem w_186 : Cond.instanceMethod ⟨"java/lang/Throwable", "<init>", "()V"⟩ ∈ bw := j_7 _ (List.mem_of_getElem? (i := 11) rfl)
theorem w_187 : Cond.code ⟨"java/lang/Throwable", "<init>", "()V"⟩ prog_29_method_1_code 1 none ∈ bw := j_7 _ (List.mem_of_getElem? (i := 12) rfl)
theorem w_188 : Cond.methodLink "java/lang/Throwable" 1 ⟨"java/lang/Object", "<init>", "()V"⟩ ∈ bw := j_7 _ (List.mem_of_getElem? (i := 13) rfl)
theorem w_189 : Cond.fieldLink "java/lang/Throwable" 13 "java/lang/Throwable" "UNASSIGNED_STACK" "[Ljava/lang/StackTraceElement;" ∈ bw := j_7 _ (List.mem_of_getElem? (i := 14) rfl)
theorem w_190 : Cond.fieldLink "java/lang/Throwable" 20 "java/lang/Throwable" "SUPPRESSED_SENTINEL" "Ljava/util/List;" ∈ bw := j_7 _ (List.mem_of_getElem? (i := 15) rfl)
theorem w_191 : Cond.methodLink "java/lang/Throwable" 27 ⟨"java/lang/Throwable", "fillInStackTrace", "()Ljava/lang/Throwable;"⟩ ∈ bw := j_7 _ (List.mem_of_getElem? (i := 16) rfl)
theorem w_192 : Cond.instanceMethod ⟨"java/lang/Throwable", "fillInStackTrace", "()Ljava/lang/Throwable;"⟩ ∈ bw := j_7 _ (List.mem_of_getElem? (i := 17) rfl)
theorem w_193 : Cond.selects "java/lang/IllegalArgumentException" ⟨"java/lang/Throwable", "fillInStackTrace", "()Ljava/lang/Throwable;"⟩ ⟨"java/lang/Throwable", "fillInStackTrace", "()Ljava/lang/Throwable;"⟩ ∈ bw := j_7 _ (List.mem_of_getElem? (i := 18) rfl)
theorem w_194 : Cond.selects "java/lang/IndexOutOfBoundsException" ⟨"java/lang/Throwable", "fillInStackTrace", "()Ljava/lang/Throwable;"⟩ ⟨"java/lang/Throwable", "fillInStackTrace", "()Ljava/lang/Throwable;"⟩ ∈ bw := j_7 _ (List.mem_of_getElem? (i := 19) rfl)
theorem w_195 : Cond.codeSync ⟨"java/lang/Throwable", "fillInStackTrace", "()Ljava/lang/Throwable;"⟩ prog_29_method_18_code 1 (some (FieldType.object "java/lang/Throwable")) ∈ bw := j_7 _ (List.mem_of_getElem? (i := 20) rfl)
theorem w_196 : Cond.methodLink "java/lang/Throwable" 202 ⟨"java/lang/Throwable", "fillInStackTrace", "(I)Ljava/lang/Throwable;"⟩ ∈ bw := j_7 _ (List.mem_of_getElem? (i := 21) rfl)
theorem w_197 : Cond.instanceMethod ⟨"java/lang/Throwable", "fillInStackTrace", "(I)Ljava/lang/Throwable;"⟩ ∈ bw := j_7 _ (List.mem_of_getElem? (i := 22) rfl)
theorem w_198 : Cond.instantiable "java/lang/Throwable" 6 ∈ bw := j_7 _ (List.mem_of_getElem? (i := 23) rfl)
theorem w_199 : Cond.native ⟨"java/lang/Throwable", "fillInStackTrace", "(I)Ljava/lang/Throwable;"⟩ ∈ bw := j_7 _ (List.mem_of_getElem? (i := 24) rfl)
theorem w_200 : Cond.methodLink "ObjectForge" 47 ⟨"java/lang/IllegalStateException", "<init>", "(Ljava/lang/String;)V"⟩ ∈ bw := j_8 _ (List.mem_of_getElem? (i := 0) rfl)
theorem w_201 : Cond.instanceMethod ⟨"java/lang/IllegalStateException", "<init>", "(Ljava/lang/String;)V"⟩ ∈ bw := j_8 _ (List.mem_of_getElem? (i := 1) rfl)
theorem w_202 : Cond.code ⟨"java/lang/IllegalStateException", "<init>", "(Ljava/lang/String;)V"⟩ prog_19_method_2_code 2 none ∈ bw := j_8 _ (List.mem_of_getElem? (i := 2) rfl)
theorem w_203 : Cond.methodLink "java/lang/IllegalStateException" 7 ⟨"java/lang/RuntimeException", "<init>", "(Ljava/lang/String;)V"⟩ ∈ bw := j_8 _ (List.mem_of_getElem? (i := 3) rfl)
theorem w_204 : Cond.instanceMethod ⟨"java/lang/RuntimeException", "<init>", "(Ljava/lang/String;)V"⟩ ∈ bw := j_8 _ (List.mem_of_getElem? (i := 4) rfl)
theorem w_205 : Cond.code ⟨"java/lang/RuntimeException", "<init>", "(Ljava/lang/String;)V"⟩ prog_23_method_2_code 2 none ∈ bw := j_8 _ (List.mem_of_getElem? (i := 5) rfl)
theorem w_206 : Cond.methodLink "java/lang/RuntimeException" 7 ⟨"java/lang/Exception", "<init>", "(Ljava/lang/String;)V"⟩ ∈ bw := j_8 _ (List.mem_of_getElem? (i := 6) rfl)
theorem w_207 : Cond.instanceMethod ⟨"java/lang/Exception", "<init>", "(Ljava/lang/String;)V"⟩ ∈ bw := j_8 _ (List.mem_of_getElem? (i := 7) rfl)
theorem w_208 : Cond.code ⟨"java/lang/Exception", "<init>", "(Ljava/lang/String;)V"⟩ prog_17_method_2_code 2 none ∈ bw := j_8 _ (List.mem_of_getElem? (i := 8) rfl)
theorem w_209 : Cond.methodLink "java/lang/Exception" 7 ⟨"java/lang/Throwable", "<init>", "(Ljava/lang/String;)V"⟩ ∈ bw := j_8 _ (List.mem_of_getElem? (i := 9) rfl)
theorem w_210 : Cond.instanceMethod ⟨"java/lang/Throwable", "<init>", "(Ljava/lang/String;)V"⟩ ∈ bw := j_8 _ (List.mem_of_getElem? (i := 10) rfl)
theorem w_211 : Cond.code ⟨"java/lang/Throwable", "<init>", "(Ljava/lang/String;)V"⟩ prog_29_method_2_code 2 none ∈ bw := j_8 _ (List.mem_of_getElem? (i := 11) rfl)
theorem w_212 : Cond.fieldLink "java/lang/Throwable" 31 "java/lang/Throwable" "detailMessage" "Ljava/lang/String;" ∈ bw := j_8 _ (List.mem_of_getElem? (i := 12) rfl)
theorem w_213 : Cond.fieldLink "java/lang/Throwable" 7 "java/lang/Throwable" "cause" "Ljava/lang/Throwable;" ∈ bw := j_8 _ (List.mem_of_getElem? (i := 13) rfl)
theorem w_214 : Cond.fieldLink "java/lang/Throwable" 17 "java/lang/Throwable" "stackTrace" "[Ljava/lang/StackTraceElement;" ∈ bw := j_8 _ (List.mem_of_getElem? (i := 14) rfl)
theorem w_215 : Cond.fieldLink "java/lang/Throwable" 24 "java/lang/Throwable" "suppressedExceptions" "Ljava/util/List;" ∈ bw := j_8 _ (List.mem_of_getElem? (i := 15) rfl)
theorem w_216 : Cond.lays "java/lang/IllegalStateException" "java/lang/Throwable" "depth" "I" ∈ bw := j_8 _ (List.mem_of_getElem? (i := 16) rfl)
theorem w_217 : Cond.superclass "java/lang/IllegalStateException" "java/lang/RuntimeException" ∈ bw := j_8 _ (List.mem_of_getElem? (i := 17) rfl)
theorem w_218 : Cond.methodLink "ObjectForge" 50 y_So_appendWord ∈ bw := j_8 _ (List.mem_of_getElem? (i := 18) rfl)
theorem w_219 : Cond.instanceMethod y_So_appendWord ∈ bw := j_8 _ (List.mem_of_getElem? (i := 19) rfl)
theorem w_220 : Cond.selects "ObjectForge$Source" y_So_appendWord y_So_appendWord ∈ bw := j_8 _ (List.mem_of_getElem? (i := 20) rfl)
theorem w_221 : Cond.code y_So_appendWord prog_7_method_2_code 3 none ∈ bw := j_8 _ (List.mem_of_getElem? (i := 21) rfl)
theorem w_222 : Cond.methodLink "ObjectForgeLaw" 72 y_La_end ∈ bw := j_8 _ (List.mem_of_getElem? (i := 22) rfl)
theorem w_223 : Cond.static y_La_end ∈ bw := j_8 _ (List.mem_of_getElem? (i := 23) rfl)
theorem w_224 : Cond.codeWith y_La_end method_4_code 4 (some FieldType.int) [(0, 9, 12, 19)] ∈ bw := j_8 _ (List.mem_of_getElem? (i := 24) rfl)
theorem w_225 : Cond.classLink "ObjectForgeLaw" 19 "java/lang/IllegalArgumentException" ∈ bw := j_9 _ (List.mem_of_getElem? (i := 0) rfl)
theorem w_226 : Cond.methodLink "ObjectForgeLaw" 15 y_OF_end ∈ bw := j_9 _ (List.mem_of_getElem? (i := 1) rfl)
theorem w_227 : Cond.instanceMethod y_OF_end ∈ bw := j_9 _ (List.mem_of_getElem? (i := 2) rfl)
theorem w_228 : Cond.selects "ObjectForge" y_OF_end y_OF_end ∈ bw := j_9 _ (List.mem_of_getElem? (i := 3) rfl)
theorem w_229 : Cond.code y_OF_end prog_1_method_3_code 3 (some FieldType.int) ∈ bw := j_9 _ (List.mem_of_getElem? (i := 4) rfl)
theorem w_230 : Cond.classLink "ObjectForge" 54 "java/lang/IllegalArgumentException" ∈ bw := j_9 _ (List.mem_of_getElem? (i := 5) rfl)
theorem w_231 : Cond.instantiable "java/lang/IllegalArgumentException" 6 ∈ bw := j_9 _ (List.mem_of_getElem? (i := 6) rfl)
theorem w_232 : Cond.selects "java/lang/IllegalArgumentException" ⟨"java/lang/Throwable", "fillInStackTrace", "(I)Ljava/lang/Throwable;"⟩ ⟨"java/lang/Throwable", "fillInStackTrace", "(I)Ljava/lang/Throwable;"⟩ ∈ bw := j_9 _ (List.mem_of_getElem? (i := 7) rfl)
theorem w_233 : Cond.lays "java/lang/IllegalArgumentException" "java/lang/Throwable" "cause" "Ljava/lang/Throwable;" ∈ bw := j_9 _ (List.mem_of_getElem? (i := 8) rfl)
theorem w_234 : Cond.lays "java/lang/IllegalArgumentException" "java/lang/Throwable" "stackTrace" "[Ljava/lang/StackTraceElement;" ∈ bw := j_9 _ (List.mem_of_getElem? (i := 9) rfl)
theorem w_235 : Cond.lays "java/lang/IllegalArgumentException" "java/lang/Throwable" "suppressedExceptions" "Ljava/util/List;" ∈ bw := j_9 _ (List.mem_of_getElem? (i := 10) rfl)
theorem w_236 : Cond.lays "java/lang/IllegalArgumentException" "java/lang/Throwable" "detailMessage" "Ljava/lang/String;" ∈ bw := j_9 _ (List.mem_of_getElem? (i := 11) rfl)
theorem w_237 : Cond.lays "java/lang/IllegalArgumentException" "java/lang/Throwable" "backtrace" "Ljava/lang/Object;" ∈ bw := j_9 _ (List.mem_of_getElem? (i := 12) rfl)
theorem w_238 : Cond.methodLink "ObjectForge" 58 ⟨"java/lang/IllegalArgumentException", "<init>", "(Ljava/lang/String;)V"⟩ ∈ bw := j_9 _ (List.mem_of_getElem? (i := 13) rfl)
theorem w_239 : Cond.instanceMethod ⟨"java/lang/IllegalArgumentException", "<init>", "(Ljava/lang/String;)V"⟩ ∈ bw := j_9 _ (List.mem_of_getElem? (i := 14) rfl)
theorem w_240 : Cond.code ⟨"java/lang/IllegalArgumentException", "<init>", "(Ljava/lang/String;)V"⟩ prog_18_method_2_code 2 none ∈ bw := j_9 _ (List.mem_of_getElem? (i := 15) rfl)
theorem w_241 : Cond.methodLink "java/lang/IllegalArgumentException" 7 ⟨"java/lang/RuntimeException", "<init>", "(Ljava/lang/String;)V"⟩ ∈ bw := j_9 _ (List.mem_of_getElem? (i := 16) rfl)
theorem w_242 : Cond.lays "java/lang/IllegalArgumentException" "java/lang/Throwable" "depth" "I" ∈ bw := j_9 _ (List.mem_of_getElem? (i := 17) rfl)
theorem w_243 : Cond.superclass "java/lang/IllegalArgumentException" "java/lang/RuntimeException" ∈ bw := j_9 _ (List.mem_of_getElem? (i := 18) rfl)
theorem w_244 : Cond.methodLink "ObjectForgeLaw" 76 y_La_assemble ∈ bw := j_9 _ (List.mem_of_getElem? (i := 19) rfl)
theorem w_245 : Cond.static y_La_assemble ∈ bw := j_9 _ (List.mem_of_getElem? (i := 20) rfl)
theorem w_246 : Cond.codeWith y_La_assemble method_5_code 3 (some FieldType.int) [(0, 8, 11, 13)] ∈ bw := j_9 _ (List.mem_of_getElem? (i := 21) rfl)
theorem w_247 : Cond.methodLink "ObjectForgeLaw" 21 y_OF_assemble ∈ bw := j_9 _ (List.mem_of_getElem? (i := 22) rfl)
theorem w_248 : Cond.instanceMethod y_OF_assemble ∈ bw := j_9 _ (List.mem_of_getElem? (i := 23) rfl)
theorem w_249 : Cond.selects "ObjectForge" y_OF_assemble y_OF_assemble ∈ bw := j_9 _ (List.mem_of_getElem? (i := 24) rfl)
theorem w_250 : Cond.code y_OF_assemble prog_1_method_4_code 3 (some FieldType.int) ∈ bw := j_10 _ (List.mem_of_getElem? (i := 0) rfl)
theorem w_251 : Cond.methodLink "ObjectForge" 61 y_As_translate ∈ bw := j_10 _ (List.mem_of_getElem? (i := 1) rfl)
theorem w_252 : Cond.instanceMethod y_As_translate ∈ bw := j_10 _ (List.mem_of_getElem? (i := 2) rfl)
theorem w_253 : Cond.selects "ObjectForge$Assembler" y_As_translate y_As_translate ∈ bw := j_10 _ (List.mem_of_getElem? (i := 3) rfl)
theorem w_254 : Cond.code y_As_translate prog_2_method_2_code 4 (some FieldType.boolean) ∈ bw := j_10 _ (List.mem_of_getElem? (i := 4) rfl)
theorem w_255 : Cond.methodLink "ObjectForge$Assembler" 66 y_Un_makeEmpty ∈ bw := j_10 _ (List.mem_of_getElem? (i := 5) rfl)
theorem w_256 : Cond.instanceMethod y_Un_makeEmpty ∈ bw := j_10 _ (List.mem_of_getElem? (i := 6) rfl)
theorem w_257 : Cond.selects "ObjectForge$Unit" y_Un_makeEmpty y_Un_makeEmpty ∈ bw := j_10 _ (List.mem_of_getElem? (i := 7) rfl)
theorem w_258 : Cond.code y_Un_makeEmpty prog_9_method_2_code 1 none ∈ bw := j_10 _ (List.mem_of_getElem? (i := 8) rfl)
theorem w_259 : Cond.methodLink "ObjectForge$Unit" 37 y_Ar_fill ∈ bw := j_10 _ (List.mem_of_getElem? (i := 9) rfl)
theorem w_260 : Cond.static y_Ar_fill ∈ bw := j_10 _ (List.mem_of_getElem? (i := 10) rfl)
theorem w_261 : Cond.code y_Ar_fill prog_30_method_103_code 4 none ∈ bw := j_10 _ (List.mem_of_getElem? (i := 11) rfl)
theorem w_262 : Cond.methodLink "ObjectForge$Assembler" 69 y_So_scanLine ∈ bw := j_10 _ (List.mem_of_getElem? (i := 12) rfl)
theorem w_263 : Cond.instanceMethod y_So_scanLine ∈ bw := j_10 _ (List.mem_of_getElem? (i := 13) rfl)
theorem w_264 : Cond.selects "ObjectForge$Source" y_So_scanLine y_So_scanLine ∈ bw := j_10 _ (List.mem_of_getElem? (i := 14) rfl)
theorem w_265 : Cond.code y_So_scanLine prog_7_method_3_code 4 (some FieldType.int) ∈ bw := j_10 _ (List.mem_of_getElem? (i := 15) rfl)
theorem w_266 : Cond.methodLink "ObjectForge$Source" 35 ⟨"ObjectForge$Source", "scanToken", "(I)I"⟩ ∈ bw := j_10 _ (List.mem_of_getElem? (i := 16) rfl)
theorem w_267 : Cond.methodLink "ObjectForge$Source" 39 ⟨"java/lang/Math", "max", "(II)I"⟩ ∈ bw := j_10 _ (List.mem_of_getElem? (i := 17) rfl)
theorem w_268 : Cond.methodLink "ObjectForge$Assembler" 73 y_As_readLabels ∈ bw := j_10 _ (List.mem_of_getElem? (i := 18) rfl)
theorem w_269 : Cond.instanceMethod y_As_readLabels ∈ bw := j_10 _ (List.mem_of_getElem? (i := 19) rfl)
theorem w_270 : Cond.code y_As_readLabels prog_2_method_3_code 3 none ∈ bw := j_10 _ (List.mem_of_getElem? (i := 20) rfl)
theorem w_271 : Cond.methodLink "ObjectForge$Assembler" 82 y_So_kindOf ∈ bw := j_10 _ (List.mem_of_getElem? (i := 21) rfl)
theorem w_272 : Cond.instanceMethod y_So_kindOf ∈ bw := j_10 _ (List.mem_of_getElem? (i := 22) rfl)
theorem w_273 : Cond.selects "ObjectForge$Source" y_So_kindOf y_So_kindOf ∈ bw := j_10 _ (List.mem_of_getElem? (i := 23) rfl)
theorem w_274 : Cond.code y_So_kindOf prog_7_method_4_code 2 (some FieldType.int) ∈ bw := j_10 _ (List.mem_of_getElem? (i := 24) rfl)
theorem w_275 : Cond.methodLink "ObjectForge$Assembler" 86 ⟨"ObjectForge$Assembler", "numberSymbol", "(I)I"⟩ ∈ bw := j_11 _ (List.mem_of_getElem? (i := 0) rfl)
theorem w_276 : Cond.methodLink "ObjectForge$Assembler" 76 y_As_readStatement ∈ bw := j_11 _ (List.mem_of_getElem? (i := 1) rfl)
theorem w_277 : Cond.instanceMethod y_As_readStatement ∈ bw := j_11 _ (List.mem_of_getElem? (i := 2) rfl)
theorem w_278 : Cond.code y_As_readStatement prog_2_method_5_code 5 none ∈ bw := j_11 _ (List.mem_of_getElem? (i := 3) rfl)
theorem w_279 : Cond.methodLink "ObjectForge$Assembler" 119 ⟨"ObjectForge$Assembler", "misplaced", "(I)I"⟩ ∈ bw := j_11 _ (List.mem_of_getElem? (i := 4) rfl)
theorem w_280 : Cond.methodLink "ObjectForge$Assembler" 122 ⟨"ObjectForge$Directive", "named", "(LObjectForge$Source;I)LObjectForge$Directive;"⟩ ∈ bw := j_11 _ (List.mem_of_getElem? (i := 5) rfl)
theorem w_281 : Cond.methodLink "ObjectForge$Assembler" 128 ⟨"ObjectForge$Operation", "named", "(LObjectForge$Source;I)LObjectForge$Operation;"⟩ ∈ bw := j_11 _ (List.mem_of_getElem? (i := 6) rfl)
theorem w_282 : Cond.methodLink "ObjectForge$Assembler" 133 ⟨"ObjectForge$Assembler", "readDirective", "(LObjectForge$Directive;)V"⟩ ∈ bw := j_11 _ (List.mem_of_getElem? (i := 7) rfl)
theorem w_283 : Cond.native ⟨"java/lang/Object", "clone", "()Ljava/lang/Object;"⟩ ∈ bw := j_11 _ (List.mem_of_getElem? (i := 8) rfl)
theorem w_284 : Cond.instanceMethod ⟨"java/lang/Object", "clone", "()Ljava/lang/Object;"⟩ ∈ bw := j_11 _ (List.mem_of_getElem? (i := 9) rfl)
theorem w_285 : Cond.instanceMethod ⟨"java/lang/IndexOutOfBoundsException", "<init>", "(Ljava/lang/String;)V"⟩ ∈ bw := j_11 _ (List.mem_of_getElem? (i := 10) rfl)
theorem w_286 : Cond.code ⟨"java/lang/IndexOutOfBoundsException", "<init>", "(Ljava/lang/String;)V"⟩ prog_20_method_2_code 2 none ∈ bw := j_11 _ (List.mem_of_getElem? (i := 11) rfl)
theorem w_287 : Cond.methodLink "java/lang/IndexOutOfBoundsException" 7 ⟨"java/lang/RuntimeException", "<init>", "(Ljava/lang/String;)V"⟩ ∈ bw := j_11 _ (List.mem_of_getElem? (i := 12) rfl)
theorem w_288 : Cond.methodLink "ObjectForge$Assembler" 137 ⟨"ObjectForge$Operation", "ofOperands", "(LObjectForge$Source;I)LObjectForge$Operation;"⟩ ∈ bw := j_11 _ (List.mem_of_getElem? (i := 13) rfl)
theorem w_289 : Cond.methodLink "ObjectForge$Assembler" 140 ⟨"ObjectForge$Assembler", "readInstruction", "(LObjectForge$Operation;)V"⟩ ∈ bw := j_11 _ (List.mem_of_getElem? (i := 14) rfl)
theorem w_290 : Cond.methodLink "ObjectForge$Assembler" 79 y_As_settleBranches ∈ bw := j_11 _ (List.mem_of_getElem? (i := 15) rfl)
theorem w_291 : Cond.instanceMethod y_As_settleBranches ∈ bw := j_11 _ (List.mem_of_getElem? (i := 16) rfl)
theorem w_292 : Cond.code y_As_settleBranches prog_2_method_27_code 6 none ∈ bw := j_11 _ (List.mem_of_getElem? (i := 17) rfl)
theorem w_293 : Cond.methodLink "ObjectForge$Assembler" 334 ⟨"ObjectForge$Assembler", "settleBranch", "(IJI)V"⟩ ∈ bw := j_11 _ (List.mem_of_getElem? (i := 18) rfl)
theorem w_294 : Cond.methodLink "ObjectForge$Assembler" 338 ⟨"ObjectForge$Relocations", "move", "(II)V"⟩ ∈ bw := j_11 _ (List.mem_of_getElem? (i := 19) rfl)
theorem w_295 : Cond.methodLink "ObjectForgeLaw" 80 y_La_fault ∈ bw := j_11 _ (List.mem_of_getElem? (i := 20) rfl)
theorem w_296 : Cond.static y_La_fault ∈ bw := j_11 _ (List.mem_of_getElem? (i := 21) rfl)
theorem w_297 : Cond.codeWith y_La_fault method_6_code 4 (some FieldType.int) [(0, 9, 12, 28)] ∈ bw := j_11 _ (List.mem_of_getElem? (i := 22) rfl)
theorem w_298 : Cond.classLink "ObjectForgeLaw" 28 "java/lang/IndexOutOfBoundsException" ∈ bw := j_11 _ (List.mem_of_getElem? (i := 23) rfl)
theorem w_299 : Cond.methodLink "ObjectForgeLaw" 25 y_OF_fault ∈ bw := j_11 _ (List.mem_of_getElem? (i := 24) rfl)
theorem w_300 : Cond.instanceMethod y_OF_fault ∈ bw := j_12 _ (List.mem_of_getElem? (i := 0) rfl)
theorem w_301 : Cond.selects "ObjectForge" y_OF_fault y_OF_fault ∈ bw := j_12 _ (List.mem_of_getElem? (i := 1) rfl)
theorem w_302 : Cond.code y_OF_fault prog_1_method_5_code 2 (some FieldType.int) ∈ bw := j_12 _ (List.mem_of_getElem? (i := 2) rfl)
theorem w_303 : Cond.classLink "ObjectForge" 82 "java/lang/IndexOutOfBoundsException" ∈ bw := j_12 _ (List.mem_of_getElem? (i := 3) rfl)
theorem w_304 : Cond.instantiable "java/lang/IndexOutOfBoundsException" 6 ∈ bw := j_12 _ (List.mem_of_getElem? (i := 4) rfl)
theorem w_305 : Cond.selects "java/lang/IndexOutOfBoundsException" ⟨"java/lang/Throwable", "fillInStackTrace", "(I)Ljava/lang/Throwable;"⟩ ⟨"java/lang/Throwable", "fillInStackTrace", "(I)Ljava/lang/Throwable;"⟩ ∈ bw := j_12 _ (List.mem_of_getElem? (i := 5) rfl)
theorem w_306 : Cond.lays "java/lang/IndexOutOfBoundsException" "java/lang/Throwable" "cause" "Ljava/lang/Throwable;" ∈ bw := j_12 _ (List.mem_of_getElem? (i := 6) rfl)
theorem w_307 : Cond.lays "java/lang/IndexOutOfBoundsException" "java/lang/Throwable" "stackTrace" "[Ljava/lang/StackTraceElement;" ∈ bw := j_12 _ (List.mem_of_getElem? (i := 7) rfl)
theorem w_308 : Cond.lays "java/lang/IndexOutOfBoundsException" "java/lang/Throwable" "suppressedExceptions" "Ljava/util/List;" ∈ bw := j_12 _ (List.mem_of_getElem? (i := 8) rfl)
theorem w_309 : Cond.lays "java/lang/IndexOutOfBoundsException" "java/lang/Throwable" "detailMessage" "Ljava/lang/String;" ∈ bw := j_12 _ (List.mem_of_getElem? (i := 9) rfl)
theorem w_310 : Cond.lays "java/lang/IndexOutOfBoundsException" "java/lang/Throwable" "backtrace" "Ljava/lang/Object;" ∈ bw := j_12 _ (List.mem_of_getElem? (i := 10) rfl)
theorem w_311 : Cond.methodLink "ObjectForge" 86 ⟨"java/lang/IndexOutOfBoundsException", "<init>", "(Ljava/lang/String;)V"⟩ ∈ bw := j_12 _ (List.mem_of_getElem? (i := 11) rfl)
theorem w_312 : Cond.lays "java/lang/IndexOutOfBoundsException" "java/lang/Throwable" "depth" "I" ∈ bw := j_12 _ (List.mem_of_getElem? (i := 12) rfl)
theorem w_313 : Cond.superclass "java/lang/IndexOutOfBoundsException" "java/lang/RuntimeException" ∈ bw := j_12 _ (List.mem_of_getElem? (i := 13) rfl)
theorem w_314 : Cond.methodLink "ObjectForgeLaw" 83 y_La_size ∈ bw := j_12 _ (List.mem_of_getElem? (i := 14) rfl)
theorem w_315 : Cond.static y_La_size ∈ bw := j_12 _ (List.mem_of_getElem? (i := 15) rfl)
theorem w_316 : Cond.codeWith y_La_size method_7_code 5 (some FieldType.int) [(0, 10, 13, 28)] ∈ bw := j_12 _ (List.mem_of_getElem? (i := 16) rfl)
theorem w_317 : Cond.methodLink "ObjectForgeLaw" 30 y_OF_size ∈ bw := j_12 _ (List.mem_of_getElem? (i := 17) rfl)
theorem w_318 : Cond.instanceMethod y_OF_size ∈ bw := j_12 _ (List.mem_of_getElem? (i := 18) rfl)
theorem w_319 : Cond.selects "ObjectForge" y_OF_size y_OF_size ∈ bw := j_12 _ (List.mem_of_getElem? (i := 19) rfl)
theorem w_320 : Cond.code y_OF_size prog_1_method_6_code 4 (some FieldType.int) ∈ bw := j_12 _ (List.mem_of_getElem? (i := 20) rfl)
theorem w_321 : Cond.methodLink "ObjectForge" 87 y_OF_unitNumbered ∈ bw := j_12 _ (List.mem_of_getElem? (i := 21) rfl)
theorem w_322 : Cond.instanceMethod y_OF_unitNumbered ∈ bw := j_12 _ (List.mem_of_getElem? (i := 22) rfl)
theorem w_323 : Cond.code y_OF_unitNumbered prog_1_method_16_code 2 (some (FieldType.object "ObjectForge$Unit")) ∈ bw := j_12 _ (List.mem_of_getElem? (i := 23) rfl)
theorem w_324 : Cond.methodLink "ObjectForge" 91 y_OF_requireBelow ∈ bw := j_12 _ (List.mem_of_getElem? (i := 24) rfl)
theorem w_325 : Cond.static y_OF_requireBelow ∈ bw := j_13 _ (List.mem_of_getElem? (i := 0) rfl)
theorem w_326 : Cond.code y_OF_requireBelow prog_1_method_17_code 2 none ∈ bw := j_13 _ (List.mem_of_getElem? (i := 1) rfl)
theorem w_327 : Cond.methodLink "ObjectForgeLaw" 87 y_La_byteAt ∈ bw := j_13 _ (List.mem_of_getElem? (i := 2) rfl)
theorem w_328 : Cond.static y_La_byteAt ∈ bw := j_13 _ (List.mem_of_getElem? (i := 3) rfl)
theorem w_329 : Cond.codeWith y_La_byteAt method_8_code 6 (some FieldType.int) [(0, 12, 15, 28)] ∈ bw := j_13 _ (List.mem_of_getElem? (i := 4) rfl)
theorem w_330 : Cond.methodLink "ObjectForgeLaw" 34 y_OF_byteAt ∈ bw := j_13 _ (List.mem_of_getElem? (i := 5) rfl)
theorem w_331 : Cond.instanceMethod y_OF_byteAt ∈ bw := j_13 _ (List.mem_of_getElem? (i := 6) rfl)
theorem w_332 : Cond.selects "ObjectForge" y_OF_byteAt y_OF_byteAt ∈ bw := j_13 _ (List.mem_of_getElem? (i := 7) rfl)
theorem w_333 : Cond.code y_OF_byteAt prog_1_method_7_code 5 (some FieldType.int) ∈ bw := j_13 _ (List.mem_of_getElem? (i := 8) rfl)
theorem w_334 : Cond.methodLink "ObjectForgeLaw" 91 y_La_symbol ∈ bw := j_13 _ (List.mem_of_getElem? (i := 9) rfl)
theorem w_335 : Cond.static y_La_symbol ∈ bw := j_13 _ (List.mem_of_getElem? (i := 10) rfl)
theorem w_336 : Cond.codeWith y_La_symbol method_9_code 6 (some FieldType.int) [(0, 12, 15, 28)] ∈ bw := j_13 _ (List.mem_of_getElem? (i := 11) rfl)
theorem w_337 : Cond.methodLink "ObjectForgeLaw" 38 y_OF_symbol ∈ bw := j_13 _ (List.mem_of_getElem? (i := 12) rfl)
theorem w_338 : Cond.instanceMethod y_OF_symbol ∈ bw := j_13 _ (List.mem_of_getElem? (i := 13) rfl)
theorem w_339 : Cond.selects "ObjectForge" y_OF_symbol y_OF_symbol ∈ bw := j_13 _ (List.mem_of_getElem? (i := 14) rfl)
theorem w_340 : Cond.code y_OF_symbol prog_1_method_8_code 5 (some FieldType.int) ∈ bw := j_13 _ (List.mem_of_getElem? (i := 15) rfl)
theorem w_341 : Cond.methodLink "ObjectForgeLaw" 94 y_La_letter ∈ bw := j_13 _ (List.mem_of_getElem? (i := 16) rfl)
theorem w_342 : Cond.static y_La_letter ∈ bw := j_13 _ (List.mem_of_getElem? (i := 17) rfl)
theorem w_343 : Cond.codeWith y_La_letter method_10_code 6 (some FieldType.int) [(0, 12, 15, 28)] ∈ bw := j_13 _ (List.mem_of_getElem? (i := 18) rfl)
theorem w_344 : Cond.methodLink "ObjectForgeLaw" 41 y_OF_letter ∈ bw := j_13 _ (List.mem_of_getElem? (i := 19) rfl)
theorem w_345 : Cond.instanceMethod y_OF_letter ∈ bw := j_13 _ (List.mem_of_getElem? (i := 20) rfl)
theorem w_346 : Cond.selects "ObjectForge" y_OF_letter y_OF_letter ∈ bw := j_13 _ (List.mem_of_getElem? (i := 21) rfl)
theorem w_347 : Cond.code y_OF_letter prog_1_method_9_code 5 (some FieldType.int) ∈ bw := j_13 _ (List.mem_of_getElem? (i := 22) rfl)
theorem w_348 : Cond.methodLink "ObjectForgeLaw" 97 y_La_relocation ∈ bw := j_13 _ (List.mem_of_getElem? (i := 23) rfl)
theorem w_349 : Cond.static y_La_relocation ∈ bw := j_13 _ (List.mem_of_getElem? (i := 24) rfl)
theorem w_350 : Cond.codeWith y_La_relocation method_11_code 6 (some FieldType.int) [(0, 12, 15, 28)] ∈ bw := j_14 _ (List.mem_of_getElem? (i := 0) rfl)
theorem w_351 : Cond.methodLink "ObjectForgeLaw" 44 y_OF_relocation ∈ bw := j_14 _ (List.mem_of_getElem? (i := 1) rfl)
theorem w_352 : Cond.instanceMethod y_OF_relocation ∈ bw := j_14 _ (List.mem_of_getElem? (i := 2) rfl)
theorem w_353 : Cond.selects "ObjectForge" y_OF_relocation y_OF_relocation ∈ bw := j_14 _ (List.mem_of_getElem? (i := 3) rfl)
theorem w_354 : Cond.code y_OF_relocation prog_1_method_10_code 5 (some FieldType.int) ∈ bw := j_14 _ (List.mem_of_getElem? (i := 4) rfl)
theorem w_355 : Cond.methodLink "ObjectForgeLaw" 100 y_La_link ∈ bw := j_14 _ (List.mem_of_getElem? (i := 5) rfl)
theorem w_356 : Cond.static y_La_link ∈ bw := j_14 _ (List.mem_of_getElem? (i := 6) rfl)
theorem w_357 : Cond.codeWith y_La_link method_12_code 4 (some FieldType.int) [(0, 9, 12, 19), (0, 9, 15, 13)] ∈ bw := j_14 _ (List.mem_of_getElem? (i := 7) rfl)
theorem w_358 : Cond.methodLink "ObjectForgeLaw" 47 y_OF_link ∈ bw := j_14 _ (List.mem_of_getElem? (i := 8) rfl)
theorem w_359 : Cond.instanceMethod y_OF_link ∈ bw := j_14 _ (List.mem_of_getElem? (i := 9) rfl)
theorem w_360 : Cond.selects "ObjectForge" y_OF_link y_OF_link ∈ bw := j_14 _ (List.mem_of_getElem? (i := 10) rfl)
theorem w_361 : Cond.code y_OF_link prog_1_method_11_code 2 (some FieldType.int) ∈ bw := j_14 _ (List.mem_of_getElem? (i := 11) rfl)
theorem w_362 : Cond.methodLink "ObjectForge" 155 ⟨"ObjectForge$Linker", "join", "([LObjectForge$Unit;II)I"⟩ ∈ bw := j_14 _ (List.mem_of_getElem? (i := 12) rfl)
theorem w_363 : Cond.methodLink "ObjectForgeLaw" 103 y_La_word ∈ bw := j_14 _ (List.mem_of_getElem? (i := 13) rfl)
theorem w_364 : Cond.static y_La_word ∈ bw := j_14 _ (List.mem_of_getElem? (i := 14) rfl)
theorem w_365 : Cond.codeWith y_La_word method_13_code 4 (some FieldType.int) [(0, 9, 12, 28)] ∈ bw := j_14 _ (List.mem_of_getElem? (i := 15) rfl)
theorem w_366 : Cond.methodLink "ObjectForgeLaw" 50 y_OF_word ∈ bw := j_14 _ (List.mem_of_getElem? (i := 16) rfl)
theorem w_367 : Cond.instanceMethod y_OF_word ∈ bw := j_14 _ (List.mem_of_getElem? (i := 17) rfl)
theorem w_368 : Cond.selects "ObjectForge" y_OF_word y_OF_word ∈ bw := j_14 _ (List.mem_of_getElem? (i := 18) rfl)
theorem w_369 : Cond.code y_OF_word prog_1_method_12_code 2 (some FieldType.int) ∈ bw := j_14 _ (List.mem_of_getElem? (i := 19) rfl)
theorem w_370 : Cond.methodLink "ObjectForge" 159 y_Li_holdsWord ∈ bw := j_14 _ (List.mem_of_getElem? (i := 20) rfl)
theorem w_371 : Cond.instanceMethod y_Li_holdsWord ∈ bw := j_14 _ (List.mem_of_getElem? (i := 21) rfl)
theorem w_372 : Cond.selects "ObjectForge$Linker" y_Li_holdsWord y_Li_holdsWord ∈ bw := j_14 _ (List.mem_of_getElem? (i := 22) rfl)
theorem w_373 : Cond.code y_Li_holdsWord prog_4_method_14_code 3 (some FieldType.boolean) ∈ bw := j_14 _ (List.mem_of_getElem? (i := 23) rfl)
theorem w_374 : Cond.methodLink "ObjectForge" 164 ⟨"ObjectForge$Linker", "wordFrom", "(I)I"⟩ ∈ bw := j_14 _ (List.mem_of_getElem? (i := 24) rfl)
theorem w_375 : Cond.methodLink "ObjectForgeLaw" 106 y_La_address ∈ bw := j_15 _ (List.mem_of_getElem? (i := 0) rfl)
theorem w_376 : Cond.static y_La_address ∈ bw := j_15 _ (List.mem_of_getElem? (i := 1) rfl)
theorem w_377 : Cond.codeWith y_La_address method_14_code 5 (some FieldType.int) [(0, 10, 13, 28), (0, 10, 17, 13)] ∈ bw := j_15 _ (List.mem_of_getElem? (i := 2) rfl)
theorem w_378 : Cond.methodLink "ObjectForgeLaw" 53 y_OF_address ∈ bw := j_15 _ (List.mem_of_getElem? (i := 3) rfl)
theorem w_379 : Cond.instanceMethod y_OF_address ∈ bw := j_15 _ (List.mem_of_getElem? (i := 4) rfl)
theorem w_380 : Cond.selects "ObjectForge" y_OF_address y_OF_address ∈ bw := j_15 _ (List.mem_of_getElem? (i := 5) rfl)
theorem w_381 : Cond.code y_OF_address prog_1_method_13_code 4 (some FieldType.int) ∈ bw := j_15 _ (List.mem_of_getElem? (i := 6) rfl)
theorem w_382 : Cond.methodLink "ObjectForgeLaw" 113 y_La_count ∈ bw := j_15 _ (List.mem_of_getElem? (i := 7) rfl)
theorem w_383 : Cond.static y_La_count ∈ bw := j_15 _ (List.mem_of_getElem? (i := 8) rfl)
theorem w_384 : Cond.codeWith y_La_count method_15_code 5 (some FieldType.int) [(0, 10, 13, 28)] ∈ bw := j_15 _ (List.mem_of_getElem? (i := 9) rfl)
theorem w_385 : Cond.methodLink "ObjectForgeLaw" 56 y_OF_count ∈ bw := j_15 _ (List.mem_of_getElem? (i := 10) rfl)
theorem w_386 : Cond.instanceMethod y_OF_count ∈ bw := j_15 _ (List.mem_of_getElem? (i := 11) rfl)
theorem w_387 : Cond.selects "ObjectForge" y_OF_count y_OF_count ∈ bw := j_15 _ (List.mem_of_getElem? (i := 12) rfl)
theorem w_388 : Cond.code y_OF_count prog_1_method_15_code 3 (some FieldType.int) ∈ bw := j_15 _ (List.mem_of_getElem? (i := 13) rfl)
theorem w_389 : Cond.classLink "ObjectForgeLaw" 60 "ObjectForgeModel" ∈ bw := j_15 _ (List.mem_of_getElem? (i := 14) rfl)
theorem w_390 : Cond.instantiable "ObjectForgeModel" 52 ∈ bw := j_15 _ (List.mem_of_getElem? (i := 15) rfl)
theorem w_391 : Cond.methodLink "ObjectForgeLaw" 62 y_Mo_init ∈ bw := j_15 _ (List.mem_of_getElem? (i := 16) rfl)
theorem w_392 : Cond.instanceMethod y_Mo_init ∈ bw := j_15 _ (List.mem_of_getElem? (i := 17) rfl)
theorem w_393 : Cond.code y_Mo_init prog_11_method_1_code 1 none ∈ bw := j_15 _ (List.mem_of_getElem? (i := 18) rfl)
theorem w_394 : Cond.methodLink "ObjectForgeModel" 1 ⟨"java/lang/Object", "<init>", "()V"⟩ ∈ bw := j_15 _ (List.mem_of_getElem? (i := 19) rfl)
theorem w_395 : Cond.constant "ObjectForgeModel" 13 (65536 : Int32) ∈ bw := j_15 _ (List.mem_of_getElem? (i := 20) rfl)
theorem w_396 : Cond.constant "ObjectForgeModel" 75 (32768 : Int32) ∈ bw := j_15 _ (List.mem_of_getElem? (i := 21) rfl)
theorem w_397 : Cond.fieldLink "ObjectForgeModel" 88 "ObjectForgeModel" "thrown" "I" ∈ bw := j_15 _ (List.mem_of_getElem? (i := 22) rfl)
theorem w_398 : Cond.fieldLink "ObjectForgeModel" 91 "ObjectForgeModel" "length" "I" ∈ bw := j_15 _ (List.mem_of_getElem? (i := 23) rfl)
theorem w_399 : Cond.fieldLink "ObjectForgeModel" 7 "ObjectForgeModel" "text" "[B" ∈ bw := j_15 _ (List.mem_of_getElem? (i := 24) rfl)
theorem w_400 : Cond.fieldLink "ObjectForgeModel" 1010 "ObjectForgeModel" "objects" "I" ∈ bw := j_16 _ (List.mem_of_getElem? (i := 0) rfl)
theorem w_401 : Cond.fieldLink "ObjectForgeModel" 1214 "ObjectForgeModel" "linked" "I" ∈ bw := j_16 _ (List.mem_of_getElem? (i := 1) rfl)
theorem w_402 : Cond.fieldLink "ObjectForgeModel" 14 "ObjectForgeModel" "bytes" "[B" ∈ bw := j_16 _ (List.mem_of_getElem? (i := 2) rfl)
theorem w_403 : Cond.fieldLink "ObjectForgeModel" 17 "ObjectForgeModel" "sizes" "[I" ∈ bw := j_16 _ (List.mem_of_getElem? (i := 3) rfl)
theorem w_404 : Cond.fieldLink "ObjectForgeModel" 21 "ObjectForgeModel" "symbolCount" "[I" ∈ bw := j_16 _ (List.mem_of_getElem? (i := 4) rfl)
theorem w_405 : Cond.fieldLink "ObjectForgeModel" 24 "ObjectForgeModel" "referenceCount" "[I" ∈ bw := j_16 _ (List.mem_of_getElem? (i := 5) rfl)
theorem w_406 : Cond.fieldLink "ObjectForgeModel" 27 "ObjectForgeModel" "nameA" "[J" ∈ bw := j_16 _ (List.mem_of_getElem? (i := 6) rfl)
theorem w_407 : Cond.fieldLink "ObjectForgeModel" 31 "ObjectForgeModel" "nameB" "[J" ∈ bw := j_16 _ (List.mem_of_getElem? (i := 7) rfl)
theorem w_408 : Cond.fieldLink "ObjectForgeModel" 34 "ObjectForgeModel" "nameC" "[J" ∈ bw := j_16 _ (List.mem_of_getElem? (i := 8) rfl)
theorem w_409 : Cond.fieldLink "ObjectForgeModel" 37 "ObjectForgeModel" "nameLength" "[I" ∈ bw := j_16 _ (List.mem_of_getElem? (i := 9) rfl)
theorem w_410 : Cond.fieldLink "ObjectForgeModel" 40 "ObjectForgeModel" "section" "[I" ∈ bw := j_16 _ (List.mem_of_getElem? (i := 10) rfl)
theorem w_411 : Cond.fieldLink "ObjectForgeModel" 43 "ObjectForgeModel" "value" "[I" ∈ bw := j_16 _ (List.mem_of_getElem? (i := 11) rfl)
theorem w_412 : Cond.fieldLink "ObjectForgeModel" 46 "ObjectForgeModel" "global" "[Z" ∈ bw := j_16 _ (List.mem_of_getElem? (i := 12) rfl)
theorem w_413 : Cond.fieldLink "ObjectForgeModel" 50 "ObjectForgeModel" "refSection" "[I" ∈ bw := j_16 _ (List.mem_of_getElem? (i := 13) rfl)
theorem w_414 : Cond.fieldLink "ObjectForgeModel" 53 "ObjectForgeModel" "refPlace" "[I" ∈ bw := j_16 _ (List.mem_of_getElem? (i := 14) rfl)
theorem w_415 : Cond.fieldLink "ObjectForgeModel" 56 "ObjectForgeModel" "refKind" "[I" ∈ bw := j_16 _ (List.mem_of_getElem? (i := 15) rfl)
theorem w_416 : Cond.fieldLink "ObjectForgeModel" 59 "ObjectForgeModel" "refSymbol" "[I" ∈ bw := j_16 _ (List.mem_of_getElem? (i := 16) rfl)
theorem w_417 : Cond.fieldLink "ObjectForgeModel" 62 "ObjectForgeModel" "refAddend" "[I" ∈ bw := j_16 _ (List.mem_of_getElem? (i := 17) rfl)
theorem w_418 : Cond.fieldLink "ObjectForgeModel" 65 "ObjectForgeModel" "refLine" "[I" ∈ bw := j_16 _ (List.mem_of_getElem? (i := 18) rfl)
theorem w_419 : Cond.fieldLink "ObjectForgeModel" 982 "ObjectForgeModel" "fault" "I" ∈ bw := j_16 _ (List.mem_of_getElem? (i := 19) rfl)
theorem w_420 : Cond.fieldLink "ObjectForgeModel" 1175 "ObjectForgeModel" "faultLine" "I" ∈ bw := j_16 _ (List.mem_of_getElem? (i := 20) rfl)
theorem w_421 : Cond.fieldLink "ObjectForgeModel" 1178 "ObjectForgeModel" "linkFault" "I" ∈ bw := j_16 _ (List.mem_of_getElem? (i := 21) rfl)
theorem w_422 : Cond.fieldLink "ObjectForgeModel" 68 "ObjectForgeModel" "linkObject" "I" ∈ bw := j_16 _ (List.mem_of_getElem? (i := 22) rfl)
theorem w_423 : Cond.fieldLink "ObjectForgeModel" 72 "ObjectForgeModel" "linkWhich" "I" ∈ bw := j_16 _ (List.mem_of_getElem? (i := 23) rfl)
theorem w_424 : Cond.fieldLink "ObjectForgeModel" 1191 "ObjectForgeModel" "hasImage" "Z" ∈ bw := j_16 _ (List.mem_of_getElem? (i := 24) rfl)
theorem w_425 : Cond.fieldLink "ObjectForgeModel" 1188 "ObjectForgeModel" "base" "I" ∈ bw := j_17 _ (List.mem_of_getElem? (i := 0) rfl)
theorem w_426 : Cond.fieldLink "ObjectForgeModel" 1211 "ObjectForgeModel" "imageSize" "I" ∈ bw := j_17 _ (List.mem_of_getElem? (i := 1) rfl)
theorem w_427 : Cond.fieldLink "ObjectForgeModel" 76 "ObjectForgeModel" "image" "[B" ∈ bw := j_17 _ (List.mem_of_getElem? (i := 2) rfl)
theorem w_428 : Cond.fieldLink "ObjectForgeModel" 79 "ObjectForgeModel" "starts" "[I" ∈ bw := j_17 _ (List.mem_of_getElem? (i := 3) rfl)
theorem w_429 : Cond.fieldLink "ObjectForgeModel" 82 "ObjectForgeModel" "addresses" "[I" ∈ bw := j_17 _ (List.mem_of_getElem? (i := 4) rfl)
theorem w_430 : Cond.fieldLink "ObjectForgeModel" 102 "ObjectForgeModel" "at" "I" ∈ bw := j_17 _ (List.mem_of_getElem? (i := 5) rfl)
theorem w_431 : Cond.fieldLink "ObjectForgeModel" 105 "ObjectForgeModel" "stop" "I" ∈ bw := j_17 _ (List.mem_of_getElem? (i := 6) rfl)
theorem w_432 : Cond.fieldLink "ObjectForgeModel" 119 "ObjectForgeModel" "kind" "I" ∈ bw := j_17 _ (List.mem_of_getElem? (i := 7) rfl)
theorem w_433 : Cond.fieldLink "ObjectForgeModel" 137 "ObjectForgeModel" "sign" "I" ∈ bw := j_17 _ (List.mem_of_getElem? (i := 8) rfl)
theorem w_434 : Cond.fieldLink "ObjectForgeModel" 162 "ObjectForgeModel" "nameSize" "I" ∈ bw := j_17 _ (List.mem_of_getElem? (i := 9) rfl)
theorem w_435 : Cond.fieldLink "ObjectForgeModel" 150 "ObjectForgeModel" "code" "J" ∈ bw := j_17 _ (List.mem_of_getElem? (i := 10) rfl)
theorem w_436 : Cond.fieldLink "ObjectForgeModel" 140 "ObjectForgeModel" "first" "J" ∈ bw := j_17 _ (List.mem_of_getElem? (i := 11) rfl)
theorem w_437 : Cond.fieldLink "ObjectForgeModel" 144 "ObjectForgeModel" "second" "J" ∈ bw := j_17 _ (List.mem_of_getElem? (i := 12) rfl)
theorem w_438 : Cond.fieldLink "ObjectForgeModel" 147 "ObjectForgeModel" "third" "J" ∈ bw := j_17 _ (List.mem_of_getElem? (i := 13) rfl)
theorem w_439 : Cond.fieldLink "ObjectForgeModel" 85 "ObjectForgeModel" "string" "[B" ∈ bw := j_17 _ (List.mem_of_getElem? (i := 14) rfl)
theorem w_440 : Cond.fieldLink "ObjectForgeModel" 1050 "ObjectForgeModel" "here" "I" ∈ bw := j_17 _ (List.mem_of_getElem? (i := 15) rfl)
theorem w_441 : Cond.fieldLink "ObjectForgeModel" 1055 "ObjectForgeModel" "line" "I" ∈ bw := j_17 _ (List.mem_of_getElem? (i := 16) rfl)
theorem w_442 : Cond.methodLink "ObjectForgeLaw" 69 y_Mo_thrown ∈ bw := j_17 _ (List.mem_of_getElem? (i := 17) rfl)
theorem w_443 : Cond.instanceMethod y_Mo_thrown ∈ bw := j_17 _ (List.mem_of_getElem? (i := 18) rfl)
theorem w_444 : Cond.selects "ObjectForgeModel" y_Mo_thrown y_Mo_thrown ∈ bw := j_17 _ (List.mem_of_getElem? (i := 19) rfl)
theorem w_445 : Cond.code y_Mo_thrown prog_11_method_2_code 1 (some FieldType.int) ∈ bw := j_17 _ (List.mem_of_getElem? (i := 20) rfl)
theorem w_446 : Cond.methodLink "ObjectForgeLaw" 68 y_Mo_feed ∈ bw := j_17 _ (List.mem_of_getElem? (i := 21) rfl)
theorem w_447 : Cond.instanceMethod y_Mo_feed ∈ bw := j_17 _ (List.mem_of_getElem? (i := 22) rfl)
theorem w_448 : Cond.selects "ObjectForgeModel" y_Mo_feed y_Mo_feed ∈ bw := j_17 _ (List.mem_of_getElem? (i := 23) rfl)
theorem w_449 : Cond.code y_Mo_feed prog_11_method_5_code 5 (some FieldType.int) ∈ bw := j_17 _ (List.mem_of_getElem? (i := 24) rfl)
theorem w_450 : Cond.methodLink "ObjectForgeModel" 94 y_Mo_refuse ∈ bw := j_18 _ (List.mem_of_getElem? (i := 0) rfl)
theorem w_451 : Cond.instanceMethod y_Mo_refuse ∈ bw := j_18 _ (List.mem_of_getElem? (i := 1) rfl)
theorem w_452 : Cond.code y_Mo_refuse prog_11_method_3_code 2 (some FieldType.int) ∈ bw := j_18 _ (List.mem_of_getElem? (i := 2) rfl)
theorem w_453 : Cond.methodLink "ObjectForgeModel" 98 y_Mo_four ∈ bw := j_18 _ (List.mem_of_getElem? (i := 3) rfl)
theorem w_454 : Cond.instanceMethod y_Mo_four ∈ bw := j_18 _ (List.mem_of_getElem? (i := 4) rfl)
theorem w_455 : Cond.code y_Mo_four prog_11_method_4_code 3 none ∈ bw := j_18 _ (List.mem_of_getElem? (i := 5) rfl)
theorem w_456 : Cond.methodLink "ObjectForgeLaw" 75 y_Mo_end ∈ bw := j_18 _ (List.mem_of_getElem? (i := 6) rfl)
theorem w_457 : Cond.instanceMethod y_Mo_end ∈ bw := j_18 _ (List.mem_of_getElem? (i := 7) rfl)
theorem w_458 : Cond.selects "ObjectForgeModel" y_Mo_end y_Mo_end ∈ bw := j_18 _ (List.mem_of_getElem? (i := 8) rfl)
theorem w_459 : Cond.code y_Mo_end prog_11_method_6_code 2 (some FieldType.int) ∈ bw := j_18 _ (List.mem_of_getElem? (i := 9) rfl)
theorem w_460 : Cond.methodLink "ObjectForgeLaw" 79 y_Mo_assemble ∈ bw := j_18 _ (List.mem_of_getElem? (i := 10) rfl)
theorem w_461 : Cond.instanceMethod y_Mo_assemble ∈ bw := j_18 _ (List.mem_of_getElem? (i := 11) rfl)
theorem w_462 : Cond.selects "ObjectForgeModel" y_Mo_assemble y_Mo_assemble ∈ bw := j_18 _ (List.mem_of_getElem? (i := 12) rfl)
theorem w_463 : Cond.code y_Mo_assemble prog_11_method_72_code 4 (some FieldType.int) ∈ bw := j_18 _ (List.mem_of_getElem? (i := 13) rfl)
theorem w_464 : Cond.methodLink "ObjectForgeModel" 985 y_Mo_fine ∈ bw := j_18 _ (List.mem_of_getElem? (i := 14) rfl)
theorem w_465 : Cond.instanceMethod y_Mo_fine ∈ bw := j_18 _ (List.mem_of_getElem? (i := 15) rfl)
theorem w_466 : Cond.code y_Mo_fine prog_11_method_33_code 1 (some FieldType.boolean) ∈ bw := j_18 _ (List.mem_of_getElem? (i := 16) rfl)
theorem w_467 : Cond.methodLink "ObjectForgeModel" 1169 y_Mo_read ∈ bw := j_18 _ (List.mem_of_getElem? (i := 17) rfl)
theorem w_468 : Cond.instanceMethod y_Mo_read ∈ bw := j_18 _ (List.mem_of_getElem? (i := 18) rfl)
theorem w_469 : Cond.code y_Mo_read prog_11_method_69_code 15 none ∈ bw := j_18 _ (List.mem_of_getElem? (i := 19) rfl)
theorem w_470 : Cond.methodLink "ObjectForgeModel" 998 y_Mo_next ∈ bw := j_18 _ (List.mem_of_getElem? (i := 20) rfl)
theorem w_471 : Cond.instanceMethod y_Mo_next ∈ bw := j_18 _ (List.mem_of_getElem? (i := 21) rfl)
theorem w_472 : Cond.code y_Mo_next prog_11_method_11_code 2 none ∈ bw := j_18 _ (List.mem_of_getElem? (i := 22) rfl)
theorem w_473 : Cond.methodLink "ObjectForgeModel" 108 y_Mo_here ∈ bw := j_18 _ (List.mem_of_getElem? (i := 23) rfl)
theorem w_474 : Cond.instanceMethod y_Mo_here ∈ bw := j_18 _ (List.mem_of_getElem? (i := 24) rfl)
theorem w_475 : Cond.code y_Mo_here prog_11_method_7_code 1 (some FieldType.int) ∈ bw := j_19 _ (List.mem_of_getElem? (i := 0) rfl)
theorem w_476 : Cond.methodLink "ObjectForgeModel" 112 ⟨"ObjectForgeModel", "isLetter", "(I)Z"⟩ ∈ bw := j_19 _ (List.mem_of_getElem? (i := 1) rfl)
theorem w_477 : Cond.methodLink "ObjectForgeModel" 122 ⟨"ObjectForgeModel", "named", "()V"⟩ ∈ bw := j_19 _ (List.mem_of_getElem? (i := 2) rfl)
theorem w_478 : Cond.methodLink "ObjectForgeModel" 116 ⟨"ObjectForgeModel", "isDigit", "(I)Z"⟩ ∈ bw := j_19 _ (List.mem_of_getElem? (i := 3) rfl)
theorem w_479 : Cond.methodLink "ObjectForgeModel" 125 ⟨"ObjectForgeModel", "counted", "()V"⟩ ∈ bw := j_19 _ (List.mem_of_getElem? (i := 4) rfl)
theorem w_480 : Cond.methodLink "ObjectForgeModel" 128 ⟨"ObjectForgeModel", "registered", "()V"⟩ ∈ bw := j_19 _ (List.mem_of_getElem? (i := 5) rfl)
theorem w_481 : Cond.methodLink "ObjectForgeModel" 131 ⟨"ObjectForgeModel", "character", "()V"⟩ ∈ bw := j_19 _ (List.mem_of_getElem? (i := 6) rfl)
theorem w_482 : Cond.constantLong "ObjectForgeModel" 211 (-1 : Int64) ∈ bw := j_19 _ (List.mem_of_getElem? (i := 7) rfl)
theorem w_483 : Cond.methodLink "ObjectForgeModel" 134 ⟨"ObjectForgeModel", "quoted", "()V"⟩ ∈ bw := j_19 _ (List.mem_of_getElem? (i := 8) rfl)
theorem w_484 : Cond.methodLink "ObjectForgeModel" 994 ⟨"ObjectForgeModel", "must", "(Z)Z"⟩ ∈ bw := j_19 _ (List.mem_of_getElem? (i := 9) rfl)
theorem w_485 : Cond.methodLink "ObjectForgeModel" 988 ⟨"ObjectForgeModel", "wrong", "(I)V"⟩ ∈ bw := j_19 _ (List.mem_of_getElem? (i := 10) rfl)
theorem w_486 : Cond.methodLink "ObjectForgeModel" 991 ⟨"ObjectForgeModel", "isSign", "(I)Z"⟩ ∈ bw := j_19 _ (List.mem_of_getElem? (i := 11) rfl)
theorem w_487 : Cond.methodLink "ObjectForgeModel" 1150 ⟨"ObjectForgeModel", "label", "()V"⟩ ∈ bw := j_19 _ (List.mem_of_getElem? (i := 12) rfl)
theorem w_488 : Cond.methodLink "ObjectForgeModel" 1153 ⟨"ObjectForgeModel", "found", "(J)J"⟩ ∈ bw := j_19 _ (List.mem_of_getElem? (i := 13) rfl)
theorem w_489 : Cond.methodLink "ObjectForgeModel" 1156 ⟨"ObjectForgeModel", "mayStand", "(I)Z"⟩ ∈ bw := j_19 _ (List.mem_of_getElem? (i := 14) rfl)
theorem w_490 : Cond.constantLong "ObjectForgeModel" 1159 (40 : Int64) ∈ bw := j_19 _ (List.mem_of_getElem? (i := 15) rfl)
theorem w_491 : Cond.methodLink "ObjectForgeModel" 1161 ⟨"ObjectForgeModel", "instruction", "(II)V"⟩ ∈ bw := j_19 _ (List.mem_of_getElem? (i := 16) rfl)
theorem w_492 : Cond.constantLong "ObjectForgeModel" 1108 (-32768 : Int64) ∈ bw := j_19 _ (List.mem_of_getElem? (i := 17) rfl)
theorem w_493 : Cond.constantLong "ObjectForgeModel" 1110 (32767 : Int64) ∈ bw := j_19 _ (List.mem_of_getElem? (i := 18) rfl)
theorem w_494 : Cond.methodLink "ObjectForgeModel" 1164 ⟨"ObjectForgeModel", "directive", "(I)V"⟩ ∈ bw := j_19 _ (List.mem_of_getElem? (i := 19) rfl)
theorem w_495 : Cond.constantLong "ObjectForgeModel" 1144 (255 : Int64) ∈ bw := j_19 _ (List.mem_of_getElem? (i := 20) rfl)
theorem w_496 : Cond.methodLink "ObjectForgeModel" 1172 y_Mo_settle ∈ bw := j_19 _ (List.mem_of_getElem? (i := 21) rfl)
theorem w_497 : Cond.instanceMethod y_Mo_settle ∈ bw := j_19 _ (List.mem_of_getElem? (i := 22) rfl)
theorem w_498 : Cond.code y_Mo_settle prog_11_method_71_code 9 none ∈ bw := j_19 _ (List.mem_of_getElem? (i := 23) rfl)
theorem w_499 : Cond.constantLong "ObjectForgeModel" 1167 (4 : Int64) ∈ bw := j_19 _ (List.mem_of_getElem? (i := 24) rfl)
theorem w_500 : Cond.methodLink "ObjectForgeLaw" 82 y_Mo_fault ∈ bw := j_20 _ (List.mem_of_getElem? (i := 0) rfl)
theorem w_501 : Cond.instanceMethod y_Mo_fault ∈ bw := j_20 _ (List.mem_of_getElem? (i := 1) rfl)
theorem w_502 : Cond.selects "ObjectForgeModel" y_Mo_fault y_Mo_fault ∈ bw := j_20 _ (List.mem_of_getElem? (i := 2) rfl)
theorem w_503 : Cond.code y_Mo_fault prog_11_method_73_code 2 (some FieldType.int) ∈ bw := j_20 _ (List.mem_of_getElem? (i := 3) rfl)
theorem w_504 : Cond.methodLink "ObjectForgeLaw" 86 y_Mo_size ∈ bw := j_20 _ (List.mem_of_getElem? (i := 4) rfl)
theorem w_505 : Cond.instanceMethod y_Mo_size ∈ bw := j_20 _ (List.mem_of_getElem? (i := 5) rfl)
theorem w_506 : Cond.selects "ObjectForgeModel" y_Mo_size y_Mo_size ∈ bw := j_20 _ (List.mem_of_getElem? (i := 6) rfl)
theorem w_507 : Cond.code y_Mo_size prog_11_method_75_code 3 (some FieldType.int) ∈ bw := j_20 _ (List.mem_of_getElem? (i := 7) rfl)
theorem w_508 : Cond.methodLink "ObjectForgeModel" 1181 y_Mo_within ∈ bw := j_20 _ (List.mem_of_getElem? (i := 8) rfl)
theorem w_509 : Cond.static y_Mo_within ∈ bw := j_20 _ (List.mem_of_getElem? (i := 9) rfl)
theorem w_510 : Cond.code y_Mo_within prog_11_method_74_code 2 (some FieldType.boolean) ∈ bw := j_20 _ (List.mem_of_getElem? (i := 10) rfl)
theorem w_511 : Cond.methodLink "ObjectForgeLaw" 90 y_Mo_byteAt ∈ bw := j_20 _ (List.mem_of_getElem? (i := 11) rfl)
theorem w_512 : Cond.instanceMethod y_Mo_byteAt ∈ bw := j_20 _ (List.mem_of_getElem? (i := 12) rfl)
theorem w_513 : Cond.selects "ObjectForgeModel" y_Mo_byteAt y_Mo_byteAt ∈ bw := j_20 _ (List.mem_of_getElem? (i := 13) rfl)
theorem w_514 : Cond.code y_Mo_byteAt prog_11_method_76_code 4 (some FieldType.int) ∈ bw := j_20 _ (List.mem_of_getElem? (i := 14) rfl)
theorem w_515 : Cond.methodLink "ObjectForgeLaw" 93 y_Mo_symbol ∈ bw := j_20 _ (List.mem_of_getElem? (i := 15) rfl)
theorem w_516 : Cond.instanceMethod y_Mo_symbol ∈ bw := j_20 _ (List.mem_of_getElem? (i := 16) rfl)
theorem w_517 : Cond.selects "ObjectForgeModel" y_Mo_symbol y_Mo_symbol ∈ bw := j_20 _ (List.mem_of_getElem? (i := 17) rfl)
theorem w_518 : Cond.code y_Mo_symbol prog_11_method_77_code 5 (some FieldType.int) ∈ bw := j_20 _ (List.mem_of_getElem? (i := 18) rfl)
theorem w_519 : Cond.methodLink "ObjectForgeLaw" 96 y_Mo_letter ∈ bw := j_20 _ (List.mem_of_getElem? (i := 19) rfl)
theorem w_520 : Cond.instanceMethod y_Mo_letter ∈ bw := j_20 _ (List.mem_of_getElem? (i := 20) rfl)
theorem w_521 : Cond.selects "ObjectForgeModel" y_Mo_letter y_Mo_letter ∈ bw := j_20 _ (List.mem_of_getElem? (i := 21) rfl)
theorem w_522 : Cond.code y_Mo_letter prog_11_method_78_code 9 (some FieldType.int) ∈ bw := j_20 _ (List.mem_of_getElem? (i := 22) rfl)
theorem w_523 : Cond.methodLink "ObjectForgeLaw" 99 y_Mo_relocation ∈ bw := j_20 _ (List.mem_of_getElem? (i := 23) rfl)
theorem w_524 : Cond.instanceMethod y_Mo_relocation ∈ bw := j_20 _ (List.mem_of_getElem? (i := 24) rfl)
theorem w_525 : Cond.selects "ObjectForgeModel" y_Mo_relocation y_Mo_relocation ∈ bw := j_21 _ (List.mem_of_getElem? (i := 0) rfl)
theorem w_526 : Cond.code y_Mo_relocation prog_11_method_79_code 5 (some FieldType.int) ∈ bw := j_21 _ (List.mem_of_getElem? (i := 1) rfl)
theorem w_527 : Cond.methodLink "ObjectForgeLaw" 102 y_Mo_link ∈ bw := j_21 _ (List.mem_of_getElem? (i := 2) rfl)
theorem w_528 : Cond.instanceMethod y_Mo_link ∈ bw := j_21 _ (List.mem_of_getElem? (i := 3) rfl)
theorem w_529 : Cond.selects "ObjectForgeModel" y_Mo_link y_Mo_link ∈ bw := j_21 _ (List.mem_of_getElem? (i := 4) rfl)
theorem w_530 : Cond.code y_Mo_link prog_11_method_85_code 7 (some FieldType.int) ∈ bw := j_21 _ (List.mem_of_getElem? (i := 5) rfl)
theorem w_531 : Cond.methodLink "ObjectForgeModel" 1195 ⟨"ObjectForgeModel", "failed", "(III)I"⟩ ∈ bw := j_21 _ (List.mem_of_getElem? (i := 6) rfl)
theorem w_532 : Cond.methodLink "ObjectForgeModel" 1199 ⟨"ObjectForgeModel", "lay", "()I"⟩ ∈ bw := j_21 _ (List.mem_of_getElem? (i := 7) rfl)
theorem w_533 : Cond.methodLink "ObjectForgeModel" 1202 ⟨"ObjectForgeModel", "other", "(III)I"⟩ ∈ bw := j_21 _ (List.mem_of_getElem? (i := 8) rfl)
theorem w_534 : Cond.methodLink "ObjectForgeModel" 1205 ⟨"ObjectForgeModel", "placeOf", "(I)I"⟩ ∈ bw := j_21 _ (List.mem_of_getElem? (i := 9) rfl)
theorem w_535 : Cond.methodLink "ObjectForgeModel" 1208 ⟨"ObjectForgeModel", "done", "(II)Z"⟩ ∈ bw := j_21 _ (List.mem_of_getElem? (i := 10) rfl)
theorem w_536 : Cond.methodLink "ObjectForgeModel" 1217 ⟨"ObjectForgeModel", "wordIn", "(I)I"⟩ ∈ bw := j_21 _ (List.mem_of_getElem? (i := 11) rfl)
theorem w_537 : Cond.methodLink "ObjectForgeLaw" 105 y_Mo_word ∈ bw := j_21 _ (List.mem_of_getElem? (i := 12) rfl)
theorem w_538 : Cond.instanceMethod y_Mo_word ∈ bw := j_21 _ (List.mem_of_getElem? (i := 13) rfl)
theorem w_539 : Cond.selects "ObjectForgeModel" y_Mo_word y_Mo_word ∈ bw := j_21 _ (List.mem_of_getElem? (i := 14) rfl)
theorem w_540 : Cond.code y_Mo_word prog_11_method_88_code 3 (some FieldType.int) ∈ bw := j_21 _ (List.mem_of_getElem? (i := 15) rfl)
theorem w_541 : Cond.methodLink "ObjectForgeLaw" 108 y_Mo_address ∈ bw := j_21 _ (List.mem_of_getElem? (i := 16) rfl)
theorem w_542 : Cond.instanceMethod y_Mo_address ∈ bw := j_21 _ (List.mem_of_getElem? (i := 17) rfl)
theorem w_543 : Cond.selects "ObjectForgeModel" y_Mo_address y_Mo_address ∈ bw := j_21 _ (List.mem_of_getElem? (i := 18) rfl)
theorem w_544 : Cond.code y_Mo_address prog_11_method_89_code 3 (some FieldType.int) ∈ bw := j_21 _ (List.mem_of_getElem? (i := 19) rfl)
theorem w_545 : Cond.methodLink "ObjectForgeLaw" 112 y_Mo_clear ∈ bw := j_21 _ (List.mem_of_getElem? (i := 20) rfl)
theorem w_546 : Cond.instanceMethod y_Mo_clear ∈ bw := j_21 _ (List.mem_of_getElem? (i := 21) rfl)
theorem w_547 : Cond.selects "ObjectForgeModel" y_Mo_clear y_Mo_clear ∈ bw := j_21 _ (List.mem_of_getElem? (i := 22) rfl)
theorem w_548 : Cond.code y_Mo_clear prog_11_method_90_code 2 (some FieldType.int) ∈ bw := j_21 _ (List.mem_of_getElem? (i := 23) rfl)
theorem w_549 : Cond.methodLink "ObjectForgeLaw" 115 y_Mo_count ∈ bw := j_21 _ (List.mem_of_getElem? (i := 24) rfl)
theorem w_550 : Cond.instanceMethod y_Mo_count ∈ bw := j_22 _ (List.mem_of_getElem? (i := 0) rfl)
theorem w_551 : Cond.selects "ObjectForgeModel" y_Mo_count y_Mo_count ∈ bw := j_22 _ (List.mem_of_getElem? (i := 1) rfl)
theorem w_552 : Cond.code y_Mo_count prog_11_method_91_code 3 (some FieldType.int) ∈ bw := j_22 _ (List.mem_of_getElem? (i := 2) rfl)
theorem w_553 : Cond.selects "ObjectForge$Assembler" y_As_readLabels y_As_readLabels ∈ bw := j_22 _ (List.mem_of_getElem? (i := 3) rfl)
theorem w_554 : Cond.selects "ObjectForge$Assembler" y_As_readStatement y_As_readStatement ∈ bw := j_22 _ (List.mem_of_getElem? (i := 4) rfl)
theorem w_555 : Cond.selects "ObjectForge$Assembler" y_As_settleBranches y_As_settleBranches ∈ bw := j_22 _ (List.mem_of_getElem? (i := 5) rfl)
theorem w_556 : Cond.selects "ObjectForge" y_OF_unitNumbered y_OF_unitNumbered ∈ bw := j_22 _ (List.mem_of_getElem? (i := 6) rfl)
theorem w_557 : Cond.selects "ObjectForgeModel" y_Mo_refuse y_Mo_refuse ∈ bw := j_22 _ (List.mem_of_getElem? (i := 7) rfl)
theorem w_558 : Cond.selects "ObjectForgeModel" y_Mo_four y_Mo_four ∈ bw := j_22 _ (List.mem_of_getElem? (i := 8) rfl)
theorem w_559 : Cond.selects "ObjectForgeModel" y_Mo_fine y_Mo_fine ∈ bw := j_22 _ (List.mem_of_getElem? (i := 9) rfl)
theorem w_560 : Cond.selects "ObjectForgeModel" y_Mo_read y_Mo_read ∈ bw := j_22 _ (List.mem_of_getElem? (i := 10) rfl)
theorem w_561 : Cond.selects "ObjectForgeModel" y_Mo_next y_Mo_next ∈ bw := j_22 _ (List.mem_of_getElem? (i := 11) rfl)
theorem w_562 : Cond.selects "ObjectForgeModel" y_Mo_here y_Mo_here ∈ bw := j_22 _ (List.mem_of_getElem? (i := 12) rfl)
theorem w_563 : Cond.selects "ObjectForgeModel" y_Mo_settle y_Mo_settle ∈ bw := j_22 _ (List.mem_of_getElem? (i := 13) rfl)
theorem bw_good : ∀ w ∈ bw, goodWord w = true := by
  have h : bw.all goodWord = true := by decide +kernel
  exact fun w hw => List.all_eq_true.mp h w hw
theorem xg {w : Cond} (h : w ∈ bw) : GoodIn bw (w :: bw) := fun z hz => (List.mem_cons.mp hz).elim (fun e => e ▸ ⟨h, good_of_word (bw_good _ h)⟩) (fun h2 => ⟨h2, good_of_word (bw_good _ h2)⟩)
